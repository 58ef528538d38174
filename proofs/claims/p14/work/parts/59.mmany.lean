section
/-! the model's walks: copies, turned, rotated -/
theorem cpy_wV {V V' : mm_M} {w v : Nat} (hv : wV V v) (h2 : V' 2 = V 2) (h : cpyR V V' w v) : wV V' w := by
  obtain ⟨a, b, c⟩ := hv
  obtain ⟨h1, h3, h4⟩ := h
  refine ⟨by rw [h1]; exact a, by rw [h3]; exact b, fun i hi => ?_⟩
  rw [h1] at hi
  rw [h4 i hi, h2]
  exact c i hi
theorem cpy_wD {V V' : mm_M} {w v : Nat} (hd : wD V v) (h : cpyR V V' w v) : wD V' w := by
  obtain ⟨h1, h3, h4⟩ := h
  intro i j hi hj e
  rw [h1] at hi hj
  rw [h4 i hi, h4 j hj] at e
  exact hd i j hi hj e
theorem wk_ne {k v : Nat} (h : k ≠ v) : 8 + 2 * k ≠ 8 + 2 * v ∧ 8 + 2 * k + 1 ≠ 8 + 2 * v ∧ 8 + 2 * k ≠ 8 + 2 * v + 1 ∧ 8 + 2 * k + 1 ≠ 8 + 2 * v + 1 := by omega
def sp_X5_copied : mm_S := fun av M d Q => match av with
  | [.inr (.inr (.inl o)), .inl k, .inl v] =>  o = 17 ∧ (0 ≤ k ∧ k < 4) ∧ (0 ≤ v ∧ v < 4) ∧ k ≠ v ∧ mV M k.toNat ∧ ∀ M', fX M M' ∧ M' 17 = M 17 ∧ fr [8 + 2 * v.toNat, 8 + 2 * v.toNat + 1] (vX M) (vX M') ∧ cpyR (vX M) (vX M') (8 + 2 * v.toNat) (8 + 2 * k.toNat) ∧ mV M' v.toNat → Q (.inl none) M' d
  | _ => False
def ct_X5_copied : List (Nat × mm_Ca) := [(98, (0, 3, 14, sp_X5_stepOf, 0))]
abbrev rr_X5_copied (Q : mm_Q) := mm_run (mm_look flX5) (mm_look ct_X5_copied) mm_x0 (mm_look ([] : List (Nat × Int))) (fun _ => none) 0 0 (fun _ _ => none) Q kdX5_copied
set_option maxRecDepth 20000 in
theorem lp_X5_copied {M0 : mm_M} {d : List Nat} {Q : mm_Q} {k v n : Nat} (hk : k < 4) (hv : v < 4) (hne : k ≠ v) (hn : M0 21 k = n) (hn3 : n ≤ 30) (hq : ∀ M', fX M0 M' ∧ M' 17 = M0 17 ∧ fr [8 + 2 * v, 8 + 2 * v + 1] (vX M0) (vX M') ∧ cpyR (vX M0) (vX M') (8 + 2 * v) (8 + 2 * k) → Q (.inl none) M' d) : ∀ (j i : Nat) (M : mm_M), i + j = n → fX M0 M → M 17 = M0 17 → fr [8 + 2 * v, 8 + 2 * v + 1] (vX M0) (vX M) → vX M (8 + 2 * v) 2 = n → vX M (8 + 2 * v) 3 = vX M0 (8 + 2 * k) 3 → (∀ x : Nat, x < i → vX M (8 + 2 * v + 1) x = vX M0 (8 + 2 * k + 1) x) → rr_X5_copied Q 26 [some (mm_R 17), some (mm_I k), some (mm_I v), some (mm_I i)] [] M d 0 := by
  have hz := wk_ne hne
  have e0 : vX M0 (8 + 2 * k) 2 = n := by rw [vX_n hk]; exact hn
  intro j
  induction j with
  | zero =>
    intro i M hi hx h17 hf h1 h2 h3
    have e3 : M 21 k = n := by rw [← vX_n (M := M) hk, hf (8 + 2 * k) (by simp; omega), e0]
    have h9 := hq M ⟨hx, h17, hf, by rw [e0]; exact h1, h2, fun x hx => h3 x (by rw [e0] at hx; omega)⟩
    obtain ⟨K, hK, hK2⟩ : ∃ K : Nat → mm_K, (∀ t ls st M d u, K t ls st M d u → rr_X5_copied Q t ls st M d u) ∧ (∀ t ls st M d u, rr_X5_copied Q t ls st M d u → K t ls st M d u) := ⟨rr_X5_copied Q, fun _ _ _ _ _ _ h => h, fun _ _ _ _ _ _ h => h⟩
    refine mm_run_at (stop := [36]) (S := K) kkX5_copied 90 ?_ (fun _ _ _ _ _ _ _ h => hK _ _ _ _ _ _ h)
    repeat' (first | with_reducible assumption | with_reducible exact mm_i17 | with_reducible exact mm_i18 | with_reducible exact mm_i19 | with_reducible exact mm_i20 | with_reducible exact mm_i21 | with_reducible exact mm_i22 | ((with_reducible show mm_rv _ _ _ _ _); first | exact True.intro | exact mm_i17 | exact mm_i18 | exact mm_i19 | exact mm_i20 | exact mm_i21 | exact mm_i22) | ((with_reducible show mm_bool _ _); first | exact True.intro | exact Or.inl rfl | exact Or.inr rfl | (show (_ : Int) = 0 ∨ _ = 1)) | refine And.intro ?_ ?_ | intro _ | with_reducible exact True.intro | exact rfl | with_reducible exact Or.inl rfl | with_reducible exact Or.inr rfl | exact Nat.le_of_ble_eq_true rfl)
    all_goals (try simp (disch := omega) only [InI, Int.toNat_natCast, Int.tmod_eq_emod_of_nonneg, Int.tdiv_eq_ediv_of_nonneg, true_implies, true_or, or_true, mm_l18, mm_l19, mm_l20, mm_l21, mm_l22] at *)
    all_goals first | omega | exact h9 | skip
  | succ j ih =>
    intro i M hi hx h17 hf h1 h2 h3
    have e3 : M 21 k = n := by rw [← vX_n (M := M) hk, hf (8 + 2 * k) (by simp; omega), e0]
    obtain ⟨K, hK, hK2⟩ : ∃ K : Nat → mm_K, (∀ t ls st M d u, K t ls st M d u → rr_X5_copied Q t ls st M d u) ∧ (∀ t ls st M d u, rr_X5_copied Q t ls st M d u → K t ls st M d u) := ⟨rr_X5_copied Q, fun _ _ _ _ _ _ h => h, fun _ _ _ _ _ _ h => h⟩
    have step : ∀ M', fX M M' → M' 17 = M 17 → vX M' = mm_up (vX M) (8 + 2 * v + 1) i (vX M (8 + 2 * k + 1) i) → K 26 [some (mm_R 17), some (mm_I k), some (mm_I v), some (mm_I ((i : Int) + 1))] [] M' d 0 := by
      intro M' g1 g17 g2
      refine hK2 _ _ _ _ _ _ (ih (i + 1) M' (by omega) (hx.tr g1) (by rw [g17, h17]) (by rw [g2]; exact hf.up (by simp)) (by rw [g2, mm_up_ob (by omega)]; exact h1) (by rw [g2, mm_up_ob (by omega)]; exact h2) (fun x hx => ?_))
      rw [g2]
      by_cases e : x = i
      · subst e
        simp [mm_up]
        rw [hf (8 + 2 * k + 1) (by simp; omega)]
      · simp [mm_up, e]
        exact h3 x (by omega)
    refine mm_run_at (stop := [26, 59]) (S := K) kkX5_copied 90 ?_ (fun _ _ _ _ _ _ _ h => hK _ _ _ _ _ _ h)
    repeat' (first | with_reducible assumption | with_reducible exact mm_i17 | with_reducible exact mm_i18 | with_reducible exact mm_i19 | with_reducible exact mm_i20 | with_reducible exact mm_i21 | with_reducible exact mm_i22 | ((with_reducible show mm_rv _ _ _ _ _); first | exact True.intro | exact mm_i17 | exact mm_i18 | exact mm_i19 | exact mm_i20 | exact mm_i21 | exact mm_i22) | ((with_reducible show mm_bool _ _); first | exact True.intro | exact Or.inl rfl | exact Or.inr rfl | (show (_ : Int) = 0 ∨ _ = 1)) | refine And.intro ?_ ?_ | intro _ | with_reducible exact True.intro | exact rfl | with_reducible exact Or.inl rfl | with_reducible exact Or.inr rfl | exact Nat.le_of_ble_eq_true rfl)
    all_goals (try simp (disch := omega) only [InI, Int.toNat_natCast, Int.tmod_eq_emod_of_nonneg, Int.tdiv_eq_ediv_of_nonneg, true_implies, true_or, or_true, mm_l18, mm_l19, mm_l20, mm_l21, mm_l22] at *)
    all_goals first | omega | exact step _ (fX.rf.up (by omega)) (mm_up_o _ (by omega)) (vX_e20 hv (by omega) (by omega) (vX_r20 hk (by omega) (by omega))) | skip
set_option maxRecDepth 20000 in
theorem rn_X5_copied : mm_RN flX5 ct_X5_copied mm_x0 [] 0 0 4 kdX5_copied sp_X5_copied := by
  intro av M d Q h
  unfold sp_X5_copied at h
  split at h
  · rename_i o k v
    obtain ⟨rfl, hk, hv, hne, hm, hq⟩ := h
    have v1 := hm.1
    obtain ⟨n, hn⟩ := Int.eq_ofNat_of_zero_le v1.1
    obtain ⟨k, rfl⟩ := Int.eq_ofNat_of_zero_le hk.1
    obtain ⟨v, rfl⟩ := Int.eq_ofNat_of_zero_le hv.1
    simp only [Int.toNat_natCast] at *
    have hkv : k ≠ v := by omega
    have hk4 : k < 4 := by omega
    have hv4 : v < 4 := by omega
    have hz := wk_ne hkv
    have hw := (mV_i hk4).mp hm
    have eb := vX_b (M := M) hk4
    have en := vX_n (M := M) hk4
    have ki := isK_le (isKk hv4)
    have h8 := lp_X5_copied (M0 := M) (d := d) (Q := Q) hk4 hv4 hkv hn (by omega) (fun M' h => hq M' ⟨h.1, h.2.1, h.2.2.1, h.2.2.2, (mV_i hv4).mpr (cpy_wV hw (h.2.2.1 2 (by simp; omega)) h.2.2.2)⟩) n 0
    obtain ⟨K, hK, hK2⟩ : ∃ K : Nat → mm_K, (∀ t ls st M d u, K t ls st M d u → rr_X5_copied Q t ls st M d u) ∧ (∀ t ls st M d u, rr_X5_copied Q t ls st M d u → K t ls st M d u) := ⟨rr_X5_copied Q, fun _ _ _ _ _ _ h => h, fun _ _ _ _ _ _ h => h⟩
    have st : ∀ M', fX M M' → M' 17 = M 17 → vX M' = mm_up (mm_up (vX M) (8 + 2 * v) 3 (vX M (8 + 2 * k) 3)) (8 + 2 * v) 2 n → K 26 [some (mm_R 17), some (mm_I k), some (mm_I v), some (mm_I 0)] [] M' d 0 := by
      intro M' g1 g17 g2
      refine hK2 _ _ _ _ _ _ (h8 M' (by omega) g1 g17 (by rw [g2]; exact (fr.rf.up (by simp)).up (by simp)) (by rw [g2]; simp [mm_up]) (by rw [g2]; simp [mm_up]) (fun x hx => by omega))
    refine ⟨Nat.le_of_ble_eq_true rfl, ?_⟩
    refine mm_run_at (stop := [26]) (S := K) kkX5_copied 90 ?_ (fun _ _ _ _ _ _ _ h => hK _ _ _ _ _ _ h)
    repeat' (first | with_reducible assumption | with_reducible exact mm_i17 | with_reducible exact mm_i18 | with_reducible exact mm_i19 | with_reducible exact mm_i20 | with_reducible exact mm_i21 | with_reducible exact mm_i22 | ((with_reducible show mm_rv _ _ _ _ _); first | exact True.intro | exact mm_i17 | exact mm_i18 | exact mm_i19 | exact mm_i20 | exact mm_i21 | exact mm_i22) | ((with_reducible show mm_bool _ _); first | exact True.intro | exact Or.inl rfl | exact Or.inr rfl | (show (_ : Int) = 0 ∨ _ = 1)) | refine And.intro ?_ ?_ | intro _ | with_reducible exact True.intro | exact rfl | with_reducible exact Or.inl rfl | with_reducible exact Or.inr rfl | exact Nat.le_of_ble_eq_true rfl)
    all_goals (try simp (disch := omega) only [InI, Int.toNat_natCast, Int.tmod_eq_emod_of_nonneg, Int.tdiv_eq_ediv_of_nonneg, true_implies, true_or, or_true, mm_l18, mm_l19, mm_l20, mm_l21, mm_l22] at *)
    all_goals first | omega | exact st _ ((fX.rf.up (by omega)).up (by omega)) (by rw [mm_up_o _ (by omega), mm_up_o _ (by omega)]) (by rw [vX_e21 (k := v) (y := (n : Int)) hv4 rfl (by rw [mm_up_ob (by omega)]; omega), vX_e22 (k := v) (y := vX M (8 + 2 * k) 3) hv4 rfl (by rw [eb])]) | skip
  · exact h.elim
theorem me_X5_copied {l : Launch} (hl : l.stackTraces = false) : mm_Met l yX5_copied cX5_copied 4 none [] 7 122 0 sp_X5_copied := mm_mt hl rn_X5_copied ⟨plX5, rfl⟩ kkX5_copied rfl ⟨Nat.le_of_ble_eq_true rfl, Nat.le_of_ble_eq_true rfl⟩ flkX5 (fun _ h => nomatch h) (⟨mm_pe (me_X5_stepOf hl) mwX5_stepOf (mm_t6 158 rfl rfl) (Nat.le_of_ble_eq_true rfl) (Nat.le_of_ble_eq_true rfl), trivial⟩) (mm_xe0 _) n9X5
theorem mm_up_ob_21 {M : mm_M} {a b : Nat} {x : Int} : mm_up M 22 a x 21 b = M 21 b := mm_up_ob (by decide)
theorem cor_in {V : mm_M} {w : Nat} {p : Int} (ht : tW V) (hv : wV V w) : 0 ≤ cor V w p ∧ cor V w p < 10 := by
  unfold cor
  split
  · have h := hv.2.2 (p - 1).toNat (by omega)
    have t1 := ht.1
    have t2 := ht.2.1 (V (w + 1) (p - 1).toNat / 2).toNat (by omega)
    unfold gl
    split <;> omega
  · exact hv.2.1
theorem rev_wV {V V' : mm_M} {w : Nat} (ht : tW V) (hv : wV V w) (h2 : V' 2 = V 2) (h : revR V V' w) : wV V' w := by
  have hc := cor_in (p := V w 2) ht hv
  obtain ⟨a, b, c⟩ := hv
  obtain ⟨h1, h3, h4⟩ := h
  refine ⟨by rw [h1]; exact a, by rw [h3]; exact hc, fun i hi => ?_⟩
  rw [h1] at hi
  rw [h4 i hi, h2]
  exact c _ (by omega)
theorem rev_wD {V V' : mm_M} {w : Nat} (hd : wD V w) (h : revR V V' w) : wD V' w := by
  obtain ⟨h1, h3, h4⟩ := h
  intro i j hi hj e
  rw [h1] at hi hj
  rw [h4 i hi, h4 j hj] at e
  have := hd _ _ (by omega) (by omega) e
  omega
def sp_X5_turned : mm_S := fun av M d Q => match av with
  | [.inr (.inr (.inl o)), .inl k] =>  o = 17 ∧ tX M ∧ (0 ≤ k ∧ k < 4) ∧ mV M k.toNat ∧ ∀ M', fX M M' ∧ M' 17 = M 17 ∧ fr [8 + 2 * k.toNat, 8 + 2 * k.toNat + 1] (vX M) (vX M') ∧ revR (vX M) (vX M') (8 + 2 * k.toNat) ∧ mV M' k.toNat → Q (.inl none) M' d
  | _ => False
def ct_X5_turned : List (Nat × mm_Ca) := [(108, (0, 2, 14, sp_X5_endOf, 0)), (117, (0, 3, 14, sp_X5_take, 0)), (120, (0, 4, 14, sp_X5_put, 0))]
abbrev rr_X5_turned (Q : mm_Q) := mm_run (mm_look flX5) (mm_look ct_X5_turned) mm_x0 (mm_look ([] : List (Nat × Int))) (fun _ => none) 0 0 (fun _ _ => none) Q kdX5_turned
set_option maxRecDepth 20000 in
theorem lp_X5_turned {M0 : mm_M} {d : List Nat} {Q : mm_Q} {k n : Nat} (hk : k < 4) (hn : M0 21 k = n) (hn3 : n ≤ 30) (hq : ∀ M', fX M0 M' ∧ M' 17 = M0 17 ∧ fr [8 + 2 * k, 8 + 2 * k + 1] (vX M0) (vX M') ∧ revR (vX M0) (vX M') (8 + 2 * k) → Q (.inl none) M' d) : ∀ (j i : Nat) (M : mm_M), i + j = n → fX M0 M → M 17 = M0 17 → mV M k → fr [8 + 2 * k, 8 + 2 * k + 1] (vX M0) (vX M) → M 21 k = n → vX M (8 + 2 * k) 3 = cor (vX M0) (8 + 2 * k) n → (∀ x : Nat, x < i → vX M (8 + 2 * k + 1) x = vX M0 (8 + 2 * k + 1) (n - 1 - x)) → (∀ x : Nat, i ≤ x → x < n → vX M (8 + 2 * k + 1) x = vX M0 (8 + 2 * k + 1) (x - i)) → rr_X5_turned Q 20 [some (mm_R 17), some (mm_I k), some (mm_I n), some (mm_I i)] [] M d 0 := by
  have hw := isKk hk
  have e0 : vX M0 (8 + 2 * k) 2 = n := by rw [vX_n hk]; exact hn
  intro j
  induction j with
  | zero =>
    intro i M hi hx h17 hm hf hl hb h1 h2
    have en := vX_n (M := M) hk
    have h9 := hq M ⟨hx, h17, hf, by rw [en, e0]; exact hl, by rw [e0]; exact hb, fun x hx => by rw [e0] at hx ⊢; rw [Int.toNat_natCast]; exact h1 x (by omega)⟩
    obtain ⟨K, hK, hK2⟩ : ∃ K : Nat → mm_K, (∀ t ls st M d u, K t ls st M d u → rr_X5_turned Q t ls st M d u) ∧ (∀ t ls st M d u, rr_X5_turned Q t ls st M d u → K t ls st M d u) := ⟨rr_X5_turned Q, fun _ _ _ _ _ _ h => h, fun _ _ _ _ _ _ h => h⟩
    refine mm_run_at (stop := [25]) (S := K) kkX5_turned 90 ?_ (fun _ _ _ _ _ _ _ h => hK _ _ _ _ _ _ h)
    repeat' (first | with_reducible assumption | with_reducible exact mm_i17 | with_reducible exact mm_i18 | with_reducible exact mm_i19 | with_reducible exact mm_i20 | with_reducible exact mm_i21 | with_reducible exact mm_i22 | ((with_reducible show mm_rv _ _ _ _ _); first | exact True.intro | exact mm_i17 | exact mm_i18 | exact mm_i19 | exact mm_i20 | exact mm_i21 | exact mm_i22) | ((with_reducible show mm_bool _ _); first | exact True.intro | exact Or.inl rfl | exact Or.inr rfl | (show (_ : Int) = 0 ∨ _ = 1)) | refine And.intro ?_ ?_ | intro _ | with_reducible exact True.intro | exact rfl | with_reducible exact Or.inl rfl | with_reducible exact Or.inr rfl | exact Nat.le_of_ble_eq_true rfl)
    all_goals (try simp (disch := omega) only [InI, Int.toNat_natCast, Int.tmod_eq_emod_of_nonneg, Int.tdiv_eq_ediv_of_nonneg, true_implies, true_or, or_true, mm_l18, mm_l19, mm_l20, mm_l21, mm_l22] at *)
    all_goals first | omega | exact h9 | skip
  | succ j ih =>
    intro i M hi hx h17 hm hf hl hb h1 h2
    have en := vX_n (M := M) hk
    have hwv := (mV_i hk).mp hm
    have e1n : ((n : Int) - 1).toNat = n - 1 := by omega
    have hst : stO (vX M) (vX M (8 + 2 * k + 1) ((n : Int) - 1).toNat) := hwv.2.2 _ (by rw [en, hl]; omega)
    obtain ⟨K, hK, hK2⟩ : ∃ K : Nat → mm_K, (∀ t ls st M d u, K t ls st M d u → rr_X5_turned Q t ls st M d u) ∧ (∀ t ls st M d u, rr_X5_turned Q t ls st M d u → K t ls st M d u) := ⟨rr_X5_turned Q, fun _ _ _ _ _ _ h => h, fun _ _ _ _ _ _ h => h⟩
    have nxt : ∀ M1, fX M M1 ∧ fr [8 + 2 * k, 8 + 2 * k + 1] (vX M) (vX M1) ∧ mV M1 k ∧ takR (vX M) (vX M1) (8 + 2 * k) ((n : Int) - 1) ∧ M1 17 = M 17 → (mV M1 k ∧ M1 21 k = (n : Int) - 1 ∧ stO (vX M1) (vX M (8 + 2 * k + 1) ((n : Int) - 1).toNat)) ∧ ∀ M2, fX M1 M2 ∧ fr [8 + 2 * k, 8 + 2 * k + 1] (vX M1) (vX M2) ∧ mV M2 k ∧ putR (vX M1) (vX M2) (8 + 2 * k) i (vX M (8 + 2 * k + 1) ((n : Int) - 1).toNat) ∧ M2 17 = M1 17 → K 20 [some (mm_R 17), some (mm_I k), some (mm_I n), some (mm_I ((i : Int) + 1))] [] M2 d 0 := by
      intro M1 ⟨g1, g2, g3, g4, g5⟩
      have en1 := vX_n (M := M1) hk
      have g6 : (0 ≤ (n : Int) - 1 ∧ (n : Int) - 1 < vX M (8 + 2 * k) 2) := by rw [en, hl]; omega
      rcases g4 with g4 | g4
      rotate_left
      · exact absurd g6 g4.1
      obtain ⟨-, g7, g8, g9⟩ := g4
      rw [en, hl] at g7 g9
      refine ⟨⟨g3, by rw [← en1, g7], by unfold stO; rw [vX_w2 g5]; exact hst⟩, fun M2 ⟨q1, q2, q3, q4, q5⟩ => ?_⟩
      have en2 := vX_n (M := M2) hk
      rcases q4 with q4 | q4
      rotate_left
      · exact absurd ⟨by omega, by rw [g7]; omega, by rw [g7]; omega⟩ q4.1
      obtain ⟨-, q7, q8, q9⟩ := q4
      rw [g7] at q7 q9
      refine hK2 _ _ _ _ _ _ (ih (i + 1) M2 (by omega) ((hx.tr g1).tr q1) (by rw [q5, g5, h17]) q3 ((hf.tr g2).tr q2) (by rw [← en2, q7]; omega) (by rw [q8, g8]; exact hb) (fun x hx => ?_) (fun x hx hx2 => ?_))
      · obtain ⟨a1, a2, a3⟩ := q9 x (by omega)
        by_cases e : x = i
        · subst e
          rw [a2 rfl, e1n, h2 (n - 1) (by omega) (by omega)]
        · rw [a1 (by omega), (g9 x (by omega)).1 (by omega)]
          exact h1 x (by omega)
      · obtain ⟨a1, a2, a3⟩ := q9 x (by omega)
        rw [a3 (by omega), (g9 (x - 1) (by omega)).1 (by omega), h2 (x - 1) (by omega) (by omega)]
        congr 1
        omega
    refine mm_run_at (stop := [20, 45]) (S := K) kkX5_turned 90 ?_ (fun _ _ _ _ _ _ _ h => hK _ _ _ _ _ _ h)
    repeat' (first | with_reducible assumption | with_reducible exact mm_i17 | with_reducible exact mm_i18 | with_reducible exact mm_i19 | with_reducible exact mm_i20 | with_reducible exact mm_i21 | with_reducible exact mm_i22 | ((with_reducible show mm_rv _ _ _ _ _); first | exact True.intro | exact mm_i17 | exact mm_i18 | exact mm_i19 | exact mm_i20 | exact mm_i21 | exact mm_i22 | ((with_reducible show mV _ _); exact hm) | ((with_reducible show mV _ _); exact (nxt _ (by assumption)).1.1) | ((with_reducible show stO _ _); exact (nxt _ (by assumption)).1.2.2)) | ((with_reducible show mV _ _); exact hm) | ((with_reducible show mV _ _); exact (nxt _ (by assumption)).1.1) | ((with_reducible show stO _ _); exact (nxt _ (by assumption)).1.2.2) | ((with_reducible show mm_bool _ _); first | exact True.intro | exact Or.inl rfl | exact Or.inr rfl | (show (_ : Int) = 0 ∨ _ = 1)) | refine And.intro ?_ ?_ | intro _ | with_reducible exact True.intro | exact rfl | with_reducible exact Or.inl rfl | with_reducible exact Or.inr rfl | exact Nat.le_of_ble_eq_true rfl)
    all_goals (try simp (disch := omega) only [InI, Int.toNat_natCast, Int.tmod_eq_emod_of_nonneg, Int.tdiv_eq_ediv_of_nonneg, true_implies, true_or, or_true, mm_l18, mm_l19, mm_l20, mm_l21, mm_l22] at *)
    all_goals first | omega | (have hx := (nxt _ (by assumption)).1.2.1; omega) | exact (nxt _ (by assumption)).2 _ (by assumption) | skip
set_option maxRecDepth 20000 in
theorem rn_X5_turned : mm_RN flX5 ct_X5_turned mm_x0 [] 0 0 4 kdX5_turned sp_X5_turned := by
  intro av M d Q h
  unfold sp_X5_turned at h
  split at h
  · rename_i o k
    obtain ⟨rfl, ht, hk, hm, hq⟩ := h
    have v1 := hm.1
    obtain ⟨n, hn⟩ := Int.eq_ofNat_of_zero_le v1.1
    obtain ⟨k, rfl⟩ := Int.eq_ofNat_of_zero_le hk.1
    simp only [Int.toNat_natCast] at *
    have hk4 : k < 4 := by omega
    have hw := (mV_i hk4).mp hm
    have en := vX_n (M := M) hk4
    have h8 := lp_X5_turned (M0 := M) (d := d) (Q := Q) hk4 hn (by omega) (fun M' h => hq M' ⟨h.1, h.2.1, h.2.2.1, h.2.2.2, (mV_i hk4).mpr (rev_wV (V := vX M) ht hw (h.2.2.1.k (isKk hk4)).1 h.2.2.2)⟩) n 0
    have hc := cor_in (V := vX M) (p := vX M (8 + 2 * k) 2) ht hw
    obtain ⟨K, hK, hK2⟩ : ∃ K : Nat → mm_K, (∀ t ls st M d u, K t ls st M d u → rr_X5_turned Q t ls st M d u) ∧ (∀ t ls st M d u, rr_X5_turned Q t ls st M d u → K t ls st M d u) := ⟨rr_X5_turned Q, fun _ _ _ _ _ _ h => h, fun _ _ _ _ _ _ h => h⟩
    have st : ∀ M' c, c = cor (vX M) (8 + 2 * k) (vX M (8 + 2 * k) 2) ∧ 0 ≤ c ∧ c < 10 → fX M M' → M' 17 = M 17 → vX M' = mm_up (vX M) (8 + 2 * k) 3 c → K 20 [some (mm_R 17), some (mm_I k), some (mm_I (M 21 k)), some (mm_I 0)] [] M' d 0 := by
      intro M' c hc2 g1 g17 g2
      have e2 : vX M' (8 + 2 * k) 2 = n := by rw [g2]; simp [mm_up]; rw [en, hn]
      have hw2 : wV (vX M') (8 + 2 * k) := by rw [g2]; exact hw.b hc2.2 (isKk hk4)
      rw [hn]
      refine hK2 _ _ _ _ _ _ (h8 M' (by omega) g1 g17 ((mV_i hk4).mpr hw2) (by rw [g2]; exact fr.rf.up (by simp)) (by rw [← vX_n (M := M') hk4, e2]) (by rw [g2]; simp [mm_up]; rw [hc2.1, en, hn]) (fun x hx => by omega) (fun x hx hx2 => by rw [g2, mm_up_o _ (by omega)]; rfl))
    refine ⟨Nat.le_of_ble_eq_true rfl, ?_⟩
    refine mm_run_at (stop := [20]) (S := K) kkX5_turned 90 ?_ (fun _ _ _ _ _ _ _ h => hK _ _ _ _ _ _ h)
    repeat' (first | with_reducible assumption | with_reducible exact mm_i17 | with_reducible exact mm_i18 | with_reducible exact mm_i19 | with_reducible exact mm_i20 | with_reducible exact mm_i21 | with_reducible exact mm_i22 | ((with_reducible show mm_rv _ _ _ _ _); first | exact True.intro | exact mm_i17 | exact mm_i18 | exact mm_i19 | exact mm_i20 | exact mm_i21 | exact mm_i22 | ((with_reducible show mV _ _); exact hm)) | ((with_reducible show mV _ _); exact hm) | ((with_reducible show mm_bool _ _); first | exact True.intro | exact Or.inl rfl | exact Or.inr rfl | (show (_ : Int) = 0 ∨ _ = 1)) | refine And.intro ?_ ?_ | intro _ | with_reducible exact True.intro | exact rfl | with_reducible exact Or.inl rfl | with_reducible exact Or.inr rfl | exact Nat.le_of_ble_eq_true rfl)
    all_goals (try simp (disch := omega) only [mm_up_ob_21, InI, Int.toNat_natCast, Int.tmod_eq_emod_of_nonneg, Int.tdiv_eq_ediv_of_nonneg, true_implies, true_or, or_true, mm_l18, mm_l19, mm_l20, mm_l21, mm_l22] at *)
    all_goals first | omega | exact st _ _ (by assumption) (fX.rf.up (by omega)) (mm_up_o _ (by omega)) (vX_e22 hk4 (by omega) rfl) | skip
  · exact h.elim
theorem me_X5_turned {l : Launch} (hl : l.stackTraces = false) : mm_Met l yX5_turned cX5_turned 4 none [] 9 165 0 sp_X5_turned := mm_mt hl rn_X5_turned ⟨plX5, rfl⟩ kkX5_turned rfl ⟨Nat.le_of_ble_eq_true rfl, Nat.le_of_ble_eq_true rfl⟩ flkX5 (fun _ h => nomatch h) (⟨mm_pe (me_X5_endOf hl) mwX5_endOf (mm_t6 181 rfl rfl) (Nat.le_of_ble_eq_true rfl) (Nat.le_of_ble_eq_true rfl), mm_pe (me_X5_take hl) mwX5_take (mm_t6 193 rfl rfl) (Nat.le_of_ble_eq_true rfl) (Nat.le_of_ble_eq_true rfl), mm_pe (me_X5_put hl) mwX5_put (mm_t6 197 rfl rfl) (Nat.le_of_ble_eq_true rfl) (Nat.le_of_ble_eq_true rfl), trivial⟩) (mm_xe0 _) n9X5
end
section
/-! the model's walks: rotated, home, whole -/
def sp_X5_rotated : mm_S := fun av M d Q => match av with
  | [.inr (.inr (.inl o)), .inl k, .inl b] =>  o = 17 ∧ tX M ∧ (0 ≤ k ∧ k < 4) ∧ mV M k.toNat ∧ (0 ≤ b ∧ b ≤ 30) ∧ ∀ M', fX M M' ∧ M' 17 = M 17 ∧ fr [8 + 2 * k.toNat, 8 + 2 * k.toNat + 1] (vX M) (vX M') ∧ rotR (vX M) (vX M') (8 + 2 * k.toNat) (if M 21 k.toNat = 0 then 0 else b.toNat) ∧ mV M' k.toNat → Q (.inl none) M' d
  | _ => False
def ct_X5_rotated : List (Nat × mm_Ca) := [(117, (0, 3, 14, sp_X5_take, 0)), (102, (0, 2, 14, sp_X5_comesTo, 0)), (120, (0, 4, 14, sp_X5_put, 0))]
abbrev rr_X5_rotated (Q : mm_Q) := mm_run (mm_look flX5) (mm_look ct_X5_rotated) mm_x0 (mm_look ([] : List (Nat × Int))) (fun _ => none) 0 0 (fun _ _ => none) Q kdX5_rotated
set_option maxRecDepth 20000 in
theorem lp_X5_rotated {M0 : mm_M} {d : List Nat} {Q : mm_Q} {k b : Nat} (hk : k < 4) (ht0 : tX M0) (hm0 : mV M0 k) (h0 : 0 < M0 21 k) (hb : b ≤ 30) (hq : ∀ M', fX M0 M' ∧ M' 17 = M0 17 ∧ fr [8 + 2 * k, 8 + 2 * k + 1] (vX M0) (vX M') ∧ rotR (vX M0) (vX M') (8 + 2 * k) b ∧ mV M' k → Q (.inl none) M' d) : ∀ (j t : Nat) (M : mm_M) (x4 : Option mm_V), t + j = b → fX M0 M → M 17 = M0 17 → mV M k → fr [8 + 2 * k, 8 + 2 * k + 1] (vX M0) (vX M) → rotR (vX M0) (vX M) (8 + 2 * k) t → rr_X5_rotated Q 2 [some (mm_R 17), some (mm_I k), some (mm_I b), some (mm_I t), x4] [] M d 0 := by
  have hw := isKk hk
  have en0 := vX_n (M := M0) hk
  have hw0 := (mV_i hk).mp hm0
  intro j
  induction j with
  | zero =>
    intro t M x4 hi hx h17 hm hf hr
    have e : t = b := by omega
    subst e
    have h9 := hq M ⟨hx, h17, hf, hr, hm⟩
    obtain ⟨K, hK, hK2⟩ : ∃ K : Nat → mm_K, (∀ t ls st M d u, K t ls st M d u → rr_X5_rotated Q t ls st M d u) ∧ (∀ t ls st M d u, rr_X5_rotated Q t ls st M d u → K t ls st M d u) := ⟨rr_X5_rotated Q, fun _ _ _ _ _ _ h => h, fun _ _ _ _ _ _ h => h⟩
    refine mm_run_at (stop := [7]) (S := K) kkX5_rotated 90 ?_ (fun _ _ _ _ _ _ _ h => hK _ _ _ _ _ _ h)
    repeat' (first | with_reducible assumption | with_reducible exact mm_i17 | with_reducible exact mm_i18 | with_reducible exact mm_i19 | with_reducible exact mm_i20 | with_reducible exact mm_i21 | with_reducible exact mm_i22 | ((with_reducible show mm_rv _ _ _ _ _); first | exact True.intro | exact mm_i17 | exact mm_i18 | exact mm_i19 | exact mm_i20 | exact mm_i21 | exact mm_i22) | ((with_reducible show mm_bool _ _); first | exact True.intro | exact Or.inl rfl | exact Or.inr rfl | (show (_ : Int) = 0 ∨ _ = 1)) | refine And.intro ?_ ?_ | intro _ | with_reducible exact True.intro | exact rfl | with_reducible exact Or.inl rfl | with_reducible exact Or.inr rfl | exact Nat.le_of_ble_eq_true rfl)
    all_goals (try simp (disch := omega) only [InI, Int.toNat_natCast, Int.tmod_eq_emod_of_nonneg, Int.tdiv_eq_ediv_of_nonneg, true_implies, true_or, or_true, mm_l18, mm_l19, mm_l20, mm_l21, mm_l22] at *)
    all_goals first | omega | exact h9 | skip
  | succ j ih =>
    intro t M x4 hi hx h17 hm hf hr
    have en := vX_n (M := M) hk
    have hwv := (mV_i hk).mp hm
    have ht := tX_to ht0 hf hw
    have hlen : M 21 k = M0 21 k := by rw [← en, hr.1, en0]
    have v1 := hm.1
    have hst : stO (vX M) (vX M (8 + 2 * k + 1) (0 : Int).toNat) := hwv.2.2 0 (by rw [en, hlen]; exact h0)
    obtain ⟨K, hK, hK2⟩ : ∃ K : Nat → mm_K, (∀ t ls st M d u, K t ls st M d u → rr_X5_rotated Q t ls st M d u) ∧ (∀ t ls st M d u, rr_X5_rotated Q t ls st M d u → K t ls st M d u) := ⟨rr_X5_rotated Q, fun _ _ _ _ _ _ h => h, fun _ _ _ _ _ _ h => h⟩
    have tk : ∀ M1, fX M M1 ∧ fr [8 + 2 * k, 8 + 2 * k + 1] (vX M) (vX M1) ∧ mV M1 k ∧ takR (vX M) (vX M1) (8 + 2 * k) 0 ∧ M1 17 = M 17 → (tX M1 ∧ M1 21 k = M 21 k - 1 ∧ 0 ≤ vX M (8 + 2 * k + 1) (0 : Int).toNat ∧ vX M (8 + 2 * k + 1) (0 : Int).toNat < 2 * M1 17 1) := by
      intro M1 ⟨g1, g2, g3, g4, g5⟩
      refine ⟨tX_to ht g2 hw, ?_, by have := hst.1; exact this, by have := hst.2; rw [g5]; exact this⟩
      rw [← vX_n (M := M1) hk, ← en]
      rcases g4 with h | h
      · exact h.2.1
      · exact absurd ⟨Int.le_refl _, by rw [en, hlen]; exact h0⟩ h.1
    have nxt : ∀ M1, fX M M1 ∧ fr [8 + 2 * k, 8 + 2 * k + 1] (vX M) (vX M1) ∧ mV M1 k ∧ takR (vX M) (vX M1) (8 + 2 * k) 0 ∧ M1 17 = M 17 → ∀ c, (c = glX M1 (vX M (8 + 2 * k + 1) (0 : Int).toNat) ∧ 0 ≤ c ∧ c < 10) → ∀ M2, M2 = mm_up M1 22 k c → (mV M2 k ∧ M2 21 k = M1 21 k ∧ stO (vX M2) (vX M (8 + 2 * k + 1) (0 : Int).toNat)) ∧ ∀ M3, fX M2 M3 ∧ fr [8 + 2 * k, 8 + 2 * k + 1] (vX M2) (vX M3) ∧ mV M3 k ∧ putR (vX M2) (vX M3) (8 + 2 * k) (M2 21 k) (vX M (8 + 2 * k + 1) (0 : Int).toNat) ∧ M3 17 = M2 17 → ∀ x4, K 2 [some (mm_R 17), some (mm_I k), some (mm_I b), some (mm_I ((t : Int) + 1)), x4] [] M3 d 0 := by
      intro M1 hg c hc M2 hM2
      have hk1 := tk M1 hg
      obtain ⟨g1, g2, g3, g4, g5⟩ := hg
      have hw1 := (mV_i hk).mp g3
      have e1 := g2.k hw
      have v2 : vX M2 = mm_up (vX M1) (8 + 2 * k) 3 c := by rw [hM2]; exact vX_u22 hk
      have e17 : M2 17 = M1 17 := by rw [hM2, mm_up_o _ (by omega)]
      refine ⟨⟨(mV_i hk).mpr (by rw [v2]; exact hw1.b hc.2 hw), by rw [hM2, mm_up_ob (by omega)], by unfold stO; rw [vX_24, e17]; exact hk1.2.2⟩, fun M3 ⟨q1, q2, q3, q4, q5⟩ x4 => ?_⟩
      have hgl : c = gl (vX M) (vX M (8 + 2 * k + 1) 0) := by
        rw [hc.1, gl_v]
        unfold gl
        rw [e1.2.1, e1.2.2]
        rfl
      have hr3 := rot_s (V := vX M0) (V1 := vX M) (V2 := vX M1) (V3 := vX M2) (V4 := vX M3) (t := t) hw hw0 (by rw [en0]; exact h0) hr (hf.k hw) g4 g2 ⟨by rw [v2, mm_up_ob2 (by omega)], by rw [v2, hgl]; simp [mm_up], by rw [v2, mm_up_o _ (by omega)]⟩ (by rw [vX_n (M := M2) hk]; exact q4)
      exact hK2 _ _ _ _ _ _ (ih (t + 1) M3 x4 (by omega) (((hx.tr g1).tr (by rw [hM2]; exact fX.rf.up (by omega))).tr q1) (by rw [q5, e17, g5, h17]) q3 (((hf.tr g2).tr (by rw [v2]; exact fr.rf.up (by simp))).tr q2) hr3)
    refine mm_run_at (stop := [2, 55]) (S := K) kkX5_rotated 90 ?_ (fun _ _ _ _ _ _ _ h => hK _ _ _ _ _ _ h)
    repeat' (first | with_reducible assumption | with_reducible exact mm_i17 | with_reducible exact mm_i18 | with_reducible exact mm_i19 | with_reducible exact mm_i20 | with_reducible exact mm_i21 | with_reducible exact mm_i22 | ((with_reducible show mm_rv _ _ _ _ _); first | exact True.intro | exact mm_i17 | exact mm_i18 | exact mm_i19 | exact mm_i20 | exact mm_i21 | exact mm_i22 | ((with_reducible show mV _ _); exact hm) | ((with_reducible show tX _); exact (tk _ (by assumption)).1) | ((with_reducible show mV _ _); exact (nxt _ (by assumption) _ (by assumption) _ rfl).1.1) | ((with_reducible show stO _ _); exact (nxt _ (by assumption) _ (by assumption) _ rfl).1.2.2)) | ((with_reducible show mV _ _); exact hm) | ((with_reducible show tX _); exact (tk _ (by assumption)).1) | ((with_reducible show mV _ _); exact (nxt _ (by assumption) _ (by assumption) _ rfl).1.1) | ((with_reducible show stO _ _); exact (nxt _ (by assumption) _ (by assumption) _ rfl).1.2.2) | ((with_reducible show mm_bool _ _); first | exact True.intro | exact Or.inl rfl | exact Or.inr rfl | (show (_ : Int) = 0 ∨ _ = 1)) | refine And.intro ?_ ?_ | intro _ | with_reducible exact True.intro | exact rfl | with_reducible exact Or.inl rfl | with_reducible exact Or.inr rfl | exact Nat.le_of_ble_eq_true rfl)
    all_goals (try simp (disch := omega) only [mm_up_ob_21, InI, Int.toNat_natCast, Int.tmod_eq_emod_of_nonneg, Int.tdiv_eq_ediv_of_nonneg, true_implies, true_or, or_true, mm_l18, mm_l19, mm_l20, mm_l21, mm_l22] at *)
    all_goals first | omega | (have hx := tk _ (by assumption); omega) | exact (nxt _ (by assumption) _ (by assumption) _ rfl).2 _ (by assumption) _ | exact (nxt _ (by assumption) _ (by assumption) _ rfl).2 _ (by rw [mm_up_ob_21]; assumption) _ | skip
set_option maxRecDepth 20000 in
theorem rn_X5_rotated : mm_RN flX5 ct_X5_rotated mm_x0 [] 0 0 5 kdX5_rotated sp_X5_rotated := by
  intro av M d Q h
  unfold sp_X5_rotated at h
  split at h
  · rename_i o k b
    obtain ⟨rfl, ht, hk, hm, hb, hq⟩ := h
    have v1 := hm.1
    obtain ⟨k, rfl⟩ := Int.eq_ofNat_of_zero_le hk.1
    obtain ⟨b, rfl⟩ := Int.eq_ofNat_of_zero_le hb.1
    simp only [Int.toNat_natCast] at *
    have hk4 : k < 4 := by omega
    have hw := (mV_i hk4).mp hm
    have en := vX_n (M := M) hk4
    by_cases h0 : M 21 k = 0
    · have h9 := hq M ⟨fX.rf, rfl, fr.rf, by rw [if_pos h0]; exact rot_0 hw, hm⟩
      obtain ⟨K, hK, hK2⟩ : ∃ K : Nat → mm_K, (∀ t ls st M d u, K t ls st M d u → rr_X5_rotated Q t ls st M d u) ∧ (∀ t ls st M d u, rr_X5_rotated Q t ls st M d u → K t ls st M d u) := ⟨rr_X5_rotated Q, fun _ _ _ _ _ _ h => h, fun _ _ _ _ _ _ h => h⟩
      refine ⟨Nat.le_of_ble_eq_true rfl, mm_run_at (stop := [16]) (S := K) kkX5_rotated 90 ?_ (fun _ _ _ _ _ _ _ h => hK _ _ _ _ _ _ h)⟩
      repeat' (first | with_reducible assumption | with_reducible exact mm_i17 | with_reducible exact mm_i18 | with_reducible exact mm_i19 | with_reducible exact mm_i20 | with_reducible exact mm_i21 | with_reducible exact mm_i22 | ((with_reducible show mm_rv _ _ _ _ _); first | exact True.intro | exact mm_i17 | exact mm_i18 | exact mm_i19 | exact mm_i20 | exact mm_i21 | exact mm_i22) | ((with_reducible show mm_bool _ _); first | exact True.intro | exact Or.inl rfl | exact Or.inr rfl | (show (_ : Int) = 0 ∨ _ = 1)) | refine And.intro ?_ ?_ | intro _ | with_reducible exact True.intro | exact rfl | with_reducible exact Or.inl rfl | with_reducible exact Or.inr rfl | exact Nat.le_of_ble_eq_true rfl)
      all_goals (try simp (disch := omega) only [InI, Int.toNat_natCast, Int.tmod_eq_emod_of_nonneg, Int.tdiv_eq_ediv_of_nonneg, true_implies, true_or, or_true, mm_l18, mm_l19, mm_l20, mm_l21, mm_l22] at *)
      all_goals first | omega | exact h9 | skip
    · have h8 := lp_X5_rotated (M0 := M) (d := d) (Q := Q) (b := b) hk4 ht hm (by omega) (by omega) (fun M' h => hq M' ⟨h.1, h.2.1, h.2.2.1, by rw [if_neg h0]; exact h.2.2.2.1, h.2.2.2.2⟩) b 0 M none (by omega) fX.rf rfl hm fr.rf (rot_0 hw)
      obtain ⟨K, hK, hK2⟩ : ∃ K : Nat → mm_K, (∀ t ls st M d u, K t ls st M d u → rr_X5_rotated Q t ls st M d u) ∧ (∀ t ls st M d u, rr_X5_rotated Q t ls st M d u → K t ls st M d u) := ⟨rr_X5_rotated Q, fun _ _ _ _ _ _ h => h, fun _ _ _ _ _ _ h => h⟩
      refine ⟨Nat.le_of_ble_eq_true rfl, mm_run_at (stop := [2]) (S := K) kkX5_rotated 90 ?_ (fun _ _ _ _ _ _ _ h => hK _ _ _ _ _ _ h)⟩
      have h8 := hK2 _ _ _ _ _ _ h8
      repeat' (first | with_reducible assumption | with_reducible exact mm_i17 | with_reducible exact mm_i18 | with_reducible exact mm_i19 | with_reducible exact mm_i20 | with_reducible exact mm_i21 | with_reducible exact mm_i22 | ((with_reducible show mm_rv _ _ _ _ _); first | exact True.intro | exact mm_i17 | exact mm_i18 | exact mm_i19 | exact mm_i20 | exact mm_i21 | exact mm_i22) | ((with_reducible show mm_bool _ _); first | exact True.intro | exact Or.inl rfl | exact Or.inr rfl | (show (_ : Int) = 0 ∨ _ = 1)) | refine And.intro ?_ ?_ | intro _ | with_reducible exact True.intro | exact rfl | with_reducible exact Or.inl rfl | with_reducible exact Or.inr rfl | exact Nat.le_of_ble_eq_true rfl)
      exact h8
  · exact h.elim
theorem me_X5_rotated {l : Launch} (hl : l.stackTraces = false) : mm_Met l yX5_rotated cX5_rotated 5 none [] 8 146 0 sp_X5_rotated := mm_mt hl rn_X5_rotated ⟨plX5, rfl⟩ kkX5_rotated rfl ⟨Nat.le_of_ble_eq_true rfl, Nat.le_of_ble_eq_true rfl⟩ flkX5 (fun _ h => nomatch h) (⟨mm_pe (me_X5_take hl) mwX5_take (mm_t6 193 rfl rfl) (Nat.le_of_ble_eq_true rfl) (Nat.le_of_ble_eq_true rfl), mm_pe (me_X5_comesTo hl) mwX5_comesTo (mm_t6 189 rfl rfl) (Nat.le_of_ble_eq_true rfl) (Nat.le_of_ble_eq_true rfl), mm_pe (me_X5_put hl) mwX5_put (mm_t6 197 rfl rfl) (Nat.le_of_ble_eq_true rfl) (Nat.le_of_ble_eq_true rfl), trivial⟩) (mm_xe0 _) n9X5
def sp_X5_isHome : mm_S := fun av M d Q => match av with
  | [.inr (.inr (.inl o)), .inl k] =>  o = 17 ∧ tX M ∧ (0 ≤ k ∧ k < 4) ∧ mV M k.toNat ∧ ∀ r, (r = 0 ∨ r = 1) ∧ (r = 1 ↔ cor (vX M) (8 + 2 * k.toNat) (vX M (8 + 2 * k.toNat) 2) = vX M (8 + 2 * k.toNat) 3) → Q (.inl (some (mm_I r))) M d
  | _ => False
def ct_X5_isHome : List (Nat × mm_Ca) := [(108, (0, 2, 14, sp_X5_endOf, 0))]
abbrev rr_X5_isHome (Q : mm_Q) := mm_run (mm_look flX5) (mm_look ct_X5_isHome) mm_x0 (mm_look ([] : List (Nat × Int))) (fun _ => none) 2 0 (fun _ _ => none) Q kdX5_isHome
set_option maxRecDepth 20000 in
theorem rn_X5_isHome : mm_RN flX5 ct_X5_isHome mm_x0 [] 2 0 2 kdX5_isHome sp_X5_isHome := by
  intro av M d Q h
  unfold sp_X5_isHome at h
  split at h
  · rename_i o k
    obtain ⟨rfl, ht, hk, hm, hq⟩ := h
    have v1 := hm.1
    have v2 := hm.2.1
    obtain ⟨k, rfl⟩ := Int.eq_ofNat_of_zero_le hk.1
    simp only [Int.toNat_natCast] at *
    have hk4 : k < 4 := by omega
    have eb := vX_b (M := M) hk4
    have q1 : ∀ r, (r = cor (vX M) (8 + 2 * k) (vX M (8 + 2 * k) 2) ∧ 0 ≤ r ∧ r < 10) → r = M 22 k → Q (.inl (some (mm_I 1))) M d := fun r hr h => hq 1 ⟨Or.inr rfl, fun _ => by rw [eb, ← h, hr.1], fun _ => rfl⟩
    have q0 : ∀ r, (r = cor (vX M) (8 + 2 * k) (vX M (8 + 2 * k) 2) ∧ 0 ≤ r ∧ r < 10) → r ≠ M 22 k → Q (.inl (some (mm_I 0))) M d := fun r hr h => hq 0 ⟨Or.inl rfl, fun h2 => by omega, fun h2 => absurd (by rw [hr.1, h2, eb]) h⟩
    obtain ⟨K, hK, hK2⟩ : ∃ K : Nat → mm_K, (∀ t ls st M d u, K t ls st M d u → rr_X5_isHome Q t ls st M d u) ∧ (∀ t ls st M d u, rr_X5_isHome Q t ls st M d u → K t ls st M d u) := ⟨rr_X5_isHome Q, fun _ _ _ _ _ _ h => h, fun _ _ _ _ _ _ h => h⟩
    refine ⟨Nat.le_of_ble_eq_true rfl, mm_run_at (stop := []) (S := K) kkX5_isHome 90 ?_ (fun _ _ _ _ _ _ _ h => hK _ _ _ _ _ _ h)⟩
    repeat' (first | with_reducible assumption | with_reducible exact mm_i17 | with_reducible exact mm_i18 | with_reducible exact mm_i19 | with_reducible exact mm_i20 | with_reducible exact mm_i21 | with_reducible exact mm_i22 | ((with_reducible show mm_rv _ _ _ _ _); first | exact True.intro | exact mm_i17 | exact mm_i18 | exact mm_i19 | exact mm_i20 | exact mm_i21 | exact mm_i22 | ((with_reducible show mV _ _); exact hm)) | ((with_reducible show mV _ _); exact hm) | ((with_reducible show mm_bool _ _); first | exact True.intro | exact Or.inl rfl | exact Or.inr rfl | (show (_ : Int) = 0 ∨ _ = 1)) | refine And.intro ?_ ?_ | intro _ | with_reducible exact True.intro | exact rfl | with_reducible exact Or.inl rfl | with_reducible exact Or.inr rfl | exact Nat.le_of_ble_eq_true rfl)
    all_goals (try simp (disch := omega) only [InI, Int.toNat_natCast, Int.tmod_eq_emod_of_nonneg, Int.tdiv_eq_ediv_of_nonneg, true_implies, true_or, or_true, mm_l18, mm_l19, mm_l20, mm_l21, mm_l22] at *)
    all_goals first | omega | exact q1 _ (by assumption) (by omega) | exact q0 _ (by assumption) (by omega) | skip
  · exact h.elim
theorem me_X5_isHome {l : Launch} (hl : l.stackTraces = false) : mm_Met l yX5_isHome cX5_isHome 2 (some .boolean) [] 9 165 0 sp_X5_isHome := mm_mt hl rn_X5_isHome ⟨plX5, rfl⟩ kkX5_isHome rfl ⟨Nat.le_of_ble_eq_true rfl, Nat.le_of_ble_eq_true rfl⟩ flkX5 (fun _ h => nomatch h) (⟨mm_pe (me_X5_endOf hl) mwX5_endOf (mm_t6 181 rfl rfl) (Nat.le_of_ble_eq_true rfl) (Nat.le_of_ble_eq_true rfl), trivial⟩) (mm_xe0 _) n9X5
/-- whole: as many steps as streets -/
theorem whole_iff {V : mm_M} {w n : Nat} {set : Int} (ht : tW V) (hv : wV V w) (hd : wD V w) (hn : V 2 4 = n) (hs : 0 ≤ set ∧ set < 1073741824) (hset : ∀ s : Nat, bt set s = 1 ↔ ∃ i : Nat, i < V w 2 ∧ V (w + 1) i / 2 = s) : set = 2 ^ n - 1 ↔ V w 2 = V 2 4 := by
  have t1 := ht.1
  have v1 := hv.1
  have hn30 : n ≤ 30 := by omega
  have p1 := pw_le (k := n) (n := 30) hn30
  have p2 := pw_lt (k := n) (by omega)
  have hle : V w 2 ≤ n := by
    have := pigeon n (fun i => (V (w + 1) i / 2).toNat) (V w 2).toNat (fun i hi => by
      have := hv.2.2 i (by omega)
      show (V (w + 1) i / 2).toNat < n
      omega) (fun i j hi hj e => by
      have a := hv.2.2 i (by omega)
      have b := hv.2.2 j (by omega)
      have e : (V (w + 1) i / 2).toNat = (V (w + 1) j / 2).toNat := e
      exact hd i j (by omega) (by omega) (by omega))
    omega
  constructor
  · intro h
    have hx : ∀ s : Nat, ∃ i : Nat, s < n → i < (V w 2).toNat ∧ V (w + 1) i / 2 = s := fun s => by
      by_cases hs : s < n
      · obtain ⟨i, h1, h2⟩ := (hset s).mp (by rw [h, bt_all, if_pos hs])
        exact ⟨i, fun _ => ⟨by omega, h2⟩⟩
      · exact ⟨0, fun h => absurd h hs⟩
    have := pigeon (V w 2).toNat (fun s => (hx s).choose) n (fun s hs => ((hx s).choose_spec hs).1) (fun i j hi hj e => by
      have a := ((hx i).choose_spec hi).2
      have b := ((hx j).choose_spec hj).2
      have e : (hx i).choose = (hx j).choose := e
      rw [e] at a
      omega)
    omega
  · intro h
    refine bt_ext hs ⟨by omega, by omega⟩ (fun s _ => ?_)
    rw [bt_all]
    have hb := bt_01 set s
    by_cases hsn : s < n
    · rw [if_pos hsn]
      by_cases e : bt set s = 1
      · exact e
      · exfalso
        have hN : wN V w s := fun i hi e2 => e ((hset s).mpr ⟨i, hi, e2⟩)
        have := wD_lt hv hd (s := s) (by omega) hN
        omega
    · rw [if_neg hsn]
      have : ¬ bt set s = 1 := fun e => by
        obtain ⟨i, h1, h2⟩ := (hset s).mp e
        have := hv.2.2 i h1
        omega
      omega
def sp_X5_isWhole : mm_S := fun av M d Q => match av with
  | [.inr (.inr (.inl o)), .inl k] =>  o = 17 ∧ tX M ∧ (0 ≤ k ∧ k < 4) ∧ mV M k.toNat ∧ wD (vX M) (8 + 2 * k.toNat) ∧ ∀ r, (r = 0 ∨ r = 1) ∧ (r = 1 ↔ M 21 k.toNat = M 17 1) → Q (.inl (some (mm_I r))) M d
  | _ => False
def ct_X5_isWhole : List (Nat × mm_Ca) := [(111, (0, 2, 14, sp_X5_setOf, 0)), (79, (0, 1, 14, sp_X5_all, 0))]
abbrev rr_X5_isWhole (Q : mm_Q) := mm_run (mm_look flX5) (mm_look ct_X5_isWhole) mm_x0 (mm_look ([] : List (Nat × Int))) (fun _ => none) 2 0 (fun _ _ => none) Q kdX5_isWhole
set_option maxRecDepth 20000 in
theorem rn_X5_isWhole : mm_RN flX5 ct_X5_isWhole mm_x0 [] 2 0 2 kdX5_isWhole sp_X5_isWhole := by
  intro av M d Q h
  unfold sp_X5_isWhole at h
  split at h
  · rename_i o k
    obtain ⟨rfl, ht, hk, hm, hD, hq⟩ := h
    have t1 := ht.1
    obtain ⟨n, hn⟩ := Int.eq_ofNat_of_zero_le t1.1
    obtain ⟨k, rfl⟩ := Int.eq_ofNat_of_zero_le hk.1
    simp only [Int.toNat_natCast] at *
    have hk4 : k < 4 := by omega
    have en := vX_n (M := M) hk4
    have hw := (mV_i hk4).mp hm
    have key : ∀ set all, ((0 ≤ set ∧ set < 1073741824) ∧ (∀ s : Nat, bt set s = 1 ↔ ∃ i : Nat, i < M 21 k ∧ M 20 (30 * k + i) / 2 = s)) → (all = 2 ^ (M 17 1).toNat - 1 ∧ 0 ≤ all ∧ all < 1073741824) → (set = all ↔ M 21 k = M 17 1) := by
      intro set all h1 h2
      have := whole_iff (V := vX M) (w := 8 + 2 * k) (n := n) ht hw hD (by rw [vX_24]; exact hn) h1.1 (vX_set hk4 hm h1.2)
      rw [h2.1, show (M 17 1).toNat = n by omega, this, en, vX_24]
    have q1 : ∀ set all, ((0 ≤ set ∧ set < 1073741824) ∧ (∀ s : Nat, bt set s = 1 ↔ ∃ i : Nat, i < M 21 k ∧ M 20 (30 * k + i) / 2 = s)) → (all = 2 ^ (M 17 1).toNat - 1 ∧ 0 ≤ all ∧ all < 1073741824) → set = all → Q (.inl (some (mm_I 1))) M d := fun set all h1 h2 h => hq 1 ⟨Or.inr rfl, fun _ => (key set all h1 h2).mp h, fun _ => rfl⟩
    have q0 : ∀ set all, ((0 ≤ set ∧ set < 1073741824) ∧ (∀ s : Nat, bt set s = 1 ↔ ∃ i : Nat, i < M 21 k ∧ M 20 (30 * k + i) / 2 = s)) → (all = 2 ^ (M 17 1).toNat - 1 ∧ 0 ≤ all ∧ all < 1073741824) → set ≠ all → Q (.inl (some (mm_I 0))) M d := fun set all h1 h2 h => hq 0 ⟨Or.inl rfl, fun h => by omega, fun h3 => absurd ((key set all h1 h2).mpr h3) h⟩
    obtain ⟨K, hK, hK2⟩ : ∃ K : Nat → mm_K, (∀ t ls st M d u, K t ls st M d u → rr_X5_isWhole Q t ls st M d u) ∧ (∀ t ls st M d u, rr_X5_isWhole Q t ls st M d u → K t ls st M d u) := ⟨rr_X5_isWhole Q, fun _ _ _ _ _ _ h => h, fun _ _ _ _ _ _ h => h⟩
    refine ⟨Nat.le_of_ble_eq_true rfl, mm_run_at (stop := []) (S := K) kkX5_isWhole 90 ?_ (fun _ _ _ _ _ _ _ h => hK _ _ _ _ _ _ h)⟩
    repeat' (first | with_reducible assumption | with_reducible exact mm_i17 | with_reducible exact mm_i18 | with_reducible exact mm_i19 | with_reducible exact mm_i20 | with_reducible exact mm_i21 | with_reducible exact mm_i22 | ((with_reducible show mm_rv _ _ _ _ _); first | exact True.intro | exact mm_i17 | exact mm_i18 | exact mm_i19 | exact mm_i20 | exact mm_i21 | exact mm_i22 | ((with_reducible show mV _ _); exact hm)) | ((with_reducible show mV _ _); exact hm) | ((with_reducible show mm_bool _ _); first | exact True.intro | exact Or.inl rfl | exact Or.inr rfl | (show (_ : Int) = 0 ∨ _ = 1)) | refine And.intro ?_ ?_ | intro _ | with_reducible exact True.intro | exact rfl | with_reducible exact Or.inl rfl | with_reducible exact Or.inr rfl | exact Nat.le_of_ble_eq_true rfl)
    all_goals (try simp (disch := omega) only [InI, Int.toNat_natCast, Int.tmod_eq_emod_of_nonneg, Int.tdiv_eq_ediv_of_nonneg, true_implies, true_or, or_true, mm_l18, mm_l19, mm_l20, mm_l21, mm_l22] at *)
    all_goals first | omega | exact q1 _ _ (by assumption) (by assumption) (by omega) | exact q0 _ _ (by assumption) (by assumption) (by omega) | skip
  · exact h.elim
theorem me_X5_isWhole {l : Launch} (hl : l.stackTraces = false) : mm_Met l yX5_isWhole cX5_isWhole 2 (some .boolean) [] 8 145 0 sp_X5_isWhole := mm_mt hl rn_X5_isWhole ⟨plX5, rfl⟩ kkX5_isWhole rfl ⟨Nat.le_of_ble_eq_true rfl, Nat.le_of_ble_eq_true rfl⟩ flkX5 (fun _ h => nomatch h) (⟨mm_pe (me_X5_setOf hl) mwX5_setOf (mm_t7 72 rfl rfl) (Nat.le_of_ble_eq_true rfl) (Nat.le_of_ble_eq_true rfl), mm_pe (me_X5_all hl) mwX5_all (mm_t6 213 rfl rfl) (Nat.le_of_ble_eq_true rfl) (Nat.le_of_ble_eq_true rfl), trivial⟩) (mm_xe0 _) n9X5
end
section
/-! the model's walks: the same, turned; words; emptied; the start of a call -/
def stB (M : mm_M) : Prop := 0 ≤ M 17 1 ∧ M 17 1 ≤ 30
theorem at_X5_isSame_0 : mm_at 0 kdX5_isSame = [(0, .aload_n 0, 0), (1, .getfield 22, 0), (4, .iload_n 1, 0), (5, .iaload, 0), (6, .aload_n 0, 0), (7, .getfield 22, 0), (10, .iload_n 2, 0), (11, .iaload, 0), (12, .if_icmp .ne 18, 30), (15, .aload_n 0, 0), (16, .getfield 19, 0), (19, .iload_n 1, 0), (20, .iaload, 0), (21, .aload_n 0, 0), (22, .getfield 19, 0), (25, .iload_n 2, 0), (26, .iaload, 0), (27, .if_icmp .eq 5, 32), (30, .iconst 0, 0), (31, .ireturn, 0), (32, .iconst 0, 0), (33, .istore_n 3, 0), (34, .iload_n 3, 0), (35, .aload_n 0, 0), (36, .getfield 19, 0), (39, .iload_n 1, 0), (40, .iaload, 0), (41, .if_icmp .ge 26, 67), (44, .aload_n 0, 0), (45, .iload_n 1, 0), (46, .iload_n 3, 0), (47, .invokevirtual 98, 0), (50, .aload_n 0, 0), (51, .iload_n 2, 0), (52, .iload_n 3, 0), (53, .invokevirtual 98, 0), (56, .if_icmp .eq 5, 61), (59, .iconst 0, 0), (60, .ireturn, 0), (61, .iinc 3 1, 0), (64, .goto (-30), 34), (67, .iconst 1, 0), (68, .ireturn, 0)] := rfl
theorem at_X5_isSame_30 : mm_at 30 kdX5_isSame = [(30, .iconst 0, 0), (31, .ireturn, 0), (32, .iconst 0, 0), (33, .istore_n 3, 0), (34, .iload_n 3, 0), (35, .aload_n 0, 0), (36, .getfield 19, 0), (39, .iload_n 1, 0), (40, .iaload, 0), (41, .if_icmp .ge 26, 67), (44, .aload_n 0, 0), (45, .iload_n 1, 0), (46, .iload_n 3, 0), (47, .invokevirtual 98, 0), (50, .aload_n 0, 0), (51, .iload_n 2, 0), (52, .iload_n 3, 0), (53, .invokevirtual 98, 0), (56, .if_icmp .eq 5, 61), (59, .iconst 0, 0), (60, .ireturn, 0), (61, .iinc 3 1, 0), (64, .goto (-30), 34), (67, .iconst 1, 0), (68, .ireturn, 0)] := rfl
theorem at_X5_isSame_32 : mm_at 32 kdX5_isSame = [(32, .iconst 0, 0), (33, .istore_n 3, 0), (34, .iload_n 3, 0), (35, .aload_n 0, 0), (36, .getfield 19, 0), (39, .iload_n 1, 0), (40, .iaload, 0), (41, .if_icmp .ge 26, 67), (44, .aload_n 0, 0), (45, .iload_n 1, 0), (46, .iload_n 3, 0), (47, .invokevirtual 98, 0), (50, .aload_n 0, 0), (51, .iload_n 2, 0), (52, .iload_n 3, 0), (53, .invokevirtual 98, 0), (56, .if_icmp .eq 5, 61), (59, .iconst 0, 0), (60, .ireturn, 0), (61, .iinc 3 1, 0), (64, .goto (-30), 34), (67, .iconst 1, 0), (68, .ireturn, 0)] := rfl
theorem at_X5_isSame_34 : mm_at 34 kdX5_isSame = [(34, .iload_n 3, 0), (35, .aload_n 0, 0), (36, .getfield 19, 0), (39, .iload_n 1, 0), (40, .iaload, 0), (41, .if_icmp .ge 26, 67), (44, .aload_n 0, 0), (45, .iload_n 1, 0), (46, .iload_n 3, 0), (47, .invokevirtual 98, 0), (50, .aload_n 0, 0), (51, .iload_n 2, 0), (52, .iload_n 3, 0), (53, .invokevirtual 98, 0), (56, .if_icmp .eq 5, 61), (59, .iconst 0, 0), (60, .ireturn, 0), (61, .iinc 3 1, 0), (64, .goto (-30), 34), (67, .iconst 1, 0), (68, .ireturn, 0)] := rfl
theorem at_X5_isSame_61 : mm_at 61 kdX5_isSame = [(61, .iinc 3 1, 0), (64, .goto (-30), 34), (67, .iconst 1, 0), (68, .ireturn, 0)] := rfl
theorem at_X5_isSame_67 : mm_at 67 kdX5_isSame = [(67, .iconst 1, 0), (68, .ireturn, 0)] := rfl
def sp_X5_isSame : mm_S := fun av M d Q => match av with
  | [.inr (.inr (.inl o)), .inl k, .inl v] =>  o = 17 ∧ (0 ≤ k ∧ k < 4) ∧ (0 ≤ v ∧ v < 4) ∧ mV M k.toNat ∧ mV M v.toNat ∧ stB M ∧ ∀ r, (r = 0 ∨ r = 1) ∧ (r = 1 ↔ smR (vX M) (8 + 2 * k.toNat) (8 + 2 * v.toNat)) → Q (.inl (some (mm_I r))) M d
  | _ => False
def ct_X5_isSame : List (Nat × mm_Ca) := [(98, (0, 3, 14, sp_X5_stepOf, 0))]
abbrev rr_X5_isSame (Q : mm_Q) := mm_run (mm_look flX5) (mm_look ct_X5_isSame) mm_x0 (mm_look ([] : List (Nat × Int))) (fun _ => none) 2 0 (fun _ _ => none) Q kdX5_isSame
set_option maxRecDepth 20000 in
theorem lp_X5_isSame {M : mm_M} {d : List Nat} {Q : mm_Q} {k v n : Nat} (hk : k < 4) (hv : v < 4) (h1 : mV M k) (h2 : mV M v) (t1 : stB M) (hn : M 21 k = n) (hnv : M 21 v = n) (q1 : (∀ i : Nat, i < n → M 20 (30 * k + i) = M 20 (30 * v + i)) → Q (.inl (some (mm_I 1))) M d) (q0 : ∀ i : Nat, i < n → M 20 (30 * k + i) ≠ M 20 (30 * v + i) → Q (.inl (some (mm_I 0))) M d) : ∀ (j i : Nat), i + j = n → (∀ x : Nat, x < i → M 20 (30 * k + x) = M 20 (30 * v + x)) → rr_X5_isSame Q 34 [some (mm_R 17), some (mm_I k), some (mm_I v), some (mm_I i)] [] M d 0 := by
  obtain ⟨v1, v2, v3⟩ := id h1
  obtain ⟨u1, u2, u3⟩ := id h2
  obtain ⟨t1, t2⟩ := t1
  intro j
  induction j with
  | zero =>
    intro i hi hx
    have h9 := q1 (fun x hx2 => hx x (by omega))
    obtain ⟨K, hK, hK2⟩ : ∃ K : Nat → mm_K, (∀ t ls st M d u, K t ls st M d u → rr_X5_isSame Q t ls st M d u) ∧ (∀ t ls st M d u, rr_X5_isSame Q t ls st M d u → K t ls st M d u) := ⟨rr_X5_isSame Q, fun _ _ _ _ _ _ h => h, fun _ _ _ _ _ _ h => h⟩
    refine mm_run_at (stop := [44]) (S := K) kkX5_isSame 90 ?_ (fun _ _ _ _ _ _ _ h => hK _ _ _ _ _ _ h)
    repeat' (first | with_reducible assumption | with_reducible exact mm_i17 | with_reducible exact mm_i18 | with_reducible exact mm_i19 | with_reducible exact mm_i20 | with_reducible exact mm_i21 | with_reducible exact mm_i22 | ((with_reducible show mm_rv _ _ _ _ _); first | exact True.intro | exact mm_i17 | exact mm_i18 | exact mm_i19 | exact mm_i20 | exact mm_i21 | exact mm_i22) | ((with_reducible show mm_bool _ _); first | exact True.intro | exact Or.inl rfl | exact Or.inr rfl | (show (_ : Int) = 0 ∨ _ = 1)) | refine And.intro ?_ ?_ | intro _ | with_reducible exact True.intro | exact rfl | with_reducible exact Or.inl rfl | with_reducible exact Or.inr rfl | exact Nat.le_of_ble_eq_true rfl)
    all_goals (try simp (disch := omega) only [InI, Int.toNat_natCast, Int.tmod_eq_emod_of_nonneg, Int.tdiv_eq_ediv_of_nonneg, true_implies, true_or, or_true, mm_l18, mm_l19, mm_l20, mm_l21, mm_l22] at *)
    all_goals first | omega | exact h9 | skip
  | succ j ih =>
    intro i hi hx
    have v4 := v3 i (by omega)
    have u4 := u3 i (by omega)
    have q0 := q0 i (by omega)
    obtain ⟨K, hK, hK2⟩ : ∃ K : Nat → mm_K, (∀ t ls st M d u, K t ls st M d u → rr_X5_isSame Q t ls st M d u) ∧ (∀ t ls st M d u, rr_X5_isSame Q t ls st M d u → K t ls st M d u) := ⟨rr_X5_isSame Q, fun _ _ _ _ _ _ h => h, fun _ _ _ _ _ _ h => h⟩
    have st : M 20 (30 * k + i) = M 20 (30 * v + i) → K 34 [some (mm_R 17), some (mm_I k), some (mm_I v), some (mm_I ((i : Int) + 1))] [] M d 0 := fun h => hK2 _ _ _ _ _ _ (ih (i + 1) (by omega) (fun x hx2 => by
      by_cases e : x = i
      · subst e; exact h
      · exact hx x (by omega)))
    refine mm_run_at (stop := [34, 67]) (S := K) kkX5_isSame 90 ?_ (fun _ _ _ _ _ _ _ h => hK _ _ _ _ _ _ h)
    repeat' (first | with_reducible assumption | with_reducible exact mm_i17 | with_reducible exact mm_i18 | with_reducible exact mm_i19 | with_reducible exact mm_i20 | with_reducible exact mm_i21 | with_reducible exact mm_i22 | ((with_reducible show mm_rv _ _ _ _ _); first | exact True.intro | exact mm_i17 | exact mm_i18 | exact mm_i19 | exact mm_i20 | exact mm_i21 | exact mm_i22) | ((with_reducible show mm_bool _ _); first | exact True.intro | exact Or.inl rfl | exact Or.inr rfl | (show (_ : Int) = 0 ∨ _ = 1)) | refine And.intro ?_ ?_ | intro _ | with_reducible exact True.intro | exact rfl | with_reducible exact Or.inl rfl | with_reducible exact Or.inr rfl | exact Nat.le_of_ble_eq_true rfl)
    all_goals (try simp (disch := omega) only [InI, Int.toNat_natCast, Int.tmod_eq_emod_of_nonneg, Int.tdiv_eq_ediv_of_nonneg, true_implies, true_or, or_true, mm_l18, mm_l19, mm_l20, mm_l21, mm_l22] at *)
    all_goals first | omega | exact q0 (by assumption) | exact st (by assumption) | skip
set_option maxRecDepth 20000 in
theorem rn_X5_isSame : mm_RN flX5 ct_X5_isSame mm_x0 [] 2 0 4 kdX5_isSame sp_X5_isSame := by
  intro av M d Q h
  unfold sp_X5_isSame at h
  split at h
  · rename_i o k v
    obtain ⟨rfl, hk, hv, h1, h2, t1, hq⟩ := h
    obtain ⟨k, rfl⟩ := Int.eq_ofNat_of_zero_le hk.1
    obtain ⟨v, rfl⟩ := Int.eq_ofNat_of_zero_le hv.1
    simp only [Int.toNat_natCast] at *
    have hk4 : k < 4 := by omega
    have hv4 : v < 4 := by omega
    have v1 := h1.1
    have v2 := h1.2.1
    have u1 := h2.1
    have u2 := h2.2.1
    obtain ⟨n, hn⟩ := Int.eq_ofNat_of_zero_le v1.1
    have key : smR (vX M) (8 + 2 * k) (8 + 2 * v) ↔ (M 22 k = M 22 v ∧ M 21 k = M 21 v ∧ ∀ i : Nat, i < n → M 20 (30 * k + i) = M 20 (30 * v + i)) := by
      unfold smR
      rw [vX_b hk4, vX_b hv4, vX_n hk4, vX_n hv4]
      refine and_congr_right (fun _ => and_congr_right (fun _ => ?_))
      constructor
      · intro h i hi
        have := h i (by omega)
        rw [vX_i hk4 (by omega), vX_i hv4 (by omega)] at this
        exact this
      · intro h i hi
        rw [vX_i hk4 (by omega), vX_i hv4 (by omega)]
        exact h i (by omega)
    have q0 : ¬ smR (vX M) (8 + 2 * k) (8 + 2 * v) → Q (.inl (some (mm_I 0))) M d := fun h => hq 0 ⟨Or.inl rfl, fun h => by omega, fun h2 => absurd h2 h⟩
    have q1 : smR (vX M) (8 + 2 * k) (8 + 2 * v) → Q (.inl (some (mm_I 1))) M d := fun h => hq 1 ⟨Or.inr rfl, fun _ => h, fun _ => rfl⟩
    have n1 : M 22 k ≠ M 22 v → ¬ smR (vX M) (8 + 2 * k) (8 + 2 * v) := fun h h2 => h (key.mp h2).1
    have n2 : M 21 k ≠ M 21 v → ¬ smR (vX M) (8 + 2 * k) (8 + 2 * v) := fun h h2 => h (key.mp h2).2.1
    obtain ⟨K, hK, hK2⟩ : ∃ K : Nat → mm_K, (∀ t ls st M d u, K t ls st M d u → rr_X5_isSame Q t ls st M d u) ∧ (∀ t ls st M d u, rr_X5_isSame Q t ls st M d u → K t ls st M d u) := ⟨rr_X5_isSame Q, fun _ _ _ _ _ _ h => h, fun _ _ _ _ _ _ h => h⟩
    have k34 : M 22 k = M 22 v → M 21 k = M 21 v → K 34 [some (mm_R 17), some (mm_I k), some (mm_I v), some (mm_I 0)] [] M d 0 := fun e1 e2 => hK2 _ _ _ _ _ _ (lp_X5_isSame hk4 hv4 h1 h2 t1 hn (by omega) (fun h => q1 (key.mpr ⟨e1, e2, h⟩)) (fun i hi h => q0 (fun h2 => h ((key.mp h2).2.2 i hi))) n 0 (by omega) (fun x hx => by omega))
    refine ⟨Nat.le_of_ble_eq_true rfl, ?_⟩
    refine mm_run_at (stop := [34]) (S := K) kkX5_isSame 90 ?_ (fun _ _ _ _ _ _ _ h => hK _ _ _ _ _ _ h)
    repeat' (first | with_reducible assumption | with_reducible exact mm_i17 | with_reducible exact mm_i18 | with_reducible exact mm_i19 | with_reducible exact mm_i20 | with_reducible exact mm_i21 | with_reducible exact mm_i22 | ((with_reducible show mm_rv _ _ _ _ _); first | exact True.intro | exact mm_i17 | exact mm_i18 | exact mm_i19 | exact mm_i20 | exact mm_i21 | exact mm_i22) | ((with_reducible show mm_bool _ _); first | exact True.intro | exact Or.inl rfl | exact Or.inr rfl | (show (_ : Int) = 0 ∨ _ = 1)) | refine And.intro ?_ ?_ | intro _ | with_reducible exact True.intro | exact rfl | with_reducible exact Or.inl rfl | with_reducible exact Or.inr rfl | exact Nat.le_of_ble_eq_true rfl)
    all_goals (try simp (disch := omega) only [InI, Int.toNat_natCast, Int.tmod_eq_emod_of_nonneg, Int.tdiv_eq_ediv_of_nonneg, true_implies, true_or, or_true, mm_l18, mm_l19, mm_l20, mm_l21, mm_l22] at *)
    all_goals first | omega | exact q0 (n1 (by omega)) | exact q0 (n2 (by omega)) | exact k34 (by omega) (by omega) | skip
  · exact h.elim
theorem me_X5_isSame {l : Launch} (hl : l.stackTraces = false) : mm_Met l yX5_isSame cX5_isSame 4 (some .boolean) [] 7 122 0 sp_X5_isSame := mm_mt hl rn_X5_isSame ⟨plX5, rfl⟩ kkX5_isSame rfl ⟨Nat.le_of_ble_eq_true rfl, Nat.le_of_ble_eq_true rfl⟩ flkX5 (fun _ h => nomatch h) (⟨mm_pe (me_X5_stepOf hl) mwX5_stepOf (mm_t6 158 rfl rfl) (Nat.le_of_ble_eq_true rfl) (Nat.le_of_ble_eq_true rfl), trivial⟩) (mm_xe0 _) n9X5
theorem at_X5_isTurnedBy_0 : mm_at 0 kdX5_isTurnedBy = [(0, .aload_n 0, 0), (1, .iload_n 1, 0), (2, .iload_n 3, 0), (3, .invokevirtual 105, 0), (6, .aload_n 0, 0), (7, .getfield 22, 0), (10, .iload_n 2, 0), (11, .iaload, 0), (12, .if_icmp .eq 5, 17), (15, .iconst 0, 0), (16, .ireturn, 0), (17, .iconst 0, 0), (18, .istore 4, 0), (20, .iload 4, 0), (22, .aload_n 0, 0), (23, .getfield 19, 0), (26, .iload_n 1, 0), (27, .iaload, 0), (28, .if_icmp .ge 37, 65), (31, .aload_n 0, 0), (32, .iload_n 1, 0), (33, .iload 4, 0), (35, .iload_n 3, 0), (36, .iadd, 0), (37, .aload_n 0, 0), (38, .getfield 19, 0), (41, .iload_n 1, 0), (42, .iaload, 0), (43, .irem, 0), (44, .invokevirtual 98, 0), (47, .aload_n 0, 0), (48, .iload_n 2, 0), (49, .iload 4, 0), (51, .invokevirtual 98, 0), (54, .if_icmp .eq 5, 59), (57, .iconst 0, 0), (58, .ireturn, 0), (59, .iinc 4 1, 0), (62, .goto (-42), 20), (65, .iconst 1, 0), (66, .ireturn, 0)] := rfl
theorem at_X5_isTurnedBy_17 : mm_at 17 kdX5_isTurnedBy = [(17, .iconst 0, 0), (18, .istore 4, 0), (20, .iload 4, 0), (22, .aload_n 0, 0), (23, .getfield 19, 0), (26, .iload_n 1, 0), (27, .iaload, 0), (28, .if_icmp .ge 37, 65), (31, .aload_n 0, 0), (32, .iload_n 1, 0), (33, .iload 4, 0), (35, .iload_n 3, 0), (36, .iadd, 0), (37, .aload_n 0, 0), (38, .getfield 19, 0), (41, .iload_n 1, 0), (42, .iaload, 0), (43, .irem, 0), (44, .invokevirtual 98, 0), (47, .aload_n 0, 0), (48, .iload_n 2, 0), (49, .iload 4, 0), (51, .invokevirtual 98, 0), (54, .if_icmp .eq 5, 59), (57, .iconst 0, 0), (58, .ireturn, 0), (59, .iinc 4 1, 0), (62, .goto (-42), 20), (65, .iconst 1, 0), (66, .ireturn, 0)] := rfl
theorem at_X5_isTurnedBy_20 : mm_at 20 kdX5_isTurnedBy = [(20, .iload 4, 0), (22, .aload_n 0, 0), (23, .getfield 19, 0), (26, .iload_n 1, 0), (27, .iaload, 0), (28, .if_icmp .ge 37, 65), (31, .aload_n 0, 0), (32, .iload_n 1, 0), (33, .iload 4, 0), (35, .iload_n 3, 0), (36, .iadd, 0), (37, .aload_n 0, 0), (38, .getfield 19, 0), (41, .iload_n 1, 0), (42, .iaload, 0), (43, .irem, 0), (44, .invokevirtual 98, 0), (47, .aload_n 0, 0), (48, .iload_n 2, 0), (49, .iload 4, 0), (51, .invokevirtual 98, 0), (54, .if_icmp .eq 5, 59), (57, .iconst 0, 0), (58, .ireturn, 0), (59, .iinc 4 1, 0), (62, .goto (-42), 20), (65, .iconst 1, 0), (66, .ireturn, 0)] := rfl
theorem at_X5_isTurnedBy_59 : mm_at 59 kdX5_isTurnedBy = [(59, .iinc 4 1, 0), (62, .goto (-42), 20), (65, .iconst 1, 0), (66, .ireturn, 0)] := rfl
theorem at_X5_isTurnedBy_65 : mm_at 65 kdX5_isTurnedBy = [(65, .iconst 1, 0), (66, .ireturn, 0)] := rfl
def sp_X5_isTurnedBy : mm_S := fun av M d Q => match av with
  | [.inr (.inr (.inl o)), .inl k, .inl v, .inl b] =>  o = 17 ∧ tX M ∧ (0 ≤ k ∧ k < 4) ∧ (0 ≤ v ∧ v < 4) ∧ mV M k.toNat ∧ mV M v.toNat ∧ M 21 k.toNat = M 21 v.toNat ∧ (0 ≤ b ∧ b < M 21 k.toNat) ∧ ∀ r, (r = 0 ∨ r = 1) ∧ (r = 1 ↔ tnR (vX M) (8 + 2 * k.toNat) (8 + 2 * v.toNat) b.toNat) → Q (.inl (some (mm_I r))) M d
  | _ => False
def ct_X5_isTurnedBy : List (Nat × mm_Ca) := [(105, (0, 3, 14, sp_X5_cornerOf, 0)), (98, (0, 3, 14, sp_X5_stepOf, 0))]
abbrev rr_X5_isTurnedBy (Q : mm_Q) := mm_run (mm_look flX5) (mm_look ct_X5_isTurnedBy) mm_x0 (mm_look ([] : List (Nat × Int))) (fun _ => none) 2 0 (fun _ _ => none) Q kdX5_isTurnedBy
set_option maxRecDepth 20000 in
theorem lp_X5_isTurnedBy {M : mm_M} {d : List Nat} {Q : mm_Q} {k v n b : Nat} (hk : k < 4) (hv : v < 4) (ht : tX M) (h1 : mV M k) (h2 : mV M v) (hn : M 21 k = n) (hnv : M 21 v = n) (hb : b < n) (q1 : (∀ i : Nat, i < n → M 20 (30 * k + (i + b) % n) = M 20 (30 * v + i)) → Q (.inl (some (mm_I 1))) M d) (q0 : ∀ i : Nat, i < n → M 20 (30 * k + (i + b) % n) ≠ M 20 (30 * v + i) → Q (.inl (some (mm_I 0))) M d) : ∀ (j i : Nat), i + j = n → (∀ x : Nat, x < i → M 20 (30 * k + (x + b) % n) = M 20 (30 * v + x)) → rr_X5_isTurnedBy Q 20 [some (mm_R 17), some (mm_I k), some (mm_I v), some (mm_I b), some (mm_I i)] [] M d 0 := by
  obtain ⟨v1, v2, v3⟩ := id h1
  obtain ⟨u1, u2, u3⟩ := id h2
  have t1 := ht.1
  intro j
  induction j with
  | zero =>
    intro i hi hx
    have h9 := q1 (fun x hx2 => hx x (by omega))
    obtain ⟨K, hK, hK2⟩ : ∃ K : Nat → mm_K, (∀ t ls st M d u, K t ls st M d u → rr_X5_isTurnedBy Q t ls st M d u) ∧ (∀ t ls st M d u, rr_X5_isTurnedBy Q t ls st M d u → K t ls st M d u) := ⟨rr_X5_isTurnedBy Q, fun _ _ _ _ _ _ h => h, fun _ _ _ _ _ _ h => h⟩
    refine mm_run_at (stop := [31]) (S := K) kkX5_isTurnedBy 90 ?_ (fun _ _ _ _ _ _ _ h => hK _ _ _ _ _ _ h)
    repeat' (first | with_reducible assumption | with_reducible exact mm_i17 | with_reducible exact mm_i18 | with_reducible exact mm_i19 | with_reducible exact mm_i20 | with_reducible exact mm_i21 | with_reducible exact mm_i22 | ((with_reducible show mm_rv _ _ _ _ _); first | exact True.intro | exact mm_i17 | exact mm_i18 | exact mm_i19 | exact mm_i20 | exact mm_i21 | exact mm_i22) | ((with_reducible show mm_bool _ _); first | exact True.intro | exact Or.inl rfl | exact Or.inr rfl | (show (_ : Int) = 0 ∨ _ = 1)) | refine And.intro ?_ ?_ | intro _ | with_reducible exact True.intro | exact rfl | with_reducible exact Or.inl rfl | with_reducible exact Or.inr rfl | exact Nat.le_of_ble_eq_true rfl)
    all_goals (try simp (disch := omega) only [InI, Int.toNat_natCast, Int.tmod_eq_emod_of_nonneg, Int.tdiv_eq_ediv_of_nonneg, true_implies, true_or, or_true, mm_l18, mm_l19, mm_l20, mm_l21, mm_l22] at *)
    all_goals first | omega | exact h9 | skip
  | succ j ih =>
    intro i hi hx
    have hm : (i + b) % n < n := Nat.mod_lt _ (by omega)
    have em : ((i : Int) + b) % M 21 k = ((i + b) % n : Nat) := by rw [hn]; norm_cast
    have v4 := v3 ((i + b) % n) (by omega)
    have u4 := u3 i (by omega)
    have q0 := q0 i (by omega)
    have et : ((i : Int) + b).tmod (M 21 k) = ((i + b) % n : Nat) := by rw [Int.tmod_eq_emod_of_nonneg (by omega)]; exact em
    obtain ⟨K, hK, hK2⟩ : ∃ K : Nat → mm_K, (∀ t ls st M d u, K t ls st M d u → rr_X5_isTurnedBy Q t ls st M d u) ∧ (∀ t ls st M d u, rr_X5_isTurnedBy Q t ls st M d u → K t ls st M d u) := ⟨rr_X5_isTurnedBy Q, fun _ _ _ _ _ _ h => h, fun _ _ _ _ _ _ h => h⟩
    have st : M 20 (30 * k + (i + b) % n) = M 20 (30 * v + i) → K 20 [some (mm_R 17), some (mm_I k), some (mm_I v), some (mm_I b), some (mm_I ((i : Int) + 1))] [] M d 0 := fun h => hK2 _ _ _ _ _ _ (ih (i + 1) (by omega) (fun x hx2 => by
      by_cases e : x = i
      · subst e; exact h
      · exact hx x (by omega)))
    clear em
    refine mm_run_at (stop := [20, 65]) (S := K) kkX5_isTurnedBy 90 ?_ (fun _ _ _ _ _ _ _ h => hK _ _ _ _ _ _ h)
    repeat' (first | with_reducible assumption | with_reducible exact mm_i17 | with_reducible exact mm_i18 | with_reducible exact mm_i19 | with_reducible exact mm_i20 | with_reducible exact mm_i21 | with_reducible exact mm_i22 | ((with_reducible show mm_rv _ _ _ _ _); first | exact True.intro | exact mm_i17 | exact mm_i18 | exact mm_i19 | exact mm_i20 | exact mm_i21 | exact mm_i22) | ((with_reducible show mm_bool _ _); first | exact True.intro | exact Or.inl rfl | exact Or.inr rfl | (show (_ : Int) = 0 ∨ _ = 1)) | refine And.intro ?_ ?_ | intro _ | with_reducible exact True.intro | exact rfl | with_reducible exact Or.inl rfl | with_reducible exact Or.inr rfl | exact Nat.le_of_ble_eq_true rfl)
    all_goals (try simp (disch := omega) only [et, InI, Int.toNat_natCast, Int.tmod_eq_emod_of_nonneg, Int.tdiv_eq_ediv_of_nonneg, true_implies, true_or, or_true, mm_l18, mm_l19, mm_l20, mm_l21, mm_l22] at *)
    all_goals first | omega | exact q0 (by assumption) | exact st (by assumption) | skip
set_option maxRecDepth 20000 in
theorem rn_X5_isTurnedBy : mm_RN flX5 ct_X5_isTurnedBy mm_x0 [] 2 0 5 kdX5_isTurnedBy sp_X5_isTurnedBy := by
  intro av M d Q h
  unfold sp_X5_isTurnedBy at h
  split at h
  · rename_i o k v b
    obtain ⟨rfl, ht, hk, hv, h1, h2, hl, hb, hq⟩ := h
    obtain ⟨k, rfl⟩ := Int.eq_ofNat_of_zero_le hk.1
    obtain ⟨v, rfl⟩ := Int.eq_ofNat_of_zero_le hv.1
    obtain ⟨b, rfl⟩ := Int.eq_ofNat_of_zero_le hb.1
    simp only [Int.toNat_natCast] at *
    have hk4 : k < 4 := by omega
    have hv4 : v < 4 := by omega
    have v1 := h1.1
    have u2 := h2.2.1
    obtain ⟨n, hn⟩ := Int.eq_ofNat_of_zero_le v1.1
    have ec := cor_v (M := M) (p := b) hk4 h1 (by omega)
    have key : tnR (vX M) (8 + 2 * k) (8 + 2 * v) b ↔ (corX M k b = M 22 v ∧ ∀ i : Nat, i < n → M 20 (30 * k + (i + b) % n) = M 20 (30 * v + i)) := by
      unfold tnR
      rw [ec, vX_b hv4, vX_n hk4, hn, Int.toNat_natCast]
      refine and_congr_right (fun _ => ?_)
      constructor
      · intro h i hi
        have hm : (i + b) % n < n := Nat.mod_lt _ (by omega)
        have := h i (by omega)
        rw [vX_i hk4 (by omega), vX_i hv4 (by omega)] at this
        exact this
      · intro h i hi
        have hm : (i + b) % n < n := Nat.mod_lt _ (by omega)
        rw [vX_i hk4 (by omega), vX_i hv4 (by omega)]
        exact h i (by omega)
    have q0 : ¬ tnR (vX M) (8 + 2 * k) (8 + 2 * v) b → Q (.inl (some (mm_I 0))) M d := fun h => hq 0 ⟨Or.inl rfl, fun h => by omega, fun h2 => absurd h2 h⟩
    have q1 : tnR (vX M) (8 + 2 * k) (8 + 2 * v) b → Q (.inl (some (mm_I 1))) M d := fun h => hq 1 ⟨Or.inr rfl, fun _ => h, fun _ => rfl⟩
    have n1 : ∀ c, (c = corX M k b ∧ 0 ≤ c ∧ c < 10) → c ≠ M 22 v → ¬ tnR (vX M) (8 + 2 * k) (8 + 2 * v) b := fun c hc h h2 => h (by rw [hc.1]; exact (key.mp h2).1)
    obtain ⟨K, hK, hK2⟩ : ∃ K : Nat → mm_K, (∀ t ls st M d u, K t ls st M d u → rr_X5_isTurnedBy Q t ls st M d u) ∧ (∀ t ls st M d u, rr_X5_isTurnedBy Q t ls st M d u → K t ls st M d u) := ⟨rr_X5_isTurnedBy Q, fun _ _ _ _ _ _ h => h, fun _ _ _ _ _ _ h => h⟩
    have k20 : ∀ c, (c = corX M k b ∧ 0 ≤ c ∧ c < 10) → c = M 22 v → K 20 [some (mm_R 17), some (mm_I k), some (mm_I v), some (mm_I b), some (mm_I 0)] [] M d 0 := fun c hc e1 => hK2 _ _ _ _ _ _ (lp_X5_isTurnedBy hk4 hv4 ht h1 h2 hn (by omega) (by omega) (fun h => q1 (key.mpr ⟨by rw [← hc.1]; exact e1, h⟩)) (fun i hi h => q0 (fun h2 => h ((key.mp h2).2 i hi))) n 0 (by omega) (fun x hx => by omega))
    refine ⟨Nat.le_of_ble_eq_true rfl, ?_⟩
    refine mm_run_at (stop := [20]) (S := K) kkX5_isTurnedBy 90 ?_ (fun _ _ _ _ _ _ _ h => hK _ _ _ _ _ _ h)
    repeat' (first | with_reducible assumption | with_reducible exact mm_i17 | with_reducible exact mm_i18 | with_reducible exact mm_i19 | with_reducible exact mm_i20 | with_reducible exact mm_i21 | with_reducible exact mm_i22 | ((with_reducible show mm_rv _ _ _ _ _); first | exact True.intro | exact mm_i17 | exact mm_i18 | exact mm_i19 | exact mm_i20 | exact mm_i21 | exact mm_i22 | ((with_reducible show mV _ _); exact h1)) | ((with_reducible show mV _ _); exact h1) | ((with_reducible show mm_bool _ _); first | exact True.intro | exact Or.inl rfl | exact Or.inr rfl | (show (_ : Int) = 0 ∨ _ = 1)) | refine And.intro ?_ ?_ | intro _ | with_reducible exact True.intro | exact rfl | with_reducible exact Or.inl rfl | with_reducible exact Or.inr rfl | exact Nat.le_of_ble_eq_true rfl)
    all_goals (try simp (disch := omega) only [InI, Int.toNat_natCast, Int.tmod_eq_emod_of_nonneg, Int.tdiv_eq_ediv_of_nonneg, true_implies, true_or, or_true, mm_l18, mm_l19, mm_l20, mm_l21, mm_l22] at *)
    all_goals first | omega | exact q0 (n1 _ (by assumption) (by omega)) | exact k20 _ (by assumption) (by omega) | skip
  · exact h.elim
theorem me_X5_isTurnedBy {l : Launch} (hl : l.stackTraces = false) : mm_Met l yX5_isTurnedBy cX5_isTurnedBy 5 (some .boolean) [] 8 144 0 sp_X5_isTurnedBy := mm_mt hl rn_X5_isTurnedBy ⟨plX5, rfl⟩ kkX5_isTurnedBy rfl ⟨Nat.le_of_ble_eq_true rfl, Nat.le_of_ble_eq_true rfl⟩ flkX5 (fun _ h => nomatch h) (⟨mm_pe (me_X5_cornerOf hl) mwX5_cornerOf (mm_t6 185 rfl rfl) (Nat.le_of_ble_eq_true rfl) (Nat.le_of_ble_eq_true rfl), mm_pe (me_X5_stepOf hl) mwX5_stepOf (mm_t6 158 rfl rfl) (Nat.le_of_ble_eq_true rfl) (Nat.le_of_ble_eq_true rfl), trivial⟩) (mm_xe0 _) n9X5
theorem at_X5_turnTo_0 : mm_at 0 kdX5_turnTo = [(0, .aload_n 0, 0), (1, .iload_n 1, 0), (2, .iload_n 2, 0), (3, .invokevirtual 134, 0), (6, .ifCond .eq 5, 11), (9, .iconst 0, 0), (10, .ireturn, 0), (11, .aload_n 0, 0), (12, .iload_n 1, 0), (13, .invokevirtual 137, 0), (16, .ifCond .eq 18, 34), (19, .aload_n 0, 0), (20, .getfield 19, 0), (23, .iload_n 1, 0), (24, .iaload, 0), (25, .aload_n 0, 0), (26, .getfield 19, 0), (29, .iload_n 2, 0), (30, .iaload, 0), (31, .if_icmp .eq 5, 36), (34, .iconst (-1), 0), (35, .ireturn, 0), (36, .iconst 1, 0), (37, .istore_n 3, 0), (38, .iload_n 3, 0), (39, .aload_n 0, 0), (40, .getfield 19, 0), (43, .iload_n 1, 0), (44, .iaload, 0), (45, .if_icmp .ge 21, 66), (48, .aload_n 0, 0), (49, .iload_n 1, 0), (50, .iload_n 2, 0), (51, .iload_n 3, 0), (52, .invokevirtual 140, 0), (55, .ifCond .eq 5, 60), (58, .iload_n 3, 0), (59, .ireturn, 0), (60, .iinc 3 1, 0), (63, .goto (-25), 38), (66, .iconst (-1), 0), (67, .ireturn, 0)] := rfl
theorem at_X5_turnTo_11 : mm_at 11 kdX5_turnTo = [(11, .aload_n 0, 0), (12, .iload_n 1, 0), (13, .invokevirtual 137, 0), (16, .ifCond .eq 18, 34), (19, .aload_n 0, 0), (20, .getfield 19, 0), (23, .iload_n 1, 0), (24, .iaload, 0), (25, .aload_n 0, 0), (26, .getfield 19, 0), (29, .iload_n 2, 0), (30, .iaload, 0), (31, .if_icmp .eq 5, 36), (34, .iconst (-1), 0), (35, .ireturn, 0), (36, .iconst 1, 0), (37, .istore_n 3, 0), (38, .iload_n 3, 0), (39, .aload_n 0, 0), (40, .getfield 19, 0), (43, .iload_n 1, 0), (44, .iaload, 0), (45, .if_icmp .ge 21, 66), (48, .aload_n 0, 0), (49, .iload_n 1, 0), (50, .iload_n 2, 0), (51, .iload_n 3, 0), (52, .invokevirtual 140, 0), (55, .ifCond .eq 5, 60), (58, .iload_n 3, 0), (59, .ireturn, 0), (60, .iinc 3 1, 0), (63, .goto (-25), 38), (66, .iconst (-1), 0), (67, .ireturn, 0)] := rfl
theorem at_X5_turnTo_34 : mm_at 34 kdX5_turnTo = [(34, .iconst (-1), 0), (35, .ireturn, 0), (36, .iconst 1, 0), (37, .istore_n 3, 0), (38, .iload_n 3, 0), (39, .aload_n 0, 0), (40, .getfield 19, 0), (43, .iload_n 1, 0), (44, .iaload, 0), (45, .if_icmp .ge 21, 66), (48, .aload_n 0, 0), (49, .iload_n 1, 0), (50, .iload_n 2, 0), (51, .iload_n 3, 0), (52, .invokevirtual 140, 0), (55, .ifCond .eq 5, 60), (58, .iload_n 3, 0), (59, .ireturn, 0), (60, .iinc 3 1, 0), (63, .goto (-25), 38), (66, .iconst (-1), 0), (67, .ireturn, 0)] := rfl
theorem at_X5_turnTo_36 : mm_at 36 kdX5_turnTo = [(36, .iconst 1, 0), (37, .istore_n 3, 0), (38, .iload_n 3, 0), (39, .aload_n 0, 0), (40, .getfield 19, 0), (43, .iload_n 1, 0), (44, .iaload, 0), (45, .if_icmp .ge 21, 66), (48, .aload_n 0, 0), (49, .iload_n 1, 0), (50, .iload_n 2, 0), (51, .iload_n 3, 0), (52, .invokevirtual 140, 0), (55, .ifCond .eq 5, 60), (58, .iload_n 3, 0), (59, .ireturn, 0), (60, .iinc 3 1, 0), (63, .goto (-25), 38), (66, .iconst (-1), 0), (67, .ireturn, 0)] := rfl
theorem at_X5_turnTo_38 : mm_at 38 kdX5_turnTo = [(38, .iload_n 3, 0), (39, .aload_n 0, 0), (40, .getfield 19, 0), (43, .iload_n 1, 0), (44, .iaload, 0), (45, .if_icmp .ge 21, 66), (48, .aload_n 0, 0), (49, .iload_n 1, 0), (50, .iload_n 2, 0), (51, .iload_n 3, 0), (52, .invokevirtual 140, 0), (55, .ifCond .eq 5, 60), (58, .iload_n 3, 0), (59, .ireturn, 0), (60, .iinc 3 1, 0), (63, .goto (-25), 38), (66, .iconst (-1), 0), (67, .ireturn, 0)] := rfl
theorem at_X5_turnTo_60 : mm_at 60 kdX5_turnTo = [(60, .iinc 3 1, 0), (63, .goto (-25), 38), (66, .iconst (-1), 0), (67, .ireturn, 0)] := rfl
theorem at_X5_turnTo_66 : mm_at 66 kdX5_turnTo = [(66, .iconst (-1), 0), (67, .ireturn, 0)] := rfl
def sp_X5_turnTo : mm_S := fun av M d Q => match av with
  | [.inr (.inr (.inl o)), .inl k, .inl v] =>  o = 17 ∧ tX M ∧ (0 ≤ k ∧ k < 4) ∧ (0 ≤ v ∧ v < 4) ∧ mV M k.toNat ∧ mV M v.toNat ∧ ∀ r, (-1 ≤ r ∧ r ≤ 30) ∧ tuR (vX M) (8 + 2 * k.toNat) (8 + 2 * v.toNat) r → Q (.inl (some (mm_I r))) M d
  | _ => False
def ct_X5_turnTo : List (Nat × mm_Ca) := [(134, (0, 3, 14, sp_X5_isSame, 0)), (137, (0, 2, 14, sp_X5_isHome, 0)), (140, (0, 4, 14, sp_X5_isTurnedBy, 0))]
abbrev rr_X5_turnTo (Q : mm_Q) := mm_run (mm_look flX5) (mm_look ct_X5_turnTo) mm_x0 (mm_look ([] : List (Nat × Int))) (fun _ => none) 1 0 (fun _ _ => none) Q kdX5_turnTo
set_option maxRecDepth 20000 in
theorem lp_X5_turnTo {M : mm_M} {d : List Nat} {Q : mm_Q} {k v n : Nat} (hk : k < 4) (hv : v < 4) (ht : tX M) (h1 : mV M k) (h2 : mV M v) (hn : M 21 k = n) (hnv : M 21 v = n) (hq : ∀ r : Int, (-1 ≤ r ∧ r ≤ 30) ∧ ((r = -1 ∧ ∀ b : Nat, 1 ≤ b → b < n → ¬ tnR (vX M) (8 + 2 * k) (8 + 2 * v) b) ∨ ∃ b : Nat, r = b ∧ 1 ≤ b ∧ b < n ∧ tnR (vX M) (8 + 2 * k) (8 + 2 * v) b ∧ ∀ b' : Nat, 1 ≤ b' → b' < b → ¬ tnR (vX M) (8 + 2 * k) (8 + 2 * v) b') → Q (.inl (some (mm_I r))) M d) : ∀ (j i : Nat), n ≤ i + j → i ≤ n + 1 → 1 ≤ i → (∀ b : Nat, 1 ≤ b → b < i → b < n → ¬ tnR (vX M) (8 + 2 * k) (8 + 2 * v) b) → rr_X5_turnTo Q 38 [some (mm_R 17), some (mm_I k), some (mm_I v), some (mm_I i)] [] M d 0 := by
  have v1 := h1.1
  intro j
  induction j with
  | zero =>
    intro i hi hi2 hi1 hx
    have h9 := hq (-1) ⟨by omega, Or.inl ⟨rfl, fun b b1 b2 => hx b b1 (by omega) b2⟩⟩
    obtain ⟨K, hK, hK2⟩ : ∃ K : Nat → mm_K, (∀ t ls st M d u, K t ls st M d u → rr_X5_turnTo Q t ls st M d u) ∧ (∀ t ls st M d u, rr_X5_turnTo Q t ls st M d u → K t ls st M d u) := ⟨rr_X5_turnTo Q, fun _ _ _ _ _ _ h => h, fun _ _ _ _ _ _ h => h⟩
    refine mm_run_at (stop := [48]) (S := K) kkX5_turnTo 90 ?_ (fun _ _ _ _ _ _ _ h => hK _ _ _ _ _ _ h)
    repeat' (first | with_reducible assumption | with_reducible exact mm_i17 | with_reducible exact mm_i18 | with_reducible exact mm_i19 | with_reducible exact mm_i20 | with_reducible exact mm_i21 | with_reducible exact mm_i22 | ((with_reducible show mm_rv _ _ _ _ _); first | exact True.intro | exact mm_i17 | exact mm_i18 | exact mm_i19 | exact mm_i20 | exact mm_i21 | exact mm_i22) | ((with_reducible show mm_bool _ _); first | exact True.intro | exact Or.inl rfl | exact Or.inr rfl | (show (_ : Int) = 0 ∨ _ = 1)) | refine And.intro ?_ ?_ | intro _ | with_reducible exact True.intro | exact rfl | with_reducible exact Or.inl rfl | with_reducible exact Or.inr rfl | exact Nat.le_of_ble_eq_true rfl)
    all_goals (try simp (disch := omega) only [InI, Int.toNat_natCast, Int.tmod_eq_emod_of_nonneg, Int.tdiv_eq_ediv_of_nonneg, true_implies, true_or, or_true, mm_l18, mm_l19, mm_l20, mm_l21, mm_l22] at *)
    all_goals first | omega | exact h9 | skip
  | succ j ih =>
    intro i hi hi2 hi1 hx
    have h9 : n ≤ i → Q (.inl (some (mm_I (-1)))) M d := fun h => hq (-1) ⟨by omega, Or.inl ⟨rfl, fun b b1 b2 => hx b b1 (by omega) b2⟩⟩
    have hl : M 21 k = M 21 v := by omega
    obtain ⟨K, hK, hK2⟩ : ∃ K : Nat → mm_K, (∀ t ls st M d u, K t ls st M d u → rr_X5_turnTo Q t ls st M d u) ∧ (∀ t ls st M d u, rr_X5_turnTo Q t ls st M d u → K t ls st M d u) := ⟨rr_X5_turnTo Q, fun _ _ _ _ _ _ h => h, fun _ _ _ _ _ _ h => h⟩
    have k55 : i < n → ∀ r, (r = 0 ∨ r = 1) ∧ (r = 1 ↔ tnR (vX M) (8 + 2 * k) (8 + 2 * v) i) → K 55 [some (mm_R 17), some (mm_I k), some (mm_I v), some (mm_I i)] [mm_I r] M d 0 := by
      intro hin r hr
      have q1 : r ≠ 0 → Q (.inl (some (mm_I i))) M d := fun h => hq i ⟨by omega, Or.inr ⟨i, rfl, hi1, hin, hr.2.mp (by omega), fun b b1 b2 => hx b b1 b2 (by omega)⟩⟩
      have st : r = 0 → K 38 [some (mm_R 17), some (mm_I k), some (mm_I v), some (mm_I ((i : Int) + 1))] [] M d 0 := fun h => hK2 _ _ _ _ _ _ (ih (i + 1) (by omega) (by omega) (by omega) (fun b b1 b2 b3 => by
        by_cases e : b = i
        · subst e
          exact fun h3 => by have := hr.2.mpr h3; omega
        · exact hx b b1 (by omega) b3))
      have hr1 := hr.1
      clear hr
      refine hK2 _ _ _ _ _ _ ?_
      refine mm_run_at (stop := [38]) (S := K) kkX5_turnTo 90 ?_ (fun _ _ _ _ _ _ _ h => hK _ _ _ _ _ _ h)
      repeat' (first | with_reducible assumption | with_reducible exact mm_i17 | with_reducible exact mm_i18 | with_reducible exact mm_i19 | with_reducible exact mm_i20 | with_reducible exact mm_i21 | with_reducible exact mm_i22 | ((with_reducible show mm_rv _ _ _ _ _); first | exact True.intro | exact mm_i17 | exact mm_i18 | exact mm_i19 | exact mm_i20 | exact mm_i21 | exact mm_i22) | ((with_reducible show mm_bool _ _); first | exact True.intro | exact Or.inl rfl | exact Or.inr rfl | (show (_ : Int) = 0 ∨ _ = 1)) | refine And.intro ?_ ?_ | intro _ | with_reducible exact True.intro | exact rfl | with_reducible exact Or.inl rfl | with_reducible exact Or.inr rfl | exact Nat.le_of_ble_eq_true rfl)
      all_goals (try simp (disch := omega) only [InI, Int.toNat_natCast, Int.tmod_eq_emod_of_nonneg, Int.tdiv_eq_ediv_of_nonneg, true_implies, true_or, or_true, mm_l18, mm_l19, mm_l20, mm_l21, mm_l22] at *)
      all_goals first | omega | exact q1 (by omega) | exact st (by omega) | skip
    refine mm_run_at (stop := [38, 55]) (S := K) kkX5_turnTo 90 ?_ (fun _ _ _ _ _ _ _ h => hK _ _ _ _ _ _ h)
    repeat' (first | with_reducible assumption | with_reducible exact mm_i17 | with_reducible exact mm_i18 | with_reducible exact mm_i19 | with_reducible exact mm_i20 | with_reducible exact mm_i21 | with_reducible exact mm_i22 | ((with_reducible show mm_rv _ _ _ _ _); first | exact True.intro | exact mm_i17 | exact mm_i18 | exact mm_i19 | exact mm_i20 | exact mm_i21 | exact mm_i22 | ((with_reducible show mV _ _); exact h1) | ((with_reducible show mV _ _); exact h2)) | ((with_reducible show mV _ _); exact h1) | ((with_reducible show mV _ _); exact h2) | ((with_reducible show mm_bool _ _); first | exact True.intro | exact Or.inl rfl | exact Or.inr rfl | (show (_ : Int) = 0 ∨ _ = 1)) | refine And.intro ?_ ?_ | intro _ | with_reducible exact True.intro | exact rfl | with_reducible exact Or.inl rfl | with_reducible exact Or.inr rfl | exact Nat.le_of_ble_eq_true rfl)
    all_goals (try simp (disch := omega) only [InI, Int.toNat_natCast, Int.tmod_eq_emod_of_nonneg, Int.tdiv_eq_ediv_of_nonneg, true_implies, true_or, or_true, mm_l18, mm_l19, mm_l20, mm_l21, mm_l22] at *)
    all_goals first | omega | exact h9 (by omega) | exact k55 (by omega) _ (by assumption) | skip
set_option maxRecDepth 20000 in
theorem rn_X5_turnTo : mm_RN flX5 ct_X5_turnTo mm_x0 [] 1 0 4 kdX5_turnTo sp_X5_turnTo := by
  intro av M d Q h
  unfold sp_X5_turnTo at h
  split at h
  · rename_i o k v
    obtain ⟨rfl, ht, hk, hv, h1, h2, hq⟩ := h
    obtain ⟨k, rfl⟩ := Int.eq_ofNat_of_zero_le hk.1
    obtain ⟨v, rfl⟩ := Int.eq_ofNat_of_zero_le hv.1
    simp only [Int.toNat_natCast] at *
    have hk4 : k < 4 := by omega
    have hv4 : v < 4 := by omega
    have v1 := h1.1
    have u1 := h2.1
    have en := vX_n (M := M) hk4
    have env := vX_n (M := M) hv4
    have hB : stB M := ht.1
    obtain ⟨n, hn⟩ := Int.eq_ofNat_of_zero_le v1.1
    obtain ⟨K, hK, hK2⟩ : ∃ K : Nat → mm_K, (∀ t ls st M d u, K t ls st M d u → rr_X5_turnTo Q t ls st M d u) ∧ (∀ t ls st M d u, rr_X5_turnTo Q t ls st M d u → K t ls st M d u) := ⟨rr_X5_turnTo Q, fun _ _ _ _ _ _ h => h, fun _ _ _ _ _ _ h => h⟩
    have k36 : ¬ smR (vX M) (8 + 2 * k) (8 + 2 * v) → cor (vX M) (8 + 2 * k) (vX M (8 + 2 * k) 2) = vX M (8 + 2 * k) 3 → M 21 k = M 21 v → K 38 [some (mm_R 17), some (mm_I k), some (mm_I v), some (mm_I 1)] [] M d 0 := by
      intro hs hh hl
      refine hK2 _ _ _ _ _ _ (lp_X5_turnTo hk4 hv4 ht h1 h2 hn (by omega) (fun r hr => hq r ⟨hr.1, Or.inr ⟨hs, Or.inr ⟨⟨hh, by rw [en, env]; exact hl⟩, ?_⟩⟩⟩) n 1 (by omega) (by omega) (by omega) (fun b b1 b2 => by omega))
      rw [en, hn]
      rcases hr.2 with h | ⟨b, e1, e2, e3, e4, e5⟩
      · exact Or.inl ⟨h.1, fun b b1 b2 => h.2 b b1 (by omega)⟩
      · exact Or.inr ⟨b, e1, e2, by omega, e4, e5⟩
    have k16 : ¬ smR (vX M) (8 + 2 * k) (8 + 2 * v) → ∀ r, (r = 0 ∨ r = 1) ∧ (r = 1 ↔ cor (vX M) (8 + 2 * k) (vX M (8 + 2 * k) 2) = vX M (8 + 2 * k) 3) → K 16 [some (mm_R 17), some (mm_I k), some (mm_I v), none] [mm_I r] M d 0 := by
      intro hs r hr
      have q0 : ¬ (cor (vX M) (8 + 2 * k) (vX M (8 + 2 * k) 2) = vX M (8 + 2 * k) 3 ∧ vX M (8 + 2 * k) 2 = vX M (8 + 2 * v) 2) → Q (.inl (some (mm_I (-1)))) M d := fun h => hq (-1) ⟨by omega, Or.inr ⟨hs, Or.inl ⟨h, rfl⟩⟩⟩
      have q2 : r = 0 → Q (.inl (some (mm_I (-1)))) M d := fun h => q0 (fun h2 => by have := hr.2.mpr h2.1; omega)
      have q3 : M 21 k ≠ M 21 v → Q (.inl (some (mm_I (-1)))) M d := fun h => q0 (fun h2 => h (by rw [← en, ← env]; exact h2.2))
      have k38 : r ≠ 0 → M 21 k = M 21 v → K 38 [some (mm_R 17), some (mm_I k), some (mm_I v), some (mm_I 1)] [] M d 0 := fun h h2 => k36 hs (hr.2.mp (by omega)) h2
      have hr1 := hr.1
      clear hr
      refine hK2 _ _ _ _ _ _ ?_
      refine mm_run_at (stop := [38]) (S := K) kkX5_turnTo 90 ?_ (fun _ _ _ _ _ _ _ h => hK _ _ _ _ _ _ h)
      repeat' (first | with_reducible assumption | with_reducible exact mm_i17 | with_reducible exact mm_i18 | with_reducible exact mm_i19 | with_reducible exact mm_i20 | with_reducible exact mm_i21 | with_reducible exact mm_i22 | ((with_reducible show mm_rv _ _ _ _ _); first | exact True.intro | exact mm_i17 | exact mm_i18 | exact mm_i19 | exact mm_i20 | exact mm_i21 | exact mm_i22) | ((with_reducible show mm_bool _ _); first | exact True.intro | exact Or.inl rfl | exact Or.inr rfl | (show (_ : Int) = 0 ∨ _ = 1)) | refine And.intro ?_ ?_ | intro _ | with_reducible exact True.intro | exact rfl | with_reducible exact Or.inl rfl | with_reducible exact Or.inr rfl | exact Nat.le_of_ble_eq_true rfl)
      all_goals (try simp (disch := omega) only [InI, Int.toNat_natCast, Int.tmod_eq_emod_of_nonneg, Int.tdiv_eq_ediv_of_nonneg, true_implies, true_or, or_true, mm_l18, mm_l19, mm_l20, mm_l21, mm_l22] at *)
      all_goals first | omega | exact q2 (by omega) | exact q3 (by omega) | exact k38 (by omega) (by omega) | skip
    have k6 : ∀ r, (r = 0 ∨ r = 1) ∧ (r = 1 ↔ smR (vX M) (8 + 2 * k) (8 + 2 * v)) → K 6 [some (mm_R 17), some (mm_I k), some (mm_I v), none] [mm_I r] M d 0 := by
      intro r hr
      have q1 : r ≠ 0 → Q (.inl (some (mm_I 0))) M d := fun h => hq 0 ⟨by omega, Or.inl ⟨hr.2.mp (by omega), rfl⟩⟩
      have k16' : r = 0 → _ := fun h => k16 (fun h2 => by have := hr.2.mpr h2; omega)
      have hr1 := hr.1
      clear hr
      refine hK2 _ _ _ _ _ _ ?_
      refine mm_run_at (stop := [16]) (S := K) kkX5_turnTo 90 ?_ (fun _ _ _ _ _ _ _ h => hK _ _ _ _ _ _ h)
      repeat' (first | with_reducible assumption | with_reducible exact mm_i17 | with_reducible exact mm_i18 | with_reducible exact mm_i19 | with_reducible exact mm_i20 | with_reducible exact mm_i21 | with_reducible exact mm_i22 | ((with_reducible show mm_rv _ _ _ _ _); first | exact True.intro | exact mm_i17 | exact mm_i18 | exact mm_i19 | exact mm_i20 | exact mm_i21 | exact mm_i22 | ((with_reducible show mV _ _); exact h1)) | ((with_reducible show mV _ _); exact h1) | ((with_reducible show mm_bool _ _); first | exact True.intro | exact Or.inl rfl | exact Or.inr rfl | (show (_ : Int) = 0 ∨ _ = 1)) | refine And.intro ?_ ?_ | intro _ | with_reducible exact True.intro | exact rfl | with_reducible exact Or.inl rfl | with_reducible exact Or.inr rfl | exact Nat.le_of_ble_eq_true rfl)
      all_goals (try simp (disch := omega) only [InI, Int.toNat_natCast, Int.tmod_eq_emod_of_nonneg, Int.tdiv_eq_ediv_of_nonneg, true_implies, true_or, or_true, mm_l18, mm_l19, mm_l20, mm_l21, mm_l22] at *)
      all_goals first | omega | exact q1 (by omega) | exact k16' (by omega) _ (by assumption) | skip
    refine ⟨Nat.le_of_ble_eq_true rfl, ?_⟩
    refine mm_run_at (stop := [6]) (S := K) kkX5_turnTo 90 ?_ (fun _ _ _ _ _ _ _ h => hK _ _ _ _ _ _ h)
    repeat' (first | with_reducible assumption | with_reducible exact mm_i17 | with_reducible exact mm_i18 | with_reducible exact mm_i19 | with_reducible exact mm_i20 | with_reducible exact mm_i21 | with_reducible exact mm_i22 | ((with_reducible show mm_rv _ _ _ _ _); first | exact True.intro | exact mm_i17 | exact mm_i18 | exact mm_i19 | exact mm_i20 | exact mm_i21 | exact mm_i22 | ((with_reducible show mV _ _); exact h1) | ((with_reducible show mV _ _); exact h2)) | ((with_reducible show mV _ _); exact h1) | ((with_reducible show mV _ _); exact h2) | ((with_reducible show mm_bool _ _); first | exact True.intro | exact Or.inl rfl | exact Or.inr rfl | (show (_ : Int) = 0 ∨ _ = 1)) | refine And.intro ?_ ?_ | intro _ | with_reducible exact True.intro | exact rfl | with_reducible exact Or.inl rfl | with_reducible exact Or.inr rfl | exact Nat.le_of_ble_eq_true rfl)
    all_goals (try simp (disch := omega) only [InI, Int.toNat_natCast, Int.tmod_eq_emod_of_nonneg, Int.tdiv_eq_ediv_of_nonneg, true_implies, true_or, or_true, mm_l18, mm_l19, mm_l20, mm_l21, mm_l22] at *)
    all_goals first | omega | exact k6 _ (by assumption) | skip
  · exact h.elim
theorem me_X5_turnTo {l : Launch} (hl : l.stackTraces = false) : mm_Met l yX5_turnTo cX5_turnTo 4 (some .int) [] 10 186 0 sp_X5_turnTo := mm_mt hl rn_X5_turnTo ⟨plX5, rfl⟩ kkX5_turnTo rfl ⟨Nat.le_of_ble_eq_true rfl, Nat.le_of_ble_eq_true rfl⟩ flkX5 (fun _ h => nomatch h) (⟨mm_pe (me_X5_isSame hl) mwX5_isSame (mm_t7 172 rfl rfl) (Nat.le_of_ble_eq_true rfl) (Nat.le_of_ble_eq_true rfl), mm_pe (me_X5_isHome hl) mwX5_isHome (mm_t7 92 rfl rfl) (Nat.le_of_ble_eq_true rfl) (Nat.le_of_ble_eq_true rfl), mm_pe (me_X5_isTurnedBy hl) mwX5_isTurnedBy (mm_t7 184 rfl rfl) (Nat.le_of_ble_eq_true rfl) (Nat.le_of_ble_eq_true rfl), trivial⟩) (mm_xe0 _) n9X5
end
section
/-! the model's walks: words; emptied; the start of a call -/
theorem rdw_b {V : mm_M} {w p : Nat} (hs : 1 ≤ V 2 6 ∧ V 2 6 ≤ 5) : ∀ m, 0 ≤ rdw V w p m ∧ rdw V w p m + 1 ≤ 5 ^ m
  | 0 => by simp [rdw]
  | m + 1 => by
    obtain ⟨h1, h2⟩ := rdw_b (w := w) (p := p) hs m
    have h3 := Int.emod_nonneg (V (w + 1) ((p + m) % (V w 2).toNat) / 2) (show V 2 6 ≠ 0 by omega)
    have h4 := Int.emod_lt_of_pos (V (w + 1) ((p + m) % (V w 2).toNat) / 2) (show 0 < V 2 6 by omega)
    have h5 : 0 ≤ rdw V w p m * V 2 6 := Int.mul_nonneg h1 (by omega)
    have h6 : (rdw V w p m + 1) * V 2 6 ≤ 5 ^ m * 5 := Int.mul_le_mul h2 hs.2 (by omega) (by omega)
    rw [Int.add_mul, Int.one_mul, ← Int.pow_succ] at h6
    simp only [rdw]
    omega
theorem pw5 {m : Nat} (h : m ≤ 4) : (5 : Int) ^ m ≤ 625 := by
  have : m = 0 ∨ m = 1 ∨ m = 2 ∨ m = 3 ∨ m = 4 := by omega
  rcases this with rfl | rfl | rfl | rfl | rfl <;> decide
theorem at_X5_wordIn_0 : mm_at 0 kdX5_wordIn = [(0, .aload_n 0, 0), (1, .getfield 89, 0), (4, .ifCond .eq 11, 15), (7, .iload_n 2, 0), (8, .aload_n 0, 0), (9, .getfield 49, 0), (12, .if_icmp .lt 5, 17), (15, .iconst (-1), 0), (16, .ireturn, 0), (17, .iload_n 3, 0), (18, .istore 4, 0), (20, .iload 4, 0), (22, .aload_n 0, 0), (23, .getfield 19, 0), (26, .iload_n 1, 0), (27, .iaload, 0), (28, .if_icmp .ge 73, 101), (31, .iconst 0, 0), (32, .istore 5, 0), (34, .iconst 0, 0), (35, .istore 6, 0), (37, .iload 6, 0), (39, .aload_n 0, 0), (40, .getfield 92, 0), (43, .if_icmp .ge 43, 86), (46, .iload 5, 0), (48, .aload_n 0, 0), (49, .getfield 89, 0), (52, .imul, 0), (53, .aload_n 0, 0), (54, .iload_n 1, 0), (55, .iload 4, 0), (57, .iload 6, 0), (59, .iadd, 0), (60, .aload_n 0, 0), (61, .getfield 19, 0), (64, .iload_n 1, 0), (65, .iaload, 0), (66, .irem, 0), (67, .invokevirtual 98, 0), (70, .iconst 2, 0), (71, .idiv, 0), (72, .aload_n 0, 0), (73, .getfield 89, 0), (76, .irem, 0), (77, .iadd, 0), (78, .istore 5, 0), (80, .iinc 6 1, 0), (83, .goto (-46), 37), (86, .iload 5, 0), (88, .iload_n 2, 0), (89, .if_icmp .ne 6, 95), (92, .iload 4, 0), (94, .ireturn, 0), (95, .iinc 4 1, 0), (98, .goto (-78), 20), (101, .iconst (-1), 0), (102, .ireturn, 0)] := rfl
theorem at_X5_wordIn_15 : mm_at 15 kdX5_wordIn = [(15, .iconst (-1), 0), (16, .ireturn, 0), (17, .iload_n 3, 0), (18, .istore 4, 0), (20, .iload 4, 0), (22, .aload_n 0, 0), (23, .getfield 19, 0), (26, .iload_n 1, 0), (27, .iaload, 0), (28, .if_icmp .ge 73, 101), (31, .iconst 0, 0), (32, .istore 5, 0), (34, .iconst 0, 0), (35, .istore 6, 0), (37, .iload 6, 0), (39, .aload_n 0, 0), (40, .getfield 92, 0), (43, .if_icmp .ge 43, 86), (46, .iload 5, 0), (48, .aload_n 0, 0), (49, .getfield 89, 0), (52, .imul, 0), (53, .aload_n 0, 0), (54, .iload_n 1, 0), (55, .iload 4, 0), (57, .iload 6, 0), (59, .iadd, 0), (60, .aload_n 0, 0), (61, .getfield 19, 0), (64, .iload_n 1, 0), (65, .iaload, 0), (66, .irem, 0), (67, .invokevirtual 98, 0), (70, .iconst 2, 0), (71, .idiv, 0), (72, .aload_n 0, 0), (73, .getfield 89, 0), (76, .irem, 0), (77, .iadd, 0), (78, .istore 5, 0), (80, .iinc 6 1, 0), (83, .goto (-46), 37), (86, .iload 5, 0), (88, .iload_n 2, 0), (89, .if_icmp .ne 6, 95), (92, .iload 4, 0), (94, .ireturn, 0), (95, .iinc 4 1, 0), (98, .goto (-78), 20), (101, .iconst (-1), 0), (102, .ireturn, 0)] := rfl
theorem at_X5_wordIn_17 : mm_at 17 kdX5_wordIn = [(17, .iload_n 3, 0), (18, .istore 4, 0), (20, .iload 4, 0), (22, .aload_n 0, 0), (23, .getfield 19, 0), (26, .iload_n 1, 0), (27, .iaload, 0), (28, .if_icmp .ge 73, 101), (31, .iconst 0, 0), (32, .istore 5, 0), (34, .iconst 0, 0), (35, .istore 6, 0), (37, .iload 6, 0), (39, .aload_n 0, 0), (40, .getfield 92, 0), (43, .if_icmp .ge 43, 86), (46, .iload 5, 0), (48, .aload_n 0, 0), (49, .getfield 89, 0), (52, .imul, 0), (53, .aload_n 0, 0), (54, .iload_n 1, 0), (55, .iload 4, 0), (57, .iload 6, 0), (59, .iadd, 0), (60, .aload_n 0, 0), (61, .getfield 19, 0), (64, .iload_n 1, 0), (65, .iaload, 0), (66, .irem, 0), (67, .invokevirtual 98, 0), (70, .iconst 2, 0), (71, .idiv, 0), (72, .aload_n 0, 0), (73, .getfield 89, 0), (76, .irem, 0), (77, .iadd, 0), (78, .istore 5, 0), (80, .iinc 6 1, 0), (83, .goto (-46), 37), (86, .iload 5, 0), (88, .iload_n 2, 0), (89, .if_icmp .ne 6, 95), (92, .iload 4, 0), (94, .ireturn, 0), (95, .iinc 4 1, 0), (98, .goto (-78), 20), (101, .iconst (-1), 0), (102, .ireturn, 0)] := rfl
theorem at_X5_wordIn_20 : mm_at 20 kdX5_wordIn = [(20, .iload 4, 0), (22, .aload_n 0, 0), (23, .getfield 19, 0), (26, .iload_n 1, 0), (27, .iaload, 0), (28, .if_icmp .ge 73, 101), (31, .iconst 0, 0), (32, .istore 5, 0), (34, .iconst 0, 0), (35, .istore 6, 0), (37, .iload 6, 0), (39, .aload_n 0, 0), (40, .getfield 92, 0), (43, .if_icmp .ge 43, 86), (46, .iload 5, 0), (48, .aload_n 0, 0), (49, .getfield 89, 0), (52, .imul, 0), (53, .aload_n 0, 0), (54, .iload_n 1, 0), (55, .iload 4, 0), (57, .iload 6, 0), (59, .iadd, 0), (60, .aload_n 0, 0), (61, .getfield 19, 0), (64, .iload_n 1, 0), (65, .iaload, 0), (66, .irem, 0), (67, .invokevirtual 98, 0), (70, .iconst 2, 0), (71, .idiv, 0), (72, .aload_n 0, 0), (73, .getfield 89, 0), (76, .irem, 0), (77, .iadd, 0), (78, .istore 5, 0), (80, .iinc 6 1, 0), (83, .goto (-46), 37), (86, .iload 5, 0), (88, .iload_n 2, 0), (89, .if_icmp .ne 6, 95), (92, .iload 4, 0), (94, .ireturn, 0), (95, .iinc 4 1, 0), (98, .goto (-78), 20), (101, .iconst (-1), 0), (102, .ireturn, 0)] := rfl
theorem at_X5_wordIn_37 : mm_at 37 kdX5_wordIn = [(37, .iload 6, 0), (39, .aload_n 0, 0), (40, .getfield 92, 0), (43, .if_icmp .ge 43, 86), (46, .iload 5, 0), (48, .aload_n 0, 0), (49, .getfield 89, 0), (52, .imul, 0), (53, .aload_n 0, 0), (54, .iload_n 1, 0), (55, .iload 4, 0), (57, .iload 6, 0), (59, .iadd, 0), (60, .aload_n 0, 0), (61, .getfield 19, 0), (64, .iload_n 1, 0), (65, .iaload, 0), (66, .irem, 0), (67, .invokevirtual 98, 0), (70, .iconst 2, 0), (71, .idiv, 0), (72, .aload_n 0, 0), (73, .getfield 89, 0), (76, .irem, 0), (77, .iadd, 0), (78, .istore 5, 0), (80, .iinc 6 1, 0), (83, .goto (-46), 37), (86, .iload 5, 0), (88, .iload_n 2, 0), (89, .if_icmp .ne 6, 95), (92, .iload 4, 0), (94, .ireturn, 0), (95, .iinc 4 1, 0), (98, .goto (-78), 20), (101, .iconst (-1), 0), (102, .ireturn, 0)] := rfl
theorem at_X5_wordIn_86 : mm_at 86 kdX5_wordIn = [(86, .iload 5, 0), (88, .iload_n 2, 0), (89, .if_icmp .ne 6, 95), (92, .iload 4, 0), (94, .ireturn, 0), (95, .iinc 4 1, 0), (98, .goto (-78), 20), (101, .iconst (-1), 0), (102, .ireturn, 0)] := rfl
theorem at_X5_wordIn_95 : mm_at 95 kdX5_wordIn = [(95, .iinc 4 1, 0), (98, .goto (-78), 20), (101, .iconst (-1), 0), (102, .ireturn, 0)] := rfl
theorem at_X5_wordIn_101 : mm_at 101 kdX5_wordIn = [(101, .iconst (-1), 0), (102, .ireturn, 0)] := rfl
def sp_X5_wordIn : mm_S := fun av M d Q => match av with
  | [.inr (.inr (.inl o)), .inl k, .inl x, .inl f] =>  o = 17 ∧ tX M ∧ (0 ≤ k ∧ k < 4) ∧ mV M k.toNat ∧ (0 ≤ x ∧ x ≤ 100) ∧ (0 ≤ f ∧ f ≤ 100) ∧ ∀ r, (-1 ≤ r ∧ r ≤ 30) ∧ wdR (vX M) (8 + 2 * k.toNat) x f r → Q (.inl (some (mm_I r))) M d
  | _ => False
def ct_X5_wordIn : List (Nat × mm_Ca) := [(98, (0, 3, 14, sp_X5_stepOf, 0))]
abbrev rr_X5_wordIn (Q : mm_Q) := mm_run (mm_look flX5) (mm_look ct_X5_wordIn) mm_x0 (mm_look ([] : List (Nat × Int))) (fun _ => none) 1 0 (fun _ _ => none) Q kdX5_wordIn
set_option maxRecDepth 20000 in
theorem lp2_X5_wordIn {M : mm_M} {d : List Nat} {Q : mm_Q} {x f : Int} {k n p wl : Nat} (hk : k < 4) (ht : tX M) (hv : mV M k) (hn : M 21 k = n) (hp : p < n) (hs : 1 ≤ M 17 5) (hwl : M 17 6 = wl) (hq : rr_X5_wordIn Q 86 [some (mm_R 17), some (mm_I k), some (mm_I x), some (mm_I f), some (mm_I p), some (mm_I (rdw (vX M) (8 + 2 * k) p wl)), some (mm_I wl)] [] M d 0) : ∀ (j m : Nat), m + j = wl → rr_X5_wordIn Q 37 [some (mm_R 17), some (mm_I k), some (mm_I x), some (mm_I f), some (mm_I p), some (mm_I (rdw (vX M) (8 + 2 * k) p m)), some (mm_I m)] [] M d 0 := by
  obtain ⟨v1, v2, v3⟩ := id hv
  have t1 := ht.1
  have t5 := ht.2.2.2
  intro j
  induction j with
  | zero =>
    intro m hm
    have e : m = wl := by omega
    subst e
    obtain ⟨K, hK, hK2⟩ : ∃ K : Nat → mm_K, (∀ t ls st M d u, K t ls st M d u → rr_X5_wordIn Q t ls st M d u) ∧ (∀ t ls st M d u, rr_X5_wordIn Q t ls st M d u → K t ls st M d u) := ⟨rr_X5_wordIn Q, fun _ _ _ _ _ _ h => h, fun _ _ _ _ _ _ h => h⟩
    have h9 := hK2 _ _ _ _ _ _ hq
    refine mm_run_at (stop := [46, 86]) (S := K) kkX5_wordIn 90 ?_ (fun _ _ _ _ _ _ _ h => hK _ _ _ _ _ _ h)
    repeat' (first | with_reducible assumption | with_reducible exact mm_i17 | with_reducible exact mm_i18 | with_reducible exact mm_i19 | with_reducible exact mm_i20 | with_reducible exact mm_i21 | with_reducible exact mm_i22 | ((with_reducible show mm_rv _ _ _ _ _); first | exact True.intro | exact mm_i17 | exact mm_i18 | exact mm_i19 | exact mm_i20 | exact mm_i21 | exact mm_i22) | ((with_reducible show mm_bool _ _); first | exact True.intro | exact Or.inl rfl | exact Or.inr rfl | (show (_ : Int) = 0 ∨ _ = 1)) | refine And.intro ?_ ?_ | intro _ | with_reducible exact True.intro | exact rfl | with_reducible exact Or.inl rfl | with_reducible exact Or.inr rfl | exact Nat.le_of_ble_eq_true rfl)
    all_goals (try simp (disch := omega) only [InI, Int.toNat_natCast, Int.tmod_eq_emod_of_nonneg, Int.tdiv_eq_ediv_of_nonneg, true_implies, true_or, or_true, mm_l18, mm_l19, mm_l20, mm_l21, mm_l22] at *)
    all_goals first | omega | exact h9 | skip
  | succ j ih =>
    intro m hm
    have hml : (p + m) % n < n := Nat.mod_lt _ (by omega)
    have et : ((p : Int) + m).tmod (M 21 k) = ((p + m) % n : Nat) := by rw [Int.tmod_eq_emod_of_nonneg (by omega), hn]; norm_cast
    have v4 := v3 ((p + m) % n) (by omega)
    have en := vX_n (M := M) hk
    have ei := vX_i (M := M) (i := (p + m) % n) hk (by omega)
    have er : rdw (vX M) (8 + 2 * k) p (m + 1) = rdw (vX M) (8 + 2 * k) p m * M 17 5 + M 20 (30 * k + (p + m) % n) / 2 % M 17 5 := by
      simp only [rdw]
      rw [en, hn, Int.toNat_natCast, ei, vX_26]
    have ed := Int.tdiv_eq_ediv_of_nonneg v4.1 (b := 2)
    have em : (M 20 (30 * k + (p + m) % n) / 2).tmod (M 17 5) = M 20 (30 * k + (p + m) % n) / 2 % M 17 5 := Int.tmod_eq_emod_of_nonneg (by omega)
    obtain ⟨K, hK, hK2⟩ : ∃ K : Nat → mm_K, (∀ t ls st M d u, K t ls st M d u → rr_X5_wordIn Q t ls st M d u) ∧ (∀ t ls st M d u, rr_X5_wordIn Q t ls st M d u → K t ls st M d u) := ⟨rr_X5_wordIn Q, fun _ _ _ _ _ _ h => h, fun _ _ _ _ _ _ h => h⟩
    have st := hK2 _ _ _ _ _ _ (ih (m + 1) (by omega))
    rw [er] at st
    refine mm_run_at (stop := [37, 86]) (S := K) kkX5_wordIn 90 ?_ (fun _ _ _ _ _ _ _ h => hK _ _ _ _ _ _ h)
    repeat' (first | with_reducible assumption | with_reducible exact mm_i17 | with_reducible exact mm_i18 | with_reducible exact mm_i19 | with_reducible exact mm_i20 | with_reducible exact mm_i21 | with_reducible exact mm_i22 | ((with_reducible show mm_rv _ _ _ _ _); first | exact True.intro | exact mm_i17 | exact mm_i18 | exact mm_i19 | exact mm_i20 | exact mm_i21 | exact mm_i22) | ((with_reducible show mm_bool _ _); first | exact True.intro | exact Or.inl rfl | exact Or.inr rfl | (show (_ : Int) = 0 ∨ _ = 1)) | refine And.intro ?_ ?_ | intro _ | with_reducible exact True.intro | exact rfl | with_reducible exact Or.inl rfl | with_reducible exact Or.inr rfl | exact Nat.le_of_ble_eq_true rfl)
    all_goals (try simp (disch := omega) only [et, ed, em, InI, Int.toNat_natCast, Int.tmod_eq_emod_of_nonneg, Int.tdiv_eq_ediv_of_nonneg, true_implies, true_or, or_true, mm_l18, mm_l19, mm_l20, mm_l21, mm_l22] at *)
    all_goals first | omega | exact st | (rw [hwl] at *; omega) | skip
set_option maxRecDepth 20000 in
theorem lp_X5_wordIn {M : mm_M} {d : List Nat} {Q : mm_Q} {x f : Int} {k n wl : Nat} (hk : k < 4) (ht : tX M) (hv : mV M k) (hx : 0 ≤ x ∧ x ≤ 100) (hf : 0 ≤ f) (hn : M 21 k = n) (hs : 1 ≤ M 17 5) (hwl : M 17 6 = wl) (hq : ∀ r : Int, (-1 ≤ r ∧ r ≤ 30) ∧ ((r = -1 ∧ ∀ p : Nat, f ≤ p → p < n → rdw (vX M) (8 + 2 * k) p wl ≠ x) ∨ ∃ p : Nat, r = p ∧ f ≤ p ∧ p < n ∧ rdw (vX M) (8 + 2 * k) p wl = x ∧ ∀ p' : Nat, f ≤ p' → p' < p → rdw (vX M) (8 + 2 * k) p' wl ≠ x) → Q (.inl (some (mm_I r))) M d) : ∀ (j p : Nat) (x5 x6 : Option mm_V), n ≤ p + j → p ≤ 101 → f ≤ p → (∀ p' : Nat, f ≤ p' → p' < p → rdw (vX M) (8 + 2 * k) p' wl ≠ x) → rr_X5_wordIn Q 20 [some (mm_R 17), some (mm_I k), some (mm_I x), some (mm_I f), some (mm_I p), x5, x6] [] M d 0 := by
  have v1 := hv.1
  have t5 := ht.2.2.2
  intro j
  induction j with
  | zero =>
    intro p x5 x6 hp hp2 hfp hN
    have h9 := hq (-1) ⟨by omega, Or.inl ⟨rfl, fun p' a b => hN p' a (by omega)⟩⟩
    obtain ⟨K, hK, hK2⟩ : ∃ K : Nat → mm_K, (∀ t ls st M d u, K t ls st M d u → rr_X5_wordIn Q t ls st M d u) ∧ (∀ t ls st M d u, rr_X5_wordIn Q t ls st M d u → K t ls st M d u) := ⟨rr_X5_wordIn Q, fun _ _ _ _ _ _ h => h, fun _ _ _ _ _ _ h => h⟩
    refine mm_run_at (stop := [31]) (S := K) kkX5_wordIn 90 ?_ (fun _ _ _ _ _ _ _ h => hK _ _ _ _ _ _ h)
    repeat' (first | with_reducible assumption | with_reducible exact mm_i17 | with_reducible exact mm_i18 | with_reducible exact mm_i19 | with_reducible exact mm_i20 | with_reducible exact mm_i21 | with_reducible exact mm_i22 | ((with_reducible show mm_rv _ _ _ _ _); first | exact True.intro | exact mm_i17 | exact mm_i18 | exact mm_i19 | exact mm_i20 | exact mm_i21 | exact mm_i22) | ((with_reducible show mm_bool _ _); first | exact True.intro | exact Or.inl rfl | exact Or.inr rfl | (show (_ : Int) = 0 ∨ _ = 1)) | refine And.intro ?_ ?_ | intro _ | with_reducible exact True.intro | exact rfl | with_reducible exact Or.inl rfl | with_reducible exact Or.inr rfl | exact Nat.le_of_ble_eq_true rfl)
    all_goals (try simp (disch := omega) only [InI, Int.toNat_natCast, Int.tmod_eq_emod_of_nonneg, Int.tdiv_eq_ediv_of_nonneg, true_implies, true_or, or_true, mm_l18, mm_l19, mm_l20, mm_l21, mm_l22] at *)
    all_goals first | omega | exact h9 | skip
  | succ j ih =>
    intro p x5 x6 hp hp2 hfp hN
    by_cases hpn : p < n
    · have hb := rdw_b (V := vX M) (w := 8 + 2 * k) (p := p) (by rw [vX_26]; omega) wl
      have h5 := pw5 (m := wl) (by omega)
      have h9 : rdw (vX M) (8 + 2 * k) p wl = x → Q (.inl (some (mm_I p))) M d := fun h => hq p ⟨by omega, Or.inr ⟨p, rfl, hfp, hpn, h, hN⟩⟩
      obtain ⟨K, hK, hK2⟩ : ∃ K : Nat → mm_K, (∀ t ls st M d u, K t ls st M d u → rr_X5_wordIn Q t ls st M d u) ∧ (∀ t ls st M d u, rr_X5_wordIn Q t ls st M d u → K t ls st M d u) := ⟨rr_X5_wordIn Q, fun _ _ _ _ _ _ h => h, fun _ _ _ _ _ _ h => h⟩
      have st : rdw (vX M) (8 + 2 * k) p wl ≠ x → K 20 [some (mm_R 17), some (mm_I k), some (mm_I x), some (mm_I f), some (mm_I ((p : Int) + 1)), some (mm_I (rdw (vX M) (8 + 2 * k) p wl)), some (mm_I wl)] [] M d 0 := fun h => hK2 _ _ _ _ _ _ (ih (p + 1) _ _ (by omega) (by omega) (by omega) (fun p' a b => by
        by_cases e : p' = p
        · subst e; exact h
        · exact hN p' a (by omega)))
      have k37 : K 37 [some (mm_R 17), some (mm_I k), some (mm_I x), some (mm_I f), some (mm_I p), some (mm_I 0), some (mm_I 0)] [] M d 0 := by
        refine hK2 _ _ _ _ _ _ (lp2_X5_wordIn hk ht hv hn hpn hs hwl ?_ wl 0 (by omega))
        refine mm_run_at (stop := [20]) (S := K) kkX5_wordIn 90 ?_ (fun _ _ _ _ _ _ _ h => hK _ _ _ _ _ _ h)
        repeat' (first | with_reducible assumption | with_reducible exact mm_i17 | with_reducible exact mm_i18 | with_reducible exact mm_i19 | with_reducible exact mm_i20 | with_reducible exact mm_i21 | with_reducible exact mm_i22 | ((with_reducible show mm_rv _ _ _ _ _); first | exact True.intro | exact mm_i17 | exact mm_i18 | exact mm_i19 | exact mm_i20 | exact mm_i21 | exact mm_i22) | ((with_reducible show mm_bool _ _); first | exact True.intro | exact Or.inl rfl | exact Or.inr rfl | (show (_ : Int) = 0 ∨ _ = 1)) | refine And.intro ?_ ?_ | intro _ | with_reducible exact True.intro | exact rfl | with_reducible exact Or.inl rfl | with_reducible exact Or.inr rfl | exact Nat.le_of_ble_eq_true rfl)
        all_goals (try simp (disch := omega) only [InI, Int.toNat_natCast, Int.tmod_eq_emod_of_nonneg, Int.tdiv_eq_ediv_of_nonneg, true_implies, true_or, or_true, mm_l18, mm_l19, mm_l20, mm_l21, mm_l22] at *)
        all_goals first | omega | exact h9 (by omega) | exact st (by omega) | skip
      refine mm_run_at (stop := [37, 101]) (S := K) kkX5_wordIn 90 ?_ (fun _ _ _ _ _ _ _ h => hK _ _ _ _ _ _ h)
      repeat' (first | with_reducible assumption | with_reducible exact mm_i17 | with_reducible exact mm_i18 | with_reducible exact mm_i19 | with_reducible exact mm_i20 | with_reducible exact mm_i21 | with_reducible exact mm_i22 | ((with_reducible show mm_rv _ _ _ _ _); first | exact True.intro | exact mm_i17 | exact mm_i18 | exact mm_i19 | exact mm_i20 | exact mm_i21 | exact mm_i22) | ((with_reducible show mm_bool _ _); first | exact True.intro | exact Or.inl rfl | exact Or.inr rfl | (show (_ : Int) = 0 ∨ _ = 1)) | refine And.intro ?_ ?_ | intro _ | with_reducible exact True.intro | exact rfl | with_reducible exact Or.inl rfl | with_reducible exact Or.inr rfl | exact Nat.le_of_ble_eq_true rfl)
      all_goals (try simp (disch := omega) only [InI, Int.toNat_natCast, Int.tmod_eq_emod_of_nonneg, Int.tdiv_eq_ediv_of_nonneg, true_implies, true_or, or_true, mm_l18, mm_l19, mm_l20, mm_l21, mm_l22] at *)
      all_goals first | omega | exact k37 | skip
    · have h9 := hq (-1) ⟨by omega, Or.inl ⟨rfl, fun p' a b => hN p' a (by omega)⟩⟩
      obtain ⟨K, hK, hK2⟩ : ∃ K : Nat → mm_K, (∀ t ls st M d u, K t ls st M d u → rr_X5_wordIn Q t ls st M d u) ∧ (∀ t ls st M d u, rr_X5_wordIn Q t ls st M d u → K t ls st M d u) := ⟨rr_X5_wordIn Q, fun _ _ _ _ _ _ h => h, fun _ _ _ _ _ _ h => h⟩
      refine mm_run_at (stop := [31]) (S := K) kkX5_wordIn 90 ?_ (fun _ _ _ _ _ _ _ h => hK _ _ _ _ _ _ h)
      repeat' (first | with_reducible assumption | with_reducible exact mm_i17 | with_reducible exact mm_i18 | with_reducible exact mm_i19 | with_reducible exact mm_i20 | with_reducible exact mm_i21 | with_reducible exact mm_i22 | ((with_reducible show mm_rv _ _ _ _ _); first | exact True.intro | exact mm_i17 | exact mm_i18 | exact mm_i19 | exact mm_i20 | exact mm_i21 | exact mm_i22) | ((with_reducible show mm_bool _ _); first | exact True.intro | exact Or.inl rfl | exact Or.inr rfl | (show (_ : Int) = 0 ∨ _ = 1)) | refine And.intro ?_ ?_ | intro _ | with_reducible exact True.intro | exact rfl | with_reducible exact Or.inl rfl | with_reducible exact Or.inr rfl | exact Nat.le_of_ble_eq_true rfl)
      all_goals (try simp (disch := omega) only [InI, Int.toNat_natCast, Int.tmod_eq_emod_of_nonneg, Int.tdiv_eq_ediv_of_nonneg, true_implies, true_or, or_true, mm_l18, mm_l19, mm_l20, mm_l21, mm_l22] at *)
      all_goals first | omega | exact h9 | skip
set_option maxRecDepth 20000 in
theorem rn_X5_wordIn : mm_RN flX5 ct_X5_wordIn mm_x0 [] 1 0 7 kdX5_wordIn sp_X5_wordIn := by
  intro av M d Q h
  unfold sp_X5_wordIn at h
  split at h
  · rename_i o k x f
    obtain ⟨rfl, ht, hk, hv, hx, hf, hq⟩ := h
    have t1 := ht.1
    have t5 := ht.2.2.2
    have v1 := hv.1
    obtain ⟨k, rfl⟩ := Int.eq_ofNat_of_zero_le hk.1
    obtain ⟨f, rfl⟩ := Int.eq_ofNat_of_zero_le hf.1
    simp only [Int.toNat_natCast] at *
    have hk4 : k < 4 := by omega
    have en := vX_n (M := M) hk4
    obtain ⟨n, hn⟩ := Int.eq_ofNat_of_zero_le v1.1
    obtain ⟨wl, hwl⟩ := Int.eq_ofNat_of_zero_le t5.2.1
    have h0 : (M 17 5 = 0 ∨ M 17 1 ≤ x) → Q (.inl (some (mm_I (-1)))) M d := fun h => hq (-1) ⟨by omega, Or.inl ⟨h, rfl⟩⟩
    obtain ⟨K, hK, hK2⟩ : ∃ K : Nat → mm_K, (∀ t ls st M d u, K t ls st M d u → rr_X5_wordIn Q t ls st M d u) ∧ (∀ t ls st M d u, rr_X5_wordIn Q t ls st M d u → K t ls st M d u) := ⟨rr_X5_wordIn Q, fun _ _ _ _ _ _ h => h, fun _ _ _ _ _ _ h => h⟩
    have k17 : ¬ (M 17 5 = 0 ∨ M 17 1 ≤ x) → K 20 [some (mm_R 17), some (mm_I k), some (mm_I x), some (mm_I f), some (mm_I f), none, none] [] M d 0 := fun h => hK2 _ _ _ _ _ _ (lp_X5_wordIn hk4 ht hv hx (by omega) hn (by omega) hwl (fun r hr => hq r ⟨hr.1, Or.inr ⟨h, by
      rw [en, hn, vX_27, hwl, Int.toNat_natCast]
      rcases hr.2 with h | ⟨p, e1, e2, e3, e4, e5⟩
      · exact Or.inl ⟨h.1, fun p b1 b2 => h.2 p b1 (by omega)⟩
      · exact Or.inr ⟨p, e1, e2, by omega, e4, e5⟩⟩⟩) 30 f none none (by omega) (by omega) (by omega) (fun p' a b => by omega))
    refine ⟨Nat.le_of_ble_eq_true rfl, ?_⟩
    refine mm_run_at (stop := [20]) (S := K) kkX5_wordIn 90 ?_ (fun _ _ _ _ _ _ _ h => hK _ _ _ _ _ _ h)
    repeat' (first | with_reducible assumption | with_reducible exact mm_i17 | with_reducible exact mm_i18 | with_reducible exact mm_i19 | with_reducible exact mm_i20 | with_reducible exact mm_i21 | with_reducible exact mm_i22 | ((with_reducible show mm_rv _ _ _ _ _); first | exact True.intro | exact mm_i17 | exact mm_i18 | exact mm_i19 | exact mm_i20 | exact mm_i21 | exact mm_i22) | ((with_reducible show mm_bool _ _); first | exact True.intro | exact Or.inl rfl | exact Or.inr rfl | (show (_ : Int) = 0 ∨ _ = 1)) | refine And.intro ?_ ?_ | intro _ | with_reducible exact True.intro | exact rfl | with_reducible exact Or.inl rfl | with_reducible exact Or.inr rfl | exact Nat.le_of_ble_eq_true rfl)
    all_goals (try simp (disch := omega) only [InI, Int.toNat_natCast, Int.tmod_eq_emod_of_nonneg, Int.tdiv_eq_ediv_of_nonneg, true_implies, true_or, or_true, mm_l18, mm_l19, mm_l20, mm_l21, mm_l22] at *)
    all_goals first | omega | exact h0 (by omega) | exact k17 (by omega) | skip
  · exact h.elim
theorem me_X5_wordIn {l : Launch} (hl : l.stackTraces = false) : mm_Met l yX5_wordIn cX5_wordIn 7 (some .int) [] 7 122 0 sp_X5_wordIn := mm_mt hl rn_X5_wordIn ⟨plX5, rfl⟩ kkX5_wordIn rfl ⟨Nat.le_of_ble_eq_true rfl, Nat.le_of_ble_eq_true rfl⟩ flkX5 (fun _ h => nomatch h) (⟨mm_pe (me_X5_stepOf hl) mwX5_stepOf (mm_t6 158 rfl rfl) (Nat.le_of_ble_eq_true rfl) (Nat.le_of_ble_eq_true rfl), trivial⟩) (mm_xe0 _) n9X5
def sp_X5_emptied : mm_S := fun av M d Q => match av with
  | [.inr (.inr (.inl o))] =>  o = 17 ∧ ∀ M', fX M M' ∧ emR (vX M) (vX M') ∧ M' 17 10 = -1 ∧ M' 17 0 = M 17 0 → Q (.inl none) M' d
  | _ => False
def ct_X5_emptied : List (Nat × mm_Ca) := [(95, (0, 1, 14, sp_X5_endWords, 0))]
abbrev rr_X5_emptied (Q : mm_Q) := mm_run (mm_look flX5) (mm_look ct_X5_emptied) mm_x0 (mm_look ([] : List (Nat × Int))) (fun _ => none) 0 0 (fun _ _ => none) Q kdX5_emptied
set_option maxRecDepth 20000 in
theorem lp_X5_emptied {V : mm_M} {M0 : mm_M} {d : List Nat} {Q : mm_Q} (hV : V = mm_up (vX M0) 2 4 0) (hq : ∀ M', fX M0 M' ∧ emR (vX M0) (vX M') ∧ M' 17 10 = -1 ∧ M' 17 0 = M0 17 0 → Q (.inl none) M' d) : ∀ (j i : Nat) (M : mm_M), i + j = 3 → fX M0 M → M 17 0 = M0 17 0 → fr [8, 10, 12] V (vX M) → (∀ k, k < i → vX M (8 + 2 * k) 2 = 0 ∧ vX M (8 + 2 * k) 3 = 0) → rr_X5_emptied Q 7 [some (mm_R 17), some (mm_I i)] [] M d 0 := by
  intro j
  induction j with
  | zero =>
    intro i M hi hx h00 hf h1
    have fin : ∀ M', fX M M' → vX M' = mm_up (mm_up (mm_up (vX M) 16 1 0) 2 6 0) 2 7 0 → M' 17 10 = -1 → M' 17 0 = M 17 0 → Q (.inl none) M' d := by
      intro M' g1 g2 g3 g4
      have e2 := hf 2 (by simp)
      have e16 := hf 16 (by simp)
      rw [hV] at e2 e16
      refine hq M' ⟨hx.tr g1, ?_, g3, by rw [g4, h00]⟩
      rw [g2]
      refine ⟨(((((fr.rf.up (by simp)).tr (show fr [2, 8, 10, 12, 16] (mm_up (vX M0) 2 4 0) (vX M) from by rw [← hV]; exact hf.mono (by simp))).up (by simp)).up (by simp)).up (by simp)), ?_, ?_, ?_, ?_, fun k hk => ?_, ?_, ?_, ?_, ?_⟩
      · simp [mm_up, e2]
      · simp [mm_up, e2]
      · simp [mm_up]
      · simp [mm_up]
      · have := h1 k (by omega)
        rw [mm_up_o _ (by omega), mm_up_o _ (by omega), mm_up_o _ (by omega)]
        exact this
      · simp [mm_up]
      · simp [mm_up, e16]
      · simp [mm_up, e16]
      · simp [mm_up, e16]
    obtain ⟨K, hK, hK2⟩ : ∃ K : Nat → mm_K, (∀ t ls st M d u, K t ls st M d u → rr_X5_emptied Q t ls st M d u) ∧ (∀ t ls st M d u, rr_X5_emptied Q t ls st M d u → K t ls st M d u) := ⟨rr_X5_emptied Q, fun _ _ _ _ _ _ h => h, fun _ _ _ _ _ _ h => h⟩
    refine mm_run_at (stop := [12]) (S := K) kkX5_emptied 90 ?_ (fun _ _ _ _ _ _ _ h => hK _ _ _ _ _ _ h)
    repeat' (first | with_reducible assumption | with_reducible exact mm_i17 | with_reducible exact mm_i18 | with_reducible exact mm_i19 | with_reducible exact mm_i20 | with_reducible exact mm_i21 | with_reducible exact mm_i22 | ((with_reducible show mm_rv _ _ _ _ _); first | exact True.intro | exact mm_i17 | exact mm_i18 | exact mm_i19 | exact mm_i20 | exact mm_i21 | exact mm_i22) | ((with_reducible show mm_bool _ _); first | exact True.intro | exact Or.inl rfl | exact Or.inr rfl | (show (_ : Int) = 0 ∨ _ = 1)) | refine And.intro ?_ ?_ | intro _ | with_reducible exact True.intro | exact rfl | with_reducible exact Or.inl rfl | with_reducible exact Or.inr rfl | exact Nat.le_of_ble_eq_true rfl)
    all_goals (try simp (disch := omega) only [InI, Int.toNat_natCast, Int.tmod_eq_emod_of_nonneg, Int.tdiv_eq_ediv_of_nonneg, true_implies, true_or, or_true, mm_l18, mm_l19, mm_l20, mm_l21, mm_l22] at *)
    all_goals first | omega | exact fin _ (((fX.rf.up (by omega)).up (by omega)).up (by omega)) (by rw [vX_u6, vX_u5, vX_u10]; rfl) (by simp [mm_up]) (by simp [mm_up]) | skip
  | succ j ih =>
    intro i M hi hx h00 hf h1
    obtain ⟨K, hK, hK2⟩ : ∃ K : Nat → mm_K, (∀ t ls st M d u, K t ls st M d u → rr_X5_emptied Q t ls st M d u) ∧ (∀ t ls st M d u, rr_X5_emptied Q t ls st M d u → K t ls st M d u) := ⟨rr_X5_emptied Q, fun _ _ _ _ _ _ h => h, fun _ _ _ _ _ _ h => h⟩
    have st : ∀ M', fX M M' → M' 17 0 = M 17 0 → vX M' = mm_up (mm_up (vX M) (8 + 2 * i) 2 0) (8 + 2 * i) 3 0 → K 7 [some (mm_R 17), some (mm_I ((i : Int) + 1))] [] M' d 0 := by
      intro M' g1 g0 g2
      refine hK2 _ _ _ _ _ _ (ih (i + 1) M' (by omega) (hx.tr g1) (by rw [g0, h00]) (by rw [g2]; exact (hf.up (by simp; omega)).up (by simp; omega)) (fun k hk => ?_))
      rw [g2]
      by_cases e : k = i
      · subst e
        simp [mm_up]
      · rw [mm_up_o _ (by omega), mm_up_o _ (by omega)]
        exact h1 k (by omega)
    refine mm_run_at (stop := [7, 32]) (S := K) kkX5_emptied 90 ?_ (fun _ _ _ _ _ _ _ h => hK _ _ _ _ _ _ h)
    repeat' (first | with_reducible assumption | with_reducible exact mm_i17 | with_reducible exact mm_i18 | with_reducible exact mm_i19 | with_reducible exact mm_i20 | with_reducible exact mm_i21 | with_reducible exact mm_i22 | ((with_reducible show mm_rv _ _ _ _ _); first | exact True.intro | exact mm_i17 | exact mm_i18 | exact mm_i19 | exact mm_i20 | exact mm_i21 | exact mm_i22) | ((with_reducible show mm_bool _ _); first | exact True.intro | exact Or.inl rfl | exact Or.inr rfl | (show (_ : Int) = 0 ∨ _ = 1)) | refine And.intro ?_ ?_ | intro _ | with_reducible exact True.intro | exact rfl | with_reducible exact Or.inl rfl | with_reducible exact Or.inr rfl | exact Nat.le_of_ble_eq_true rfl)
    all_goals (try simp (disch := omega) only [InI, Int.toNat_natCast, Int.tmod_eq_emod_of_nonneg, Int.tdiv_eq_ediv_of_nonneg, true_implies, true_or, or_true, mm_l18, mm_l19, mm_l20, mm_l21, mm_l22] at *)
    all_goals first | omega | exact st _ ((fX.rf.up (by omega)).up (by omega)) (by rw [mm_up_ob (by omega), mm_up_ob (by omega)]) (by rw [vX_e22 (k := i) (by omega) rfl rfl, vX_e21 (k := i) (by omega) rfl rfl]) | skip
set_option maxRecDepth 20000 in
theorem rn_X5_emptied : mm_RN flX5 ct_X5_emptied mm_x0 [] 0 0 2 kdX5_emptied sp_X5_emptied := by
  intro av M d Q h
  unfold sp_X5_emptied at h
  split at h
  · rename_i o
    obtain ⟨rfl, hq⟩ := h
    obtain ⟨K, hK, hK2⟩ : ∃ K : Nat → mm_K, (∀ t ls st M d u, K t ls st M d u → rr_X5_emptied Q t ls st M d u) ∧ (∀ t ls st M d u, rr_X5_emptied Q t ls st M d u → K t ls st M d u) := ⟨rr_X5_emptied Q, fun _ _ _ _ _ _ h => h, fun _ _ _ _ _ _ h => h⟩
    have h8 := hK2 _ _ _ _ _ _ (lp_X5_emptied (d := d) (V := vX (mm_up M 17 1 0)) (M0 := M) vX_u1 hq 3 0 (mm_up M 17 1 0) (by omega) (fX.rf.up (by omega)) (by rw [mm_up_ob2 (by omega)]) fr.rf (fun k hk => by omega))
    refine ⟨Nat.le_of_ble_eq_true rfl, ?_⟩
    refine mm_run_at (stop := [7]) (S := K) kkX5_emptied 90 ?_ (fun _ _ _ _ _ _ _ h => hK _ _ _ _ _ _ h)
    repeat' (first | with_reducible assumption | with_reducible exact mm_i17 | with_reducible exact mm_i18 | with_reducible exact mm_i19 | with_reducible exact mm_i20 | with_reducible exact mm_i21 | with_reducible exact mm_i22 | ((with_reducible show mm_rv _ _ _ _ _); first | exact True.intro | exact mm_i17 | exact mm_i18 | exact mm_i19 | exact mm_i20 | exact mm_i21 | exact mm_i22) | ((with_reducible show mm_bool _ _); first | exact True.intro | exact Or.inl rfl | exact Or.inr rfl | (show (_ : Int) = 0 ∨ _ = 1)) | refine And.intro ?_ ?_ | intro _ | with_reducible exact True.intro | exact rfl | with_reducible exact Or.inl rfl | with_reducible exact Or.inr rfl | exact Nat.le_of_ble_eq_true rfl)
    exact h8
  · exact h.elim
theorem me_X5_emptied {l : Launch} (hl : l.stackTraces = false) : mm_Met l yX5_emptied cX5_emptied 2 none [] 7 120 0 sp_X5_emptied := mm_mt hl rn_X5_emptied ⟨plX5, rfl⟩ kkX5_emptied rfl ⟨Nat.le_of_ble_eq_true rfl, Nat.le_of_ble_eq_true rfl⟩ flkX5 (fun _ h => nomatch h) (⟨mm_pe (me_X5_endWords hl) mwX5_endWords (mm_t6 126 rfl rfl) (Nat.le_of_ble_eq_true rfl) (Nat.le_of_ble_eq_true rfl), trivial⟩) (mm_xe0 _) n9X5
def sp_X5_start : mm_S := fun av M d Q => match av with
  | [.inr (.inr (.inl o)), .inl f, .inl k] =>  o = 17 ∧ (f = 0 ∨ f = 1) ∧ (1 ≤ k ∧ k ≤ 2) ∧ ∀ v, (f = 1 → v = k) → (f = 0 → v = 0) → Q (.inl (some (mm_I f))) (mm_up M 17 0 v) d
  | _ => False
def ct_X5_start : List (Nat × mm_Ca) := [(35, (0, 3, 14, sp_X5_refuse, 0))]
abbrev rr_X5_start (Q : mm_Q) := mm_run (mm_look flX5) (mm_look ct_X5_start) mm_x0 (mm_look ([] : List (Nat × Int))) (fun _ => none) 2 0 (fun _ _ => none) Q kdX5_start
set_option maxRecDepth 20000 in
theorem rn_X5_start : mm_RN flX5 ct_X5_start mm_x0 [] 2 0 3 kdX5_start sp_X5_start := by
  intro av M d Q h
  unfold sp_X5_start at h
  split at h
  · rename_i o f k
    obtain ⟨rfl, hf, hk, hq⟩ := h
    have e00 : mm_up M 17 0 0 17 0 = 0 := by simp [mm_up]
    have eu : mm_up (mm_up M 17 0 0) 17 0 k = mm_up M 17 0 k := by
      funext o j
      simp only [mm_up]
      split <;> simp_all
    have h0 : f = 0 → Q (.inl (some (mm_I f))) (mm_up M 17 0 0) d := fun h => hq 0 (by omega) (by omega)
    have h1 : f = 1 → Q (.inl (some (mm_I f))) (mm_up M 17 0 k) d := fun h => hq k (by omega) (by omega)
    have fin : ∀ M' r, M' = (if f = 1 ∧ mm_up M 17 0 0 17 0 = 0 then mm_up (mm_up M 17 0 0) 17 0 k else mm_up M 17 0 0) ∧ (0 < M' 17 0 → r = 1) ∧ (M' 17 0 ≤ 0 → r = 0) → (r = 0 ∨ r = 1) ∧ Q (.inl (some (mm_I r))) M' d := by
      intro M' r ⟨g1, g2, g3⟩
      rw [e00] at g1
      rcases hf with h | h
      · rw [if_neg (by omega)] at g1
        subst g1
        have := g3 (by rw [e00]; exact Int.le_refl _)
        subst this
        have := h0 h
        rw [h] at this
        exact ⟨Or.inl rfl, this⟩
      · rw [if_pos ⟨h, rfl⟩, eu] at g1
        subst g1
        have := g2 (by simp [mm_up]; omega)
        subst this
        have := h1 h
        rw [h] at this
        exact ⟨Or.inr rfl, this⟩
    obtain ⟨K, hK, hK2⟩ : ∃ K : Nat → mm_K, (∀ t ls st M d u, K t ls st M d u → rr_X5_start Q t ls st M d u) ∧ (∀ t ls st M d u, rr_X5_start Q t ls st M d u → K t ls st M d u) := ⟨rr_X5_start Q, fun _ _ _ _ _ _ h => h, fun _ _ _ _ _ _ h => h⟩
    refine ⟨Nat.le_of_ble_eq_true rfl, mm_run_at (stop := []) (S := K) kkX5_start 90 ?_ (fun _ _ _ _ _ _ _ h => hK _ _ _ _ _ _ h)⟩
    refine mm_a2 (by exact mm_i17) (mm_c5 rfl (Nat.le_of_ble_eq_true rfl) (by exact mm_i17) (Nat.le_of_ble_eq_true rfl) (Nat.le_of_ble_eq_true rfl) (mm_a5 rfl hf (by rw [e00]; exact ⟨by omega, by omega⟩) ⟨by omega, by omega⟩ (fun M' r hr => mm_a3 (fin M' r hr).1 (Nat.le_refl _) (fin M' r hr).2)))
  · exact h.elim
theorem me_X5_start {l : Launch} (hl : l.stackTraces = false) : mm_Met l yX5_start cX5_start 3 (some .boolean) [] 7 122 0 sp_X5_start := mm_mt hl rn_X5_start ⟨plX5, rfl⟩ kkX5_start rfl ⟨Nat.le_of_ble_eq_true rfl, Nat.le_of_ble_eq_true rfl⟩ flkX5 (fun _ h => nomatch h) (⟨mm_pe (me_X5_refuse hl) mwX5_refuse (mm_t6 114 rfl rfl) (Nat.le_of_ble_eq_true rfl) (Nat.le_of_ble_eq_true rfl), trivial⟩) (mm_xe0 _) n9X5
end
section
/-! the model in order; its small questions -/
def xA (M : mm_M) : Prop := wA (vX M) ∧ (-1 ≤ M 17 10 ∧ M 17 10 ≤ 2)
/-- what every call leaves -/
def xP (M M' : mm_M) : Prop := fX M M' ∧ cP (vX M) (vX M') ∧ (-1 ≤ M' 17 10 ∧ M' 17 10 ≤ 2)
theorem xP.a {M M' : mm_M} (h : xP M M') : xA M' := ⟨h.2.1.1, h.2.2⟩
theorem xP.tr {M M' M'' : mm_M} (h : xP M M') (h2 : xP M' M'') : xP M M'' := ⟨h.1.tr h2.1, h.2.1.tr h2.2.1, h2.2.2⟩
theorem xA.rf {M : mm_M} (h : xA M) : xP M M := ⟨fX.rf, h.1.rf, h.2⟩
theorem xA.t {M : mm_M} (h : xA M) : tX M := h.1.1
theorem isW3k {k : Nat} (h : k < 3) : isW3 (8 + 2 * k) := by unfold isW3; omega
theorem xA.v {M : mm_M} {k : Nat} (h : xA M) (hk : k < 3) : mV M k := (mV_i (by omega)).mpr (h.1.2.1 _ (isW3k hk)).1
theorem xA.d {M : mm_M} {k : Nat} (h : xA M) (hk : k < 3) : wD (vX M) (8 + 2 * k) := (h.1.2.1 _ (isW3k hk)).2
theorem xA.l {M : mm_M} (h : xA M) : M 17 13 = 0 ∨ M 17 13 = 1 := h.1.2.2.2.1
theorem xA.p {M : mm_M} (h : xA M) (h1 : M 17 10 ≠ -1) (h2 : M 17 13 = 0) : (0 ≤ M 17 10 ∧ M 17 10 ≤ 2) ∧ (0 ≤ M 17 11 ∧ M 17 11 ≤ M 21 (M 17 10).toNat) ∧ (-1 ≤ M 17 12 ∧ M 17 12 < M 21 (M 17 10).toNat) := by
  have h3 := h.2
  obtain ⟨c1, c2, c3⟩ := h.1.2.2
  rw [vX_c1, if_neg h1, vX_c2, vX_c3, vX_c4] at c3
  have h5 := c3 (by omega) h2
  have e : (8 + 2 * M 17 10).toNat = 8 + 2 * (M 17 10).toNat := by omega
  rw [e, vX_n (by omega)] at h5
  exact ⟨by omega, h5.1, h5.2⟩
theorem xP_s {M : mm_M} {v : Int} (h : xA M) : xP M (mm_up M 17 0 v) := ⟨fX.rf.up (by omega), by rw [vX_u0]; exact h.1.rf, by rw [mm_up_ob2 (by omega)]; exact h.2⟩
theorem xA.s {M : mm_M} {v : Int} (h : xA M) : xA (mm_up M 17 0 v) := (xP_s h).a
def sp_X5_ruleOf : mm_S := fun av M d Q => match av with
  | [.inr (.inr (.inl o)), .inl x] =>  o = 17 ∧ (M 17 4 = 0 ∨ M 17 4 = 1) ∧ InI x ∧ Q (.inl (some (mm_I (if x = 0 then M 17 5 else if x = 1 then M 17 6 else M 17 4)))) M d
  | _ => False
def ct_X5_ruleOf : List (Nat × mm_Ca) := [(56, (1, 1, 0, sp_X5_one, 0))]
abbrev rr_X5_ruleOf (Q : mm_Q) := mm_run (mm_look flX5) (mm_look ct_X5_ruleOf) mm_x0 (mm_look ([] : List (Nat × Int))) (fun _ => none) 1 0 (fun _ _ => none) Q kdX5_ruleOf
set_option maxRecDepth 20000 in
theorem rn_X5_ruleOf : mm_RN flX5 ct_X5_ruleOf mm_x0 [] 1 0 2 kdX5_ruleOf sp_X5_ruleOf := by
  intro av M d Q h
  unfold sp_X5_ruleOf at h
  split at h
  · rename_i o x
    obtain ⟨rfl, h4, hx, hq⟩ := h
    have q0 : x = 0 → Q (.inl (some (mm_I (M 17 5)))) M d := fun h => by rw [if_pos h] at hq; exact hq
    have q1 : x ≠ 0 → x = 1 → Q (.inl (some (mm_I (M 17 6)))) M d := fun h h2 => by rw [if_neg h, if_pos h2] at hq; exact hq
    have q2 : x ≠ 0 → x ≠ 1 → Q (.inl (some (mm_I (M 17 4)))) M d := fun h h2 => by rw [if_neg h, if_neg h2] at hq; exact hq
    obtain ⟨K, hK, hK2⟩ : ∃ K : Nat → mm_K, (∀ t ls st M d u, K t ls st M d u → rr_X5_ruleOf Q t ls st M d u) ∧ (∀ t ls st M d u, rr_X5_ruleOf Q t ls st M d u → K t ls st M d u) := ⟨rr_X5_ruleOf Q, fun _ _ _ _ _ _ h => h, fun _ _ _ _ _ _ h => h⟩
    refine ⟨Nat.le_of_ble_eq_true rfl, mm_run_at (stop := []) (S := K) kkX5_ruleOf 90 ?_ (fun _ _ _ _ _ _ _ h => hK _ _ _ _ _ _ h)⟩
    repeat' (first | with_reducible assumption | with_reducible exact mm_i17 | with_reducible exact mm_i18 | with_reducible exact mm_i19 | with_reducible exact mm_i20 | with_reducible exact mm_i21 | with_reducible exact mm_i22 | ((with_reducible show mm_rv _ _ _ _ _); first | exact True.intro | exact mm_i17 | exact mm_i18 | exact mm_i19 | exact mm_i20 | exact mm_i21 | exact mm_i22) | ((with_reducible show mm_bool _ _); first | exact True.intro | exact Or.inl rfl | exact Or.inr rfl | (show (_ : Int) = 0 ∨ _ = 1)) | refine And.intro ?_ ?_ | intro _ | with_reducible exact True.intro | exact rfl | with_reducible exact Or.inl rfl | with_reducible exact Or.inr rfl | exact Nat.le_of_ble_eq_true rfl)
    all_goals (try simp (disch := omega) only [InI, Int.toNat_natCast, Int.tmod_eq_emod_of_nonneg, Int.tdiv_eq_ediv_of_nonneg, true_implies, true_or, or_true, mm_l18, mm_l19, mm_l20, mm_l21, mm_l22] at *)
    all_goals first | omega | exact q0 (by omega) | exact q1 (by omega) (by omega) | exact q2 (by omega) (by omega) | skip
  · exact h.elim
theorem me_X5_ruleOf {l : Launch} (hl : l.stackTraces = false) : mm_Met l yX5_ruleOf cX5_ruleOf 2 (some .int) [] 7 120 0 sp_X5_ruleOf := mm_mt hl rn_X5_ruleOf ⟨plX5, rfl⟩ kkX5_ruleOf rfl ⟨Nat.le_of_ble_eq_true rfl, Nat.le_of_ble_eq_true rfl⟩ flkX5 (fun _ h => nomatch h) (⟨mm_pe (me_X5_one hl) mwX5_one (mm_t6 170 rfl rfl) (Nat.le_of_ble_eq_true rfl) (Nat.le_of_ble_eq_true rfl), trivial⟩) (mm_xe0 _) n9X5
def sp_X5_canGo : mm_S := fun av M d Q => match av with
  | [.inr (.inr (.inl o)), .inl f] =>  o = 17 ∧ xA M ∧ (f = 0 ∨ f = 1) ∧ ∀ r, (r = 0 ∨ r = 1) ∧ (r = 1 ↔ (M 17 10 ≠ -1 ∧ M 17 13 = 0 ∧ (f ≠ 0 → M 17 11 < M 21 (M 17 10).toNat) ∧ (f = 0 → 0 < M 17 11))) → Q (.inl (some (mm_I r))) M d
  | _ => False
def ct_X5_canGo : List (Nat × mm_Ca) := [(240, (0, 1, 14, sp_X5_isThere, 0))]
abbrev rr_X5_canGo (Q : mm_Q) := mm_run (mm_look flX5) (mm_look ct_X5_canGo) mm_x0 (mm_look ([] : List (Nat × Int))) (fun _ => none) 2 0 (fun _ _ => none) Q kdX5_canGo
set_option maxRecDepth 20000 in
theorem rn_X5_canGo : mm_RN flX5 ct_X5_canGo mm_x0 [] 2 0 2 kdX5_canGo sp_X5_canGo := by
  intro av M d Q h
  unfold sp_X5_canGo at h
  split at h
  · rename_i o f
    obtain ⟨rfl, ha, hf, hq⟩ := h
    have l := ha.l
    have l2 := ha.2
    by_cases hc : M 17 10 ≠ -1 ∧ M 17 13 = 0
    · have hp := ha.p hc.1 hc.2
      have v1 := (ha.v (k := (M 17 10).toNat) (by omega)).1
      have hq0 : ¬ ((f ≠ 0 → M 17 11 < M 21 (M 17 10).toNat) ∧ (f = 0 → 0 < M 17 11)) → Q (.inl (some (mm_I 0))) M d := fun h => hq 0 ⟨Or.inl rfl, ⟨fun h => by omega, fun h2 => absurd h2.2.2 h⟩⟩
      have hq1 : ((f ≠ 0 → M 17 11 < M 21 (M 17 10).toNat) ∧ (f = 0 → 0 < M 17 11)) → Q (.inl (some (mm_I 1))) M d := fun h => hq 1 ⟨Or.inr rfl, ⟨fun _ => ⟨hc.1, hc.2, h⟩, fun _ => rfl⟩⟩
      obtain ⟨K, hK, hK2⟩ : ∃ K : Nat → mm_K, (∀ t ls st M d u, K t ls st M d u → rr_X5_canGo Q t ls st M d u) ∧ (∀ t ls st M d u, rr_X5_canGo Q t ls st M d u → K t ls st M d u) := ⟨rr_X5_canGo Q, fun _ _ _ _ _ _ h => h, fun _ _ _ _ _ _ h => h⟩
      have k4 : K 4 [some (mm_R 17), some (mm_I f)] [mm_I 1] M d 0 := by
        refine hK2 _ _ _ _ _ _ ?_
        refine mm_run_at (stop := []) (S := K) kkX5_canGo 90 ?_ (fun _ _ _ _ _ _ _ h => hK _ _ _ _ _ _ h)
        repeat' (first | with_reducible assumption | with_reducible exact mm_i17 | with_reducible exact mm_i18 | with_reducible exact mm_i19 | with_reducible exact mm_i20 | with_reducible exact mm_i21 | with_reducible exact mm_i22 | ((with_reducible show mm_rv _ _ _ _ _); first | exact True.intro | exact mm_i17 | exact mm_i18 | exact mm_i19 | exact mm_i20 | exact mm_i21 | exact mm_i22) | ((with_reducible show mm_bool _ _); first | exact True.intro | exact Or.inl rfl | exact Or.inr rfl | (show (_ : Int) = 0 ∨ _ = 1)) | refine And.intro ?_ ?_ | intro _ | with_reducible exact True.intro | exact rfl | with_reducible exact Or.inl rfl | with_reducible exact Or.inr rfl | exact Nat.le_of_ble_eq_true rfl)
        all_goals (try simp (disch := omega) only [InI, Int.toNat_natCast, Int.tmod_eq_emod_of_nonneg, Int.tdiv_eq_ediv_of_nonneg, true_implies, true_or, or_true, mm_l18, mm_l19, mm_l20, mm_l21, mm_l22] at *)
        all_goals first | omega | exact hq0 (by omega) | exact hq1 (by omega) | skip
      refine ⟨Nat.le_of_ble_eq_true rfl, ?_⟩
      refine mm_run_at (stop := [4]) (S := K) kkX5_canGo 90 ?_ (fun _ _ _ _ _ _ _ h => hK _ _ _ _ _ _ h)
      refine mm_c5 rfl (Nat.le_of_ble_eq_true rfl) (by exact mm_i17) (Nat.le_of_ble_eq_true rfl) (Nat.le_of_ble_eq_true rfl) (mm_a4 rfl ⟨by omega, by omega⟩ l (fun r hr => ?_))
      rw [hr.1 hc]
      exact k4
    · have h0 := hq 0 ⟨Or.inl rfl, ⟨fun h => by omega, fun h => absurd ⟨h.1, h.2.1⟩ hc⟩⟩
      obtain ⟨K, hK, hK2⟩ : ∃ K : Nat → mm_K, (∀ t ls st M d u, K t ls st M d u → rr_X5_canGo Q t ls st M d u) ∧ (∀ t ls st M d u, rr_X5_canGo Q t ls st M d u → K t ls st M d u) := ⟨rr_X5_canGo Q, fun _ _ _ _ _ _ h => h, fun _ _ _ _ _ _ h => h⟩
      have k4 : K 4 [some (mm_R 17), some (mm_I f)] [mm_I 0] M d 0 := by
        refine hK2 _ _ _ _ _ _ ?_
        refine mm_run_at (stop := [7]) (S := K) kkX5_canGo 90 ?_ (fun _ _ _ _ _ _ _ h => hK _ _ _ _ _ _ h)
        repeat' (first | with_reducible assumption | with_reducible exact mm_i17 | with_reducible exact mm_i18 | with_reducible exact mm_i19 | with_reducible exact mm_i20 | with_reducible exact mm_i21 | with_reducible exact mm_i22 | ((with_reducible show mm_rv _ _ _ _ _); first | exact True.intro | exact mm_i17 | exact mm_i18 | exact mm_i19 | exact mm_i20 | exact mm_i21 | exact mm_i22) | ((with_reducible show mm_bool _ _); first | exact True.intro | exact Or.inl rfl | exact Or.inr rfl | (show (_ : Int) = 0 ∨ _ = 1)) | refine And.intro ?_ ?_ | intro _ | with_reducible exact True.intro | exact rfl | with_reducible exact Or.inl rfl | with_reducible exact Or.inr rfl | exact Nat.le_of_ble_eq_true rfl)
        all_goals (try simp (disch := omega) only [InI, Int.toNat_natCast, Int.tmod_eq_emod_of_nonneg, Int.tdiv_eq_ediv_of_nonneg, true_implies, true_or, or_true, mm_l18, mm_l19, mm_l20, mm_l21, mm_l22] at *)
        all_goals first | omega | exact h0 | skip
      refine ⟨Nat.le_of_ble_eq_true rfl, ?_⟩
      refine mm_run_at (stop := [4]) (S := K) kkX5_canGo 90 ?_ (fun _ _ _ _ _ _ _ h => hK _ _ _ _ _ _ h)
      refine mm_c5 rfl (Nat.le_of_ble_eq_true rfl) (by exact mm_i17) (Nat.le_of_ble_eq_true rfl) (Nat.le_of_ble_eq_true rfl) (mm_a4 rfl ⟨by omega, by omega⟩ l (fun r hr => ?_))
      rw [hr.2 hc]
      exact k4
  · exact h.elim
theorem me_X5_canGo {l : Launch} (hl : l.stackTraces = false) : mm_Met l yX5_canGo cX5_canGo 2 (some .boolean) [] 7 120 0 sp_X5_canGo := mm_mt hl rn_X5_canGo ⟨plX5, rfl⟩ kkX5_canGo rfl ⟨Nat.le_of_ble_eq_true rfl, Nat.le_of_ble_eq_true rfl⟩ flkX5 (fun _ h => nomatch h) (⟨mm_pe (me_X5_isThere hl) mwX5_isThere (mm_t7 219 rfl rfl) (Nat.le_of_ble_eq_true rfl) (Nat.le_of_ble_eq_true rfl), trivial⟩) (mm_xe0 _) n9X5
def sp_X5_placeTold : mm_S := fun av M d Q => match av with
  | [.inr (.inr (.inl o)), .inl f] =>  o = 17 ∧ xA M ∧ (f = 0 ∨ f = 1) ∧ Q (.inl (some (mm_I (if M 17 10 ≠ -1 ∧ M 17 13 = 0 then (if f = 0 then M 17 11 - 1 else M 17 11) else -2)))) M d
  | _ => False
def ct_X5_placeTold : List (Nat × mm_Ca) := [(240, (0, 1, 14, sp_X5_isThere, 0))]
abbrev rr_X5_placeTold (Q : mm_Q) := mm_run (mm_look flX5) (mm_look ct_X5_placeTold) mm_x0 (mm_look ([] : List (Nat × Int))) (fun _ => none) 1 0 (fun _ _ => none) Q kdX5_placeTold
set_option maxRecDepth 20000 in
theorem rn_X5_placeTold : mm_RN flX5 ct_X5_placeTold mm_x0 [] 1 0 2 kdX5_placeTold sp_X5_placeTold := by
  intro av M d Q h
  unfold sp_X5_placeTold at h
  split at h
  · rename_i o f
    obtain ⟨rfl, ha, hf, hq⟩ := h
    have l := ha.l
    have l2 := ha.2
    have q2 : ¬ (M 17 10 ≠ -1 ∧ M 17 13 = 0) → Q (.inl (some (mm_I (-2)))) M d := fun h => by rw [if_neg h] at hq; exact hq
    have q0 : (M 17 10 ≠ -1 ∧ M 17 13 = 0) → f = 0 → Q (.inl (some (mm_I (M 17 11 - 1)))) M d := fun h h2 => by rw [if_pos h, if_pos h2] at hq; exact hq
    have q1 : (M 17 10 ≠ -1 ∧ M 17 13 = 0) → f ≠ 0 → Q (.inl (some (mm_I (M 17 11)))) M d := fun h h2 => by rw [if_pos h, if_neg h2] at hq; exact hq
    obtain ⟨K, hK, hK2⟩ : ∃ K : Nat → mm_K, (∀ t ls st M d u, K t ls st M d u → rr_X5_placeTold Q t ls st M d u) ∧ (∀ t ls st M d u, rr_X5_placeTold Q t ls st M d u → K t ls st M d u) := ⟨rr_X5_placeTold Q, fun _ _ _ _ _ _ h => h, fun _ _ _ _ _ _ h => h⟩
    have k4 : ∀ r, ((M 17 10 ≠ -1 ∧ M 17 13 = 0) → r = 1) ∧ (¬ (M 17 10 ≠ -1 ∧ M 17 13 = 0) → r = 0) → K 4 [some (mm_R 17), some (mm_I f)] [mm_I r] M d 0 := by
      intro r hr
      refine hK2 _ _ _ _ _ _ ?_
      by_cases hc : M 17 10 ≠ -1 ∧ M 17 13 = 0
      · rw [hr.1 hc]
        have q0 := q0 hc
        have q1 := q1 hc
        clear hr q2
        refine mm_run_at (stop := []) (S := K) kkX5_placeTold 90 ?_ (fun _ _ _ _ _ _ _ h => hK _ _ _ _ _ _ h)
        repeat' (first | with_reducible assumption | with_reducible exact mm_i17 | with_reducible exact mm_i18 | with_reducible exact mm_i19 | with_reducible exact mm_i20 | with_reducible exact mm_i21 | with_reducible exact mm_i22 | ((with_reducible show mm_rv _ _ _ _ _); first | exact True.intro | exact mm_i17 | exact mm_i18 | exact mm_i19 | exact mm_i20 | exact mm_i21 | exact mm_i22) | ((with_reducible show mm_bool _ _); first | exact True.intro | exact Or.inl rfl | exact Or.inr rfl | (show (_ : Int) = 0 ∨ _ = 1)) | refine And.intro ?_ ?_ | intro _ | with_reducible exact True.intro | exact rfl | with_reducible exact Or.inl rfl | with_reducible exact Or.inr rfl | exact Nat.le_of_ble_eq_true rfl)
        all_goals (try simp (disch := omega) only [InI, Int.toNat_natCast, Int.tmod_eq_emod_of_nonneg, Int.tdiv_eq_ediv_of_nonneg, true_implies, true_or, or_true, mm_l18, mm_l19, mm_l20, mm_l21, mm_l22] at *)
        all_goals first | omega | exact q0 (by omega) | exact q1 (by omega) | skip
      · rw [hr.2 hc]
        have q2 := q2 hc
        refine mm_run_at (stop := [12]) (S := K) kkX5_placeTold 90 ?_ (fun _ _ _ _ _ _ _ h => hK _ _ _ _ _ _ h)
        repeat' (first | with_reducible assumption | with_reducible exact mm_i17 | with_reducible exact mm_i18 | with_reducible exact mm_i19 | with_reducible exact mm_i20 | with_reducible exact mm_i21 | with_reducible exact mm_i22 | ((with_reducible show mm_rv _ _ _ _ _); first | exact True.intro | exact mm_i17 | exact mm_i18 | exact mm_i19 | exact mm_i20 | exact mm_i21 | exact mm_i22) | ((with_reducible show mm_bool _ _); first | exact True.intro | exact Or.inl rfl | exact Or.inr rfl | (show (_ : Int) = 0 ∨ _ = 1)) | refine And.intro ?_ ?_ | intro _ | with_reducible exact True.intro | exact rfl | with_reducible exact Or.inl rfl | with_reducible exact Or.inr rfl | exact Nat.le_of_ble_eq_true rfl)
        all_goals (try simp (disch := omega) only [InI, Int.toNat_natCast, Int.tmod_eq_emod_of_nonneg, Int.tdiv_eq_ediv_of_nonneg, true_implies, true_or, or_true, mm_l18, mm_l19, mm_l20, mm_l21, mm_l22] at *)
        all_goals first | omega | exact q2 | skip
    refine ⟨Nat.le_of_ble_eq_true rfl, ?_⟩
    refine mm_run_at (stop := [4]) (S := K) kkX5_placeTold 90 ?_ (fun _ _ _ _ _ _ _ h => hK _ _ _ _ _ _ h)
    exact mm_c5 rfl (Nat.le_of_ble_eq_true rfl) (by exact mm_i17) (Nat.le_of_ble_eq_true rfl) (Nat.le_of_ble_eq_true rfl) (mm_a4 rfl ⟨by omega, by omega⟩ l (fun r hr => k4 r hr))
  · exact h.elim
theorem me_X5_placeTold {l : Launch} (hl : l.stackTraces = false) : mm_Met l yX5_placeTold cX5_placeTold 2 (some .int) [] 7 120 0 sp_X5_placeTold := mm_mt hl rn_X5_placeTold ⟨plX5, rfl⟩ kkX5_placeTold rfl ⟨Nat.le_of_ble_eq_true rfl, Nat.le_of_ble_eq_true rfl⟩ flkX5 (fun _ h => nomatch h) (⟨mm_pe (me_X5_isThere hl) mwX5_isThere (mm_t7 219 rfl rfl) (Nat.le_of_ble_eq_true rfl) (Nat.le_of_ble_eq_true rfl), trivial⟩) (mm_xe0 _) n9X5
theorem at_X5_fittingHere_0 : mm_at 0 kdX5_fittingHere = [(0, .aload_n 0, 0), (1, .aload_n 0, 0), (2, .getfield 25, 0), (5, .aload_n 0, 0), (6, .getfield 237, 0), (9, .invokevirtual 105, 0), (12, .istore_n 2, 0), (13, .aload_n 0, 0), (14, .getfield 237, 0), (17, .aload_n 0, 0), (18, .getfield 19, 0), (21, .aload_n 0, 0), (22, .getfield 25, 0), (25, .iaload, 0), (26, .if_icmp .ne 10, 36), (29, .aload_n 0, 0), (30, .iload_n 1, 0), (31, .iload_n 2, 0), (32, .invokevirtual 124, 0), (35, .ireturn, 0), (36, .aload_n 0, 0), (37, .getfield 237, 0), (40, .ifCond .ne 10, 50), (43, .aload_n 0, 0), (44, .iload_n 1, 0), (45, .iload_n 2, 0), (46, .invokevirtual 184, 0), (49, .ireturn, 0), (50, .aload_n 0, 0), (51, .getfield 9, 0), (54, .iload_n 1, 0), (55, .iaload, 0), (56, .iload_n 2, 0), (57, .if_icmp .ne 19, 76), (60, .aload_n 0, 0), (61, .getfield 13, 0), (64, .iload_n 1, 0), (65, .iaload, 0), (66, .iload_n 2, 0), (67, .if_icmp .ne 9, 76), (70, .iconst 2, 0), (71, .iload_n 1, 0), (72, .imul, 0), (73, .goto 4, 77), (76, .iconst (-1), 0), (77, .ireturn, 0)] := rfl
theorem at_X5_fittingHere_36 : mm_at 36 kdX5_fittingHere = [(36, .aload_n 0, 0), (37, .getfield 237, 0), (40, .ifCond .ne 10, 50), (43, .aload_n 0, 0), (44, .iload_n 1, 0), (45, .iload_n 2, 0), (46, .invokevirtual 184, 0), (49, .ireturn, 0), (50, .aload_n 0, 0), (51, .getfield 9, 0), (54, .iload_n 1, 0), (55, .iaload, 0), (56, .iload_n 2, 0), (57, .if_icmp .ne 19, 76), (60, .aload_n 0, 0), (61, .getfield 13, 0), (64, .iload_n 1, 0), (65, .iaload, 0), (66, .iload_n 2, 0), (67, .if_icmp .ne 9, 76), (70, .iconst 2, 0), (71, .iload_n 1, 0), (72, .imul, 0), (73, .goto 4, 77), (76, .iconst (-1), 0), (77, .ireturn, 0)] := rfl
theorem at_X5_fittingHere_50 : mm_at 50 kdX5_fittingHere = [(50, .aload_n 0, 0), (51, .getfield 9, 0), (54, .iload_n 1, 0), (55, .iaload, 0), (56, .iload_n 2, 0), (57, .if_icmp .ne 19, 76), (60, .aload_n 0, 0), (61, .getfield 13, 0), (64, .iload_n 1, 0), (65, .iaload, 0), (66, .iload_n 2, 0), (67, .if_icmp .ne 9, 76), (70, .iconst 2, 0), (71, .iload_n 1, 0), (72, .imul, 0), (73, .goto 4, 77), (76, .iconst (-1), 0), (77, .ireturn, 0)] := rfl
theorem at_X5_fittingHere_76 : mm_at 76 kdX5_fittingHere = [(76, .iconst (-1), 0), (77, .ireturn, 0)] := rfl
theorem at_X5_fittingHere_77 : mm_at 77 kdX5_fittingHere = [(77, .ireturn, 0)] := rfl
def sp_X5_fittingHere : mm_S := fun av M d Q => match av with
  | [.inr (.inr (.inl o)), .inl s] =>  o = 17 ∧ xA M ∧ (M 17 10 ≠ -1 ∧ M 17 13 = 0) ∧ (0 ≤ s ∧ s < M 17 1) ∧ ∀ r, r = fhF (vX M) (8 + 2 * (M 17 10).toNat) s ∧ -1 ≤ r ∧ r < 2 * M 17 1 ∧ (0 ≤ r → r / 2 = s) → Q (.inl (some (mm_I r))) M d
  | _ => False
def ct_X5_fittingHere : List (Nat × mm_Ca) := [(105, (0, 3, 14, sp_X5_cornerOf, 0)), (124, (0, 3, 14, sp_X5_leaving, 0)), (184, (0, 3, 14, sp_X5_coming, 0))]
abbrev rr_X5_fittingHere (Q : mm_Q) := mm_run (mm_look flX5) (mm_look ct_X5_fittingHere) mm_x0 (mm_look ([] : List (Nat × Int))) (fun _ => none) 1 0 (fun _ _ => none) Q kdX5_fittingHere
set_option maxRecDepth 20000 in
theorem rn_X5_fittingHere : mm_RN flX5 ct_X5_fittingHere mm_x0 [] 1 0 3 kdX5_fittingHere sp_X5_fittingHere := by
  intro av M d Q h
  unfold sp_X5_fittingHere at h
  split at h
  · rename_i o s
    obtain ⟨rfl, ha, hc, hs, hq⟩ := h
    have hp := ha.p hc.1 hc.2
    obtain ⟨k, hk⟩ := Int.eq_ofNat_of_zero_le hp.1.1
    rw [hk] at hp hq
    simp only [Int.toNat_natCast] at hp hq
    have hk3 : k < 3 := by omega
    have hv := ha.v hk3
    have ht := ha.t
    have t1 := ht.1
    have v1 := hv.1
    have t2 := ht.2.1 s.toNat (by omega)
    have ec := cor_v (M := M) (p := M 17 11) (k := k) (by omega) hv hp.2.1
    have en := vX_n (M := M) (k := k) (by omega)
    have qa : ∀ c, (c = corX M k (M 17 11) ∧ 0 ≤ c ∧ c < 10) → M 17 11 = M 21 k → ∀ r, (r = lvX M s c ∧ -1 ≤ r ∧ r < 2 * M 17 1 ∧ (0 ≤ r → r / 2 = s)) → Q (.inl (some (mm_I r))) M d := fun c hc h r hr => hq r ⟨by unfold fhF; rw [vX_c2, en, if_pos h, ← ec, ← hc.1, hr.1, lv_v], hr.2⟩
    have qb : ∀ c, (c = corX M k (M 17 11) ∧ 0 ≤ c ∧ c < 10) → M 17 11 ≠ M 21 k → M 17 11 = 0 → ∀ r, (r = cmX M s c ∧ -1 ≤ r ∧ r < 2 * M 17 1 ∧ (0 ≤ r → r / 2 = s)) → Q (.inl (some (mm_I r))) M d := fun c hc h h2 r hr => hq r ⟨by unfold fhF; rw [vX_c2, en, if_neg h, if_pos h2, ← ec, ← hc.1, hr.1, cm_v], hr.2⟩
    have qc : ∀ c, (c = corX M k (M 17 11) ∧ 0 ≤ c ∧ c < 10) → M 17 11 ≠ M 21 k → M 17 11 ≠ 0 → M 18 s.toNat = c → M 19 s.toNat = c → Q (.inl (some (mm_I (2 * s)))) M d := fun c hc h h2 h3 h4 => hq _ ⟨by unfold fhF; rw [vX_c2, en, if_neg h, if_neg h2, ← ec, ← hc.1, if_pos ⟨h3, h4⟩], by omega, by omega, by omega⟩
    have qd : ∀ c, (c = corX M k (M 17 11) ∧ 0 ≤ c ∧ c < 10) → M 17 11 ≠ M 21 k → M 17 11 ≠ 0 → ¬ (M 18 s.toNat = c ∧ M 19 s.toNat = c) → Q (.inl (some (mm_I (-1)))) M d := fun c hc h h2 h3 => hq _ ⟨by unfold fhF; rw [vX_c2, en, if_neg h, if_neg h2, ← ec, ← hc.1, if_neg (show ¬ (vX M 3 s.toNat = c ∧ vX M 4 s.toNat = c) from h3)], by omega, by omega, by omega⟩
    obtain ⟨K, hK, hK2⟩ : ∃ K : Nat → mm_K, (∀ t ls st M d u, K t ls st M d u → rr_X5_fittingHere Q t ls st M d u) ∧ (∀ t ls st M d u, rr_X5_fittingHere Q t ls st M d u → K t ls st M d u) := ⟨rr_X5_fittingHere Q, fun _ _ _ _ _ _ h => h, fun _ _ _ _ _ _ h => h⟩
    have k13 : ∀ c, (c = corX M k (M 17 11) ∧ 0 ≤ c ∧ c < 10) → K 13 [some (mm_R 17), some (mm_I s), some (mm_I c)] [] M d 0 := by
      intro c hc2
      have qa := qa c hc2
      have qb := qb c hc2
      have qc := qc c hc2
      have qd := qd c hc2
      have hc3 := hc2.2
      refine hK2 _ _ _ _ _ _ ?_
      refine mm_run_at (stop := []) (S := K) kkX5_fittingHere 90 ?_ (fun _ _ _ _ _ _ _ h => hK _ _ _ _ _ _ h)
      repeat' (first | with_reducible assumption | with_reducible exact mm_i17 | with_reducible exact mm_i18 | with_reducible exact mm_i19 | with_reducible exact mm_i20 | with_reducible exact mm_i21 | with_reducible exact mm_i22 | ((with_reducible show mm_rv _ _ _ _ _); first | exact True.intro | exact mm_i17 | exact mm_i18 | exact mm_i19 | exact mm_i20 | exact mm_i21 | exact mm_i22) | ((with_reducible show mm_bool _ _); first | exact True.intro | exact Or.inl rfl | exact Or.inr rfl | (show (_ : Int) = 0 ∨ _ = 1)) | refine And.intro ?_ ?_ | intro _ | with_reducible exact True.intro | exact rfl | with_reducible exact Or.inl rfl | with_reducible exact Or.inr rfl | exact Nat.le_of_ble_eq_true rfl)
      all_goals (try simp (disch := omega) only [hk, InI, Int.toNat_natCast, Int.tmod_eq_emod_of_nonneg, Int.tdiv_eq_ediv_of_nonneg, true_implies, true_or, or_true, mm_l18, mm_l19, mm_l20, mm_l21, mm_l22] at *)
      all_goals first | omega | exact qa (by omega) _ (by assumption) | exact qb (by omega) (by omega) _ (by assumption) | exact qc (by omega) (by omega) (by omega) (by omega) | exact qd (by omega) (by omega) (by omega) | skip
    refine ⟨Nat.le_of_ble_eq_true rfl, ?_⟩
    refine mm_run_at (stop := [13]) (S := K) kkX5_fittingHere 90 ?_ (fun _ _ _ _ _ _ _ h => hK _ _ _ _ _ _ h)
    refine mm_a2 (by exact mm_i17) (mm_a2 (by exact mm_i17) ?_)
    rw [hk]
    refine mm_c5 rfl (Nat.le_of_ble_eq_true rfl) (by exact mm_i17) (Nat.le_of_ble_eq_true rfl) (Nat.le_of_ble_eq_true rfl) (mm_a6 rfl ht ⟨by omega, by omega⟩ ?_ ?_ (fun r hr => ?_))
    · exact hv
    · exact hp.2.1
    · exact mm_a2 rfl (k13 r hr)
  · exact h.elim
theorem me_X5_fittingHere {l : Launch} (hl : l.stackTraces = false) : mm_Met l yX5_fittingHere cX5_fittingHere 3 (some .int) [] 8 144 0 sp_X5_fittingHere := mm_mt hl rn_X5_fittingHere ⟨plX5, rfl⟩ kkX5_fittingHere rfl ⟨Nat.le_of_ble_eq_true rfl, Nat.le_of_ble_eq_true rfl⟩ flkX5 (fun _ h => nomatch h) (⟨mm_pe (me_X5_cornerOf hl) mwX5_cornerOf (mm_t6 185 rfl rfl) (Nat.le_of_ble_eq_true rfl) (Nat.le_of_ble_eq_true rfl), mm_pe (me_X5_leaving hl) mwX5_leaving (mm_t7 52 rfl rfl) (Nat.le_of_ble_eq_true rfl) (Nat.le_of_ble_eq_true rfl), mm_pe (me_X5_coming hl) mwX5_coming (mm_t7 48 rfl rfl) (Nat.le_of_ble_eq_true rfl) (Nat.le_of_ble_eq_true rfl), trivial⟩) (mm_xe0 _) n9X5
end
section
/-! the model: rounds that come in; the whole -/
theorem and_dis {V : mm_M} {w v : Nat} {a b : Int} (ha : 0 ≤ a ∧ a < 1073741824) (hb : 0 ≤ b ∧ b < 1073741824) (hv : wV V v) (h1 : V 2 4 ≤ 30) (sa : ∀ s : Nat, bt a s = 1 ↔ ∃ i : Nat, i < V w 2 ∧ V (w + 1) i / 2 = s) (sb : ∀ s : Nat, bt b s = 1 ↔ ∃ i : Nat, i < V v 2 ∧ V (v + 1) i / 2 = s) : (0 ≤ mm_and a b ∧ mm_and a b < 2147483648) ∧ (mm_and a b = 0 ↔ ∀ j : Nat, j < V v 2 → wN V w (V (v + 1) j / 2)) := by
  obtain ⟨h2, h3⟩ := mm_and_bt (a := a) (b := b) ⟨ha.1, by omega⟩ ⟨hb.1, by omega⟩
  refine ⟨h2, ?_, ?_⟩
  · intro h j hj i hi e
    have u := hv.2.2 j hj
    have x1 := (sa (V (v + 1) j / 2).toNat).mpr ⟨i, hi, by omega⟩
    have x2 := (sb (V (v + 1) j / 2).toNat).mpr ⟨j, hj, by omega⟩
    have := h3 (V (v + 1) j / 2).toNat
    rw [h, bt_0, x1, x2] at this
    omega
  · intro h
    have h4 : ∀ k, bt (mm_and a b) k = 0 := by
      intro k
      rw [h3 k]
      rcases bt_01 a k with e1 | e1 <;> rcases bt_01 b k with e2 | e2 <;> rw [e1, e2]
      · rfl
      · rfl
      · rfl
      · exfalso
        obtain ⟨i, i1, i2⟩ := (sa k).mp e1
        obtain ⟨j, j1, j2⟩ := (sb k).mp e2
        exact h j j1 i i1 (by omega)
    have h5 := bt_lt (n := 0) h2 (fun k _ _ => h4 k)
    simp at h5
    omega
def sp_X5_isNoRound : mm_S := fun av M d Q => match av with
  | [.inr (.inr (.inl o)), .inl k, .inl v] =>  o = 17 ∧ tX M ∧ (0 ≤ k ∧ k < 4) ∧ (0 ≤ v ∧ v < 4) ∧ mV M k.toNat ∧ mV M v.toNat ∧ ∀ r, (r = 0 ∨ r = 1) ∧ (r = 0 ↔ rdR (vX M) (8 + 2 * k.toNat) (8 + 2 * v.toNat)) → Q (.inl (some (mm_I r))) M d
  | _ => False
def ct_X5_isNoRound : List (Nat × mm_Ca) := [(137, (0, 2, 14, sp_X5_isHome, 0)), (111, (0, 2, 14, sp_X5_setOf, 0))]
abbrev rr_X5_isNoRound (Q : mm_Q) := mm_run (mm_look flX5) (mm_look ct_X5_isNoRound) mm_x0 (mm_look ([] : List (Nat × Int))) (fun _ => none) 2 0 (fun _ _ => none) Q kdX5_isNoRound
set_option maxRecDepth 20000 in
theorem rn_X5_isNoRound : mm_RN flX5 ct_X5_isNoRound mm_x0 [] 2 0 3 kdX5_isNoRound sp_X5_isNoRound := by
  intro av M d Q h
  unfold sp_X5_isNoRound at h
  split at h
  · rename_i o k v
    obtain ⟨rfl, ht, hk, hv, h1, h2, hq⟩ := h
    obtain ⟨k, rfl⟩ := Int.eq_ofNat_of_zero_le hk.1
    obtain ⟨v, rfl⟩ := Int.eq_ofNat_of_zero_le hv.1
    simp only [Int.toNat_natCast] at *
    have hk4 : k < 4 := by omega
    have hv4 : v < 4 := by omega
    have t1 := ht.1
    have v1 := h1.1
    have u1 := h2.1
    have env := vX_n (M := M) hv4
    have hwv := (mV_i hv4).mp h2
    have q1 : ¬ rdR (vX M) (8 + 2 * k) (8 + 2 * v) → Q (.inl (some (mm_I 1))) M d := fun h => hq 1 ⟨Or.inr rfl, ⟨fun h => by omega, fun h2 => absurd h2 h⟩⟩
    have q0 : rdR (vX M) (8 + 2 * k) (8 + 2 * v) → Q (.inl (some (mm_I 0))) M d := fun h => hq 0 ⟨Or.inl rfl, ⟨fun _ => h, fun _ => rfl⟩⟩
    have n1 : (k : Int) = v → ¬ rdR (vX M) (8 + 2 * k) (8 + 2 * v) := fun h h2 => h2.1 (by omega)
    have n2 : M 21 v = 0 → ¬ rdR (vX M) (8 + 2 * k) (8 + 2 * v) := fun h h2 => h2.2.1 (by rw [env]; exact h)
    have n3 : ¬ (cor (vX M) (8 + 2 * v) (vX M (8 + 2 * v) 2) = vX M (8 + 2 * v) 3) → ¬ rdR (vX M) (8 + 2 * k) (8 + 2 * v) := fun h h2 => h h2.2.2.1
    obtain ⟨K, hK, hK2⟩ : ∃ K : Nat → mm_K, (∀ t ls st M d u, K t ls st M d u → rr_X5_isNoRound Q t ls st M d u) ∧ (∀ t ls st M d u, rr_X5_isNoRound Q t ls st M d u → K t ls st M d u) := ⟨rr_X5_isNoRound Q, fun _ _ _ _ _ _ h => h, fun _ _ _ _ _ _ h => h⟩
    have k22 : (k : Int) ≠ v → M 21 v ≠ 0 → (cor (vX M) (8 + 2 * v) (vX M (8 + 2 * v) 2) = vX M (8 + 2 * v) 3) → K 22 [some (mm_R 17), some (mm_I k), some (mm_I v)] [] M d 0 := by
      intro e1 e2 e3
      have dis : ∀ a b, ((0 ≤ a ∧ a < 1073741824) ∧ (∀ s : Nat, bt a s = 1 ↔ ∃ i : Nat, i < M 21 k ∧ M 20 (30 * k + i) / 2 = s)) → ((0 ≤ b ∧ b < 1073741824) ∧ (∀ s : Nat, bt b s = 1 ↔ ∃ i : Nat, i < M 21 v ∧ M 20 (30 * v + i) / 2 = s)) → (0 ≤ mm_and a b ∧ mm_and a b < 2147483648) ∧ (mm_and a b = 0 ↔ rdR (vX M) (8 + 2 * k) (8 + 2 * v)) := by
        intro a b ha hb
        have h3 := and_dis (V := vX M) (w := 8 + 2 * k) (v := 8 + 2 * v) ha.1 hb.1 hwv (by rw [vX_24]; omega) (vX_set hk4 h1 ha.2) (vX_set hv4 h2 hb.2)
        refine ⟨h3.1, h3.2.trans ⟨fun h => ⟨by omega, by rw [env]; exact e2, e3, h⟩, fun h => h.2.2.2⟩⟩
      refine hK2 _ _ _ _ _ _ ?_
      refine mm_run_at (stop := []) (S := K) kkX5_isNoRound 90 ?_ (fun _ _ _ _ _ _ _ h => hK _ _ _ _ _ _ h)
      refine mm_c5 rfl (Nat.le_of_ble_eq_true rfl) (by exact mm_i17) (Nat.le_of_ble_eq_true rfl) (Nat.le_of_ble_eq_true rfl) (mm_a5 rfl ht hk h1 (fun a ha => ?_))
      refine mm_c5 rfl (Nat.le_of_ble_eq_true rfl) (by exact mm_i17) (Nat.le_of_ble_eq_true rfl) (Nat.le_of_ble_eq_true rfl) (mm_a5 rfl ht hv h2 (fun b hb => ?_))
      have h3 := dis a b ha hb
      refine mm_a3 ⟨by omega, by omega⟩ (fun h => mm_a3 (Or.inl rfl) (Nat.le_refl _) (q0 (h3.2.mp h))) (fun h => mm_a3 (Or.inr rfl) (Nat.le_refl _) (q1 (fun h4 => h (h3.2.mpr h4))))
    have k19 : (k : Int) ≠ v → M 21 v ≠ 0 → ∀ r, (r = 0 ∨ r = 1) ∧ (r = 1 ↔ cor (vX M) (8 + 2 * v) (vX M (8 + 2 * v) 2) = vX M (8 + 2 * v) 3) → K 19 [some (mm_R 17), some (mm_I k), some (mm_I v)] [mm_I r] M d 0 := by
      intro e1 e2 r hr
      have k22 := fun h => k22 e1 e2 (hr.2.mp h)
      have n3 : r ≠ 1 → _ := fun h => n3 (fun h2 => h (hr.2.mpr h2))
      have hr1 := hr.1
      clear hr
      refine hK2 _ _ _ _ _ _ ?_
      refine mm_run_at (stop := [22]) (S := K) kkX5_isNoRound 90 ?_ (fun _ _ _ _ _ _ _ h => hK _ _ _ _ _ _ h)
      repeat' (first | with_reducible assumption | with_reducible exact mm_i17 | with_reducible exact mm_i18 | with_reducible exact mm_i19 | with_reducible exact mm_i20 | with_reducible exact mm_i21 | with_reducible exact mm_i22 | ((with_reducible show mm_rv _ _ _ _ _); first | exact True.intro | exact mm_i17 | exact mm_i18 | exact mm_i19 | exact mm_i20 | exact mm_i21 | exact mm_i22) | ((with_reducible show mm_bool _ _); first | exact True.intro | exact Or.inl rfl | exact Or.inr rfl | (show (_ : Int) = 0 ∨ _ = 1)) | refine And.intro ?_ ?_ | intro _ | with_reducible exact True.intro | exact rfl | with_reducible exact Or.inl rfl | with_reducible exact Or.inr rfl | exact Nat.le_of_ble_eq_true rfl)
      all_goals (try simp (disch := omega) only [InI, Int.toNat_natCast, Int.tmod_eq_emod_of_nonneg, Int.tdiv_eq_ediv_of_nonneg, true_implies, true_or, or_true, mm_l18, mm_l19, mm_l20, mm_l21, mm_l22] at *)
      all_goals first | omega | exact k22 (by omega) | exact q1 (n3 (by omega)) | skip
    refine ⟨Nat.le_of_ble_eq_true rfl, ?_⟩
    refine mm_run_at (stop := [19]) (S := K) kkX5_isNoRound 90 ?_ (fun _ _ _ _ _ _ _ h => hK _ _ _ _ _ _ h)
    repeat' (first | with_reducible assumption | with_reducible exact mm_i17 | with_reducible exact mm_i18 | with_reducible exact mm_i19 | with_reducible exact mm_i20 | with_reducible exact mm_i21 | with_reducible exact mm_i22 | ((with_reducible show mm_rv _ _ _ _ _); first | exact True.intro | exact mm_i17 | exact mm_i18 | exact mm_i19 | exact mm_i20 | exact mm_i21 | exact mm_i22 | ((with_reducible show mV _ _); exact h2)) | ((with_reducible show mV _ _); exact h2) | ((with_reducible show mm_bool _ _); first | exact True.intro | exact Or.inl rfl | exact Or.inr rfl | (show (_ : Int) = 0 ∨ _ = 1)) | refine And.intro ?_ ?_ | intro _ | with_reducible exact True.intro | exact rfl | with_reducible exact Or.inl rfl | with_reducible exact Or.inr rfl | exact Nat.le_of_ble_eq_true rfl)
    all_goals (try simp (disch := omega) only [InI, Int.toNat_natCast, Int.tmod_eq_emod_of_nonneg, Int.tdiv_eq_ediv_of_nonneg, true_implies, true_or, or_true, mm_l18, mm_l19, mm_l20, mm_l21, mm_l22] at *)
    all_goals first | omega | exact q1 (n1 (by omega)) | exact q1 (n2 (by omega)) | exact k19 (by omega) (by omega) _ (by assumption) | skip
  · exact h.elim
theorem me_X5_isNoRound {l : Launch} (hl : l.stackTraces = false) : mm_Met l yX5_isNoRound cX5_isNoRound 3 (some .boolean) [] 10 186 0 sp_X5_isNoRound := mm_mt hl rn_X5_isNoRound ⟨plX5, rfl⟩ kkX5_isNoRound rfl ⟨Nat.le_of_ble_eq_true rfl, Nat.le_of_ble_eq_true rfl⟩ flkX5 (fun _ h => nomatch h) (⟨mm_pe (me_X5_isHome hl) mwX5_isHome (mm_t7 92 rfl rfl) (Nat.le_of_ble_eq_true rfl) (Nat.le_of_ble_eq_true rfl), mm_pe (me_X5_setOf hl) mwX5_setOf (mm_t7 72 rfl rfl) (Nat.le_of_ble_eq_true rfl) (Nat.le_of_ble_eq_true rfl), trivial⟩) (mm_xe0 _) n9X5
theorem mm_up_up {M : mm_M} {o k : Nat} {a b : Int} : mm_up (mm_up M o k a) o k b = mm_up M o k b := by
  funext x y
  simp only [mm_up]
  split <;> rfl
theorem mm_up_17_21 {M : mm_M} {a b c : Nat} {x : Int} : mm_up M 21 a x 17 b = M 17 b := mm_up_ob (by decide)
def sp_X5_spliced : mm_S := fun av M d Q => match av with
  | [.inr (.inr (.inl o)), .inl k, .inl v, .inl p] =>  o = 17 ∧ xA M ∧ (0 ≤ k ∧ k < 3) ∧ (0 ≤ v ∧ v < 3) ∧ rdR (vX M) (8 + 2 * k.toNat) (8 + 2 * v.toNat) ∧ (0 ≤ p ∧ p ≤ M 21 k.toNat) ∧ ∀ M', fX M M' ∧ fr [8 + 2 * k.toNat, 8 + 2 * k.toNat + 1, 8 + 2 * v.toNat, 16] (vX M) (vX M') ∧ splR (vX M) (vX M') (8 + 2 * k.toNat) (8 + 2 * v.toNat) p ∧ (∀ j, j ≠ 4 → vX M' 16 j = vX M 16 j) ∧ vX M' 16 4 = (if M 17 10 = k ∨ M 17 10 = v then 1 else M 17 13) ∧ mV M' k.toNat ∧ wD (vX M') (8 + 2 * k.toNat) ∧ mV M' v.toNat ∧ (∀ j, j ≠ 13 → M' 17 j = M 17 j) → Q (.inl none) M' d
  | _ => False
def ct_X5_spliced : List (Nat × mm_Ca) := [(98, (0, 3, 14, sp_X5_stepOf, 0)), (120, (0, 4, 14, sp_X5_put, 0)), (181, (0, 2, 14, sp_X5_lose, 0))]
abbrev rr_X5_spliced (Q : mm_Q) := mm_run (mm_look flX5) (mm_look ct_X5_spliced) mm_x0 (mm_look ([] : List (Nat × Int))) (fun _ => none) 0 0 (fun _ _ => none) Q kdX5_spliced
set_option maxRecDepth 20000 in
theorem lp_X5_spliced {M0 : mm_M} {d : List Nat} {Q : mm_Q} {k v m p : Nat} (hk : k < 3) (hv : v < 3) (ha : xA M0) (hr : rdR (vX M0) (8 + 2 * k) (8 + 2 * v)) (hm : M0 21 v = m) (hp : p ≤ M0 21 k) (hq : ∀ M', fX M0 M' ∧ fr [8 + 2 * k, 8 + 2 * k + 1, 8 + 2 * v, 16] (vX M0) (vX M') ∧ splR (vX M0) (vX M') (8 + 2 * k) (8 + 2 * v) p ∧ (∀ j, j ≠ 4 → vX M' 16 j = vX M0 16 j) ∧ vX M' 16 4 = (if M0 17 10 = k ∨ M0 17 10 = v then 1 else M0 17 13) ∧ mV M' k ∧ wD (vX M') (8 + 2 * k) ∧ mV M' v ∧ (∀ j, j ≠ 13 → M' 17 j = M0 17 j) → Q (.inl none) M' d) : ∀ (j i : Nat) (M : mm_M), i + j = m → fX M0 M → M 17 = M0 17 → fr [8 + 2 * k, 8 + 2 * k + 1] (vX M0) (vX M) → mV M k → wD (vX M) (8 + 2 * k) → M 21 k = M0 21 k + i → vX M (8 + 2 * k) 3 = vX M0 (8 + 2 * k) 3 → (∀ x : Nat, i ≤ x → x < m → wN (vX M) (8 + 2 * k) (vX M0 (8 + 2 * v + 1) x / 2)) → (∀ x : Nat, x < M 21 k → (x < p → vX M (8 + 2 * k + 1) x = vX M0 (8 + 2 * k + 1) x) ∧ (p ≤ x → x < p + i → vX M (8 + 2 * k + 1) x = vX M0 (8 + 2 * v + 1) (x - p)) ∧ (p + i ≤ x → vX M (8 + 2 * k + 1) x = vX M0 (8 + 2 * k + 1) (x - i))) → rr_X5_spliced Q 3 [some (mm_R 17), some (mm_I k), some (mm_I v), some (mm_I p), some (mm_I i)] [] M d 0 := by
  have hkv : k ≠ v := fun e => hr.1 (by rw [e])
  have hz := wk_ne hkv
  have wk := isKk (show k < 4 by omega)
  have wv := isKk (show v < 4 by omega)
  have lk := isK_le wk
  have lv := isK_le wv
  have e0 := vX_n (M := M0) (show v < 4 by omega)
  have e0k := vX_n (M := M0) (show k < 4 by omega)
  have mv0 := ha.v hv
  have mw0 := (mV_i (show v < 4 by omega)).mp mv0
  have hmb := mv0.1
  have t1 := ha.t.1
  have a2 := ha.2
  have al := ha.l
  intro j
  induction j with
  | zero =>
    intro i M hi hx h17 hf h1 hD hl hb hN hI
    have e : i = m := by omega
    subst e
    have ek := vX_n (M := M) (show k < 4 by omega)
    have ev := vX_n (M := M) (show v < 4 by omega)
    have evv : M 21 v = i := by rw [← ev, hf (8 + 2 * v) (by simp; omega), e0, hm]
    have hwk := (mV_i (show k < 4 by omega)).mp h1
    have l10 : M 17 10 = M0 17 10 := by rw [h17]
    have l13 : M 17 13 = M0 17 13 := by rw [h17]
    have fin : ∀ M' c, fX M M' → vX M' = mm_up (mm_up (vX M) (8 + 2 * v) 2 0) 16 4 c → (∀ j, j ≠ 13 → M' 17 j = M 17 j) → c = (if M0 17 10 = k ∨ M0 17 10 = v then 1 else M0 17 13) → Q (.inl none) M' d := by
      intro M' c g1 g2 g17 hc
      have q1 : vX M' (8 + 2 * k) = vX M (8 + 2 * k) := by rw [g2, mm_up_o _ (by omega), mm_up_o _ (by omega)]
      have q2 : vX M' (8 + 2 * k + 1) = vX M (8 + 2 * k + 1) := by rw [g2, mm_up_o _ (by omega), mm_up_o _ (by omega)]
      have q3 : vX M' 2 = vX M 2 := by rw [g2, mm_up_o _ (by omega), mm_up_o _ (by omega)]
      have q4 : vX M' (8 + 2 * v) = mm_up (vX M) (8 + 2 * v) 2 0 (8 + 2 * v) := by rw [g2, mm_up_o _ (by omega)]
      have q5 : vX M (8 + 2 * v) = vX M0 (8 + 2 * v) := hf _ (by simp; omega)
      have q6 : vX M' (8 + 2 * v) 3 = vX M0 (8 + 2 * v) 3 ∧ vX M' (8 + 2 * v) 2 = 0 := by rw [q4, mm_up_ob2 (by omega), q5]; exact ⟨rfl, by simp [mm_up]⟩
      refine hq M' ⟨hx.tr g1, ?_, ⟨?_, ?_, q6.2, q6.1, ?_⟩, fun j hj => ?_, ?_, ?_, ?_, ?_, fun j hj => by rw [g17 j hj, h17]⟩
      · rw [g2]
        exact ((hf.mono (by simp)).up (by simp)).up (by simp)
      · rw [q1, ek, e0k, e0, hm, hl]
      · rw [q1]; exact hb
      · intro x hx2
        rw [q1, ek] at hx2
        rw [q2, e0, hm]
        have h3 := hI x hx2
        simp only [Int.toNat_natCast]
        exact ⟨fun a => h3.1 (by omega), fun a b => h3.2.1 (by omega) (by omega), fun a => h3.2.2 (by omega)⟩
      · rw [g2, mm_up_ob2 hj, mm_up_o _ (by omega), hf 16 (by simp; omega)]
      · rw [g2, ← hc]; simp [mm_up]
      · exact (mV_i (by omega)).mpr (hwk.to q1 q2 q3)
      · exact hD.to q1 q2
      · refine (mV_i (by omega)).mpr ⟨by rw [q6.2]; omega, by rw [q6.1]; exact mw0.2.1, fun x hx => ?_⟩
        rw [q6.2] at hx
        omega
    obtain ⟨K, hK, hK2⟩ : ∃ K : Nat → mm_K, (∀ t ls st M d u, K t ls st M d u → rr_X5_spliced Q t ls st M d u) ∧ (∀ t ls st M d u, rr_X5_spliced Q t ls st M d u → K t ls st M d u) := ⟨rr_X5_spliced Q, fun _ _ _ _ _ _ h => h, fun _ _ _ _ _ _ h => h⟩
    refine mm_run_at (stop := [14]) (S := K) kkX5_spliced 90 ?_ (fun _ _ _ _ _ _ _ h => hK _ _ _ _ _ _ h)
    repeat' (first | with_reducible assumption | with_reducible exact mm_i17 | with_reducible exact mm_i18 | with_reducible exact mm_i19 | with_reducible exact mm_i20 | with_reducible exact mm_i21 | with_reducible exact mm_i22 | ((with_reducible show mm_rv _ _ _ _ _); first | exact True.intro | exact mm_i17 | exact mm_i18 | exact mm_i19 | exact mm_i20 | exact mm_i21 | exact mm_i22) | ((with_reducible show mm_bool _ _); first | exact True.intro | exact Or.inl rfl | exact Or.inr rfl | (show (_ : Int) = 0 ∨ _ = 1)) | refine And.intro ?_ ?_ | intro _ | with_reducible exact True.intro | exact rfl | with_reducible exact Or.inl rfl | with_reducible exact Or.inr rfl | exact Nat.le_of_ble_eq_true rfl)
    all_goals (try simp (disch := omega) only [mm_up_17_21, InI, Int.toNat_natCast, Int.tmod_eq_emod_of_nonneg, Int.tdiv_eq_ediv_of_nonneg, true_implies, true_or, or_true, mm_l18, mm_l19, mm_l20, mm_l21, mm_l22] at *)
    all_goals first | omega | (refine fin _ (if M0 17 10 = k ∨ M0 17 10 = v then 1 else M0 17 13) (((fX.rf.up (by omega)).up (by omega)).up (by omega)) ?_ (fun j hj => by simp [mm_up, hj]) rfl; rw [vX_u13, vX_u13, vX_e21 (k := v) (by omega) rfl rfl, mm_up_up]; congr 1; simp [mm_up, l10, l13]; (repeat' split); all_goals first | rfl | omega) | (simp [mm_up, l10, l13]; (repeat' split); all_goals omega) | skip
  | succ j ih =>
    intro i M hi hx h17 hf h1 hD hl hb hN hI
    have ek := vX_n (M := M) (show k < 4 by omega)
    have ev := vX_n (M := M) (show v < 4 by omega)
    have evv : M 21 v = m := by rw [← ev, hf (8 + 2 * v) (by simp; omega), e0, hm]
    have hwk := (mV_i (show k < 4 by omega)).mp h1
    have v1 := h1.1
    have e1 : vX M (8 + 2 * v + 1) = vX M0 (8 + 2 * v + 1) := hf _ (by simp; omega)
    have es : M 20 (30 * v + i) = vX M0 (8 + 2 * v + 1) i := by rw [← e1, vX_i (by omega) (by omega)]
    have hst : stO (vX M) (vX M0 (8 + 2 * v + 1) i) := by
      have := mw0.2.2 i (by rw [e0, hm]; omega)
      unfold stO
      rw [hf 2 (by simp; omega)]
      exact this
    have hlt := wD_lt hwk hD (s := vX M0 (8 + 2 * v + 1) i / 2) (by unfold stO at hst; omega) (hN i (Nat.le_refl _) (by omega))
    rw [ek, vX_24, show M 17 1 = M0 17 1 by rw [h17]] at hlt
    have e30 : M 21 k < 30 := by omega
    obtain ⟨K, hK, hK2⟩ : ∃ K : Nat → mm_K, (∀ t ls st M d u, K t ls st M d u → rr_X5_spliced Q t ls st M d u) ∧ (∀ t ls st M d u, rr_X5_spliced Q t ls st M d u → K t ls st M d u) := ⟨rr_X5_spliced Q, fun _ _ _ _ _ _ h => h, fun _ _ _ _ _ _ h => h⟩
    have st : ∀ M1, fX M M1 ∧ fr [8 + 2 * k, 8 + 2 * k + 1] (vX M) (vX M1) ∧ mV M1 k ∧ putR (vX M) (vX M1) (8 + 2 * k) ((p : Int) + i) (vX M0 (8 + 2 * v + 1) i) ∧ M1 17 = M 17 → K 3 [some (mm_R 17), some (mm_I k), some (mm_I v), some (mm_I p), some (mm_I ((i : Int) + 1))] [] M1 d 0 := by
      intro M1 ⟨g1, g2, g3, g4, g5⟩
      have ek1 := vX_n (M := M1) (show k < 4 by omega)
      have g4' := g4
      rcases g4 with g4 | g4
      rotate_left
      · exact absurd ⟨by omega, by rw [ek]; omega, by rw [ek]; omega⟩ g4.1
      obtain ⟨-, q7, q8, q9⟩ := g4
      rw [ek] at q7 q9
      refine hK2 _ _ _ _ _ _ (ih (i + 1) M1 (by omega) (hx.tr g1) (by rw [g5, h17]) (hf.tr g2) g3 (put_wD hD (hN i (Nat.le_refl _) (by omega)) g4') (by rw [← ek1, q7, hl]; omega) (by rw [q8]; exact hb) (fun x hx1 hx2 => put_wN (hN x (by omega) hx2) (fun e9 => ?_) g4') (fun x hx1 => ?_))
      · have := (ha.d hv) i x (by rw [e0, hm]; omega) (by rw [e0, hm]; omega) e9
        omega
      · rw [← ek1, q7] at hx1
        obtain ⟨a1, a2, a3⟩ := q9 x (by omega)
        refine ⟨fun b => ?_, fun b c => ?_, fun b => ?_⟩
        · rw [a1 (by omega)]
          exact (hI x (by omega)).1 b
        · by_cases e : x = p + i
          · rw [a2 (by omega), e, Nat.add_sub_cancel_left]
          · rw [a1 (by omega)]
            exact (hI x (by omega)).2.1 b (by omega)
        · rw [a3 (by omega), (hI (x - 1) (by omega)).2.2 (by omega)]
          congr 1
          omega
    refine mm_run_at (stop := [3, 36]) (S := K) kkX5_spliced 90 ?_ (fun _ _ _ _ _ _ _ h => hK _ _ _ _ _ _ h)
    repeat' (first | with_reducible assumption | with_reducible exact mm_i17 | with_reducible exact mm_i18 | with_reducible exact mm_i19 | with_reducible exact mm_i20 | with_reducible exact mm_i21 | with_reducible exact mm_i22 | ((with_reducible show mm_rv _ _ _ _ _); first | exact True.intro | exact mm_i17 | exact mm_i18 | exact mm_i19 | exact mm_i20 | exact mm_i21 | exact mm_i22 | ((with_reducible show mV _ _); exact h1) | ((with_reducible show stO _ _); rw [show (30 * (v : Int).toNat + (i : Int).toNat) = 30 * v + i by omega, es]; exact hst)) | ((with_reducible show mV _ _); exact h1) | ((with_reducible show stO _ _); rw [show (30 * (v : Int).toNat + (i : Int).toNat) = 30 * v + i by omega, es]; exact hst) | ((with_reducible show mm_bool _ _); first | exact True.intro | exact Or.inl rfl | exact Or.inr rfl | (show (_ : Int) = 0 ∨ _ = 1)) | refine And.intro ?_ ?_ | intro _ | with_reducible exact True.intro | exact rfl | with_reducible exact Or.inl rfl | with_reducible exact Or.inr rfl | exact Nat.le_of_ble_eq_true rfl)
    all_goals (try simp (disch := omega) only [es, InI, Int.toNat_natCast, Int.tmod_eq_emod_of_nonneg, Int.tdiv_eq_ediv_of_nonneg, true_implies, true_or, or_true, mm_l18, mm_l19, mm_l20, mm_l21, mm_l22] at *)
    all_goals first | omega | exact st _ (by assumption) | skip
set_option maxRecDepth 20000 in
theorem rn_X5_spliced : mm_RN flX5 ct_X5_spliced mm_x0 [] 0 0 5 kdX5_spliced sp_X5_spliced := by
  intro av M d Q h
  unfold sp_X5_spliced at h
  split at h
  · rename_i o k v p
    obtain ⟨rfl, ha, hk, hv, hr, hp, hq⟩ := h
    obtain ⟨k, rfl⟩ := Int.eq_ofNat_of_zero_le hk.1
    obtain ⟨v, rfl⟩ := Int.eq_ofNat_of_zero_le hv.1
    obtain ⟨p, rfl⟩ := Int.eq_ofNat_of_zero_le hp.1
    simp only [Int.toNat_natCast] at *
    have hk3 : k < 3 := by omega
    have hv3 : v < 3 := by omega
    have v1 := (ha.v hv3).1
    have env := vX_n (M := M) (show v < 4 by omega)
    obtain ⟨m, hm⟩ := Int.eq_ofNat_of_zero_le v1.1
    have h8 := lp_X5_spliced (d := d) (Q := Q) hk3 hv3 ha hr hm hp.2 hq m 0 M (by omega) fX.rf rfl fr.rf (ha.v hk3) (ha.d hk3) (by omega) rfl (fun x _ hx => hr.2.2.2 x (by rw [env, hm]; omega)) (fun x hx => ⟨fun _ => rfl, fun a b => by omega, fun _ => rfl⟩)
    obtain ⟨K, hK, hK2⟩ : ∃ K : Nat → mm_K, (∀ t ls st M d u, K t ls st M d u → rr_X5_spliced Q t ls st M d u) ∧ (∀ t ls st M d u, rr_X5_spliced Q t ls st M d u → K t ls st M d u) := ⟨rr_X5_spliced Q, fun _ _ _ _ _ _ h => h, fun _ _ _ _ _ _ h => h⟩
    refine ⟨Nat.le_of_ble_eq_true rfl, mm_run_at (stop := [3]) (S := K) kkX5_spliced 90 ?_ (fun _ _ _ _ _ _ _ h => hK _ _ _ _ _ _ h)⟩
    have h8 := hK2 _ _ _ _ _ _ h8
    repeat' (first | with_reducible assumption | with_reducible exact mm_i17 | with_reducible exact mm_i18 | with_reducible exact mm_i19 | with_reducible exact mm_i20 | with_reducible exact mm_i21 | with_reducible exact mm_i22 | ((with_reducible show mm_rv _ _ _ _ _); first | exact True.intro | exact mm_i17 | exact mm_i18 | exact mm_i19 | exact mm_i20 | exact mm_i21 | exact mm_i22) | ((with_reducible show mm_bool _ _); first | exact True.intro | exact Or.inl rfl | exact Or.inr rfl | (show (_ : Int) = 0 ∨ _ = 1)) | refine And.intro ?_ ?_ | intro _ | with_reducible exact True.intro | exact rfl | with_reducible exact Or.inl rfl | with_reducible exact Or.inr rfl | exact Nat.le_of_ble_eq_true rfl)
    exact h8
  · exact h.elim
theorem me_X5_spliced {l : Launch} (hl : l.stackTraces = false) : mm_Met l yX5_spliced cX5_spliced 5 none [] 8 146 0 sp_X5_spliced := mm_mt hl rn_X5_spliced ⟨plX5, rfl⟩ kkX5_spliced rfl ⟨Nat.le_of_ble_eq_true rfl, Nat.le_of_ble_eq_true rfl⟩ flkX5 (fun _ h => nomatch h) (⟨mm_pe (me_X5_stepOf hl) mwX5_stepOf (mm_t6 158 rfl rfl) (Nat.le_of_ble_eq_true rfl) (Nat.le_of_ble_eq_true rfl), mm_pe (me_X5_put hl) mwX5_put (mm_t6 197 rfl rfl) (Nat.le_of_ble_eq_true rfl) (Nat.le_of_ble_eq_true rfl), mm_pe (me_X5_lose hl) mwX5_lose (mm_t7 40 rfl rfl) (Nat.le_of_ble_eq_true rfl) (Nat.le_of_ble_eq_true rfl), trivial⟩) (mm_xe0 _) n9X5
end
