/-! the model's walks: copies, turned, rotated -/
theorem cpy_wV {V V' : mm_M} {w v : Nat} (hv : wV V v) (h2 : V' 2 = V 2) (h : cpyR V V' w v) : wV V' w := by
  obtain ⟨a, b, c⟩ := hv
  obtain ⟨h1, h3, h4⟩ := h
  refine ⟨by rw [h1]; exact a, by rw [h3]; exact b, fun i hi => ?_⟩
  rw [h1] at hi
  rw [h4 i hi, h2]
  exact c i hi
theorem cpy_wD {V V' : mm_M} {w v : Nat} (hd : wD V v) (h : cpyR V V' w v) : wD V' w := by
  obtain ⟨h1, h3, h4⟩ := h
  intro i j hi hj e
  rw [h1] at hi hj
  rw [h4 i hi, h4 j hj] at e
  exact hd i j hi hj e
theorem wk_ne {k v : Nat} (h : k ≠ v) : 8 + 2 * k ≠ 8 + 2 * v ∧ 8 + 2 * k + 1 ≠ 8 + 2 * v ∧ 8 + 2 * k ≠ 8 + 2 * v + 1 ∧ 8 + 2 * k + 1 ≠ 8 + 2 * v + 1 := by omega
def sp_X5_copied : mm_S := fun av M d Q => match av with
  | [.inr (.inr (.inl o)), .inl k, .inl v] =>  o = 17 ∧ (0 ≤ k ∧ k < 4) ∧ (0 ≤ v ∧ v < 4) ∧ k ≠ v ∧ mV M k.toNat ∧ ∀ M', fX M M' ∧ M' 17 = M 17 ∧ fr [8 + 2 * v.toNat, 8 + 2 * v.toNat + 1] (vX M) (vX M') ∧ cpyR (vX M) (vX M') (8 + 2 * v.toNat) (8 + 2 * k.toNat) ∧ mV M' v.toNat → Q (.inl none) M' d
  | _ => False
def ct_X5_copied : List (Nat × mm_Ca) := [(98, (0, 3, 14, sp_X5_stepOf, 0))]
abbrev rr_X5_copied (Q : mm_Q) := mm_run (mm_look flX5) (mm_look ct_X5_copied) mm_x0 (mm_look ([] : List (Nat × Int))) (fun _ => none) 0 0 (fun _ _ => none) Q kdX5_copied
set_option maxRecDepth 20000 in
theorem lp_X5_copied {M0 : mm_M} {d : List Nat} {Q : mm_Q} {k v n : Nat} (hk : k < 4) (hv : v < 4) (hne : k ≠ v) (hn : M0 21 k = n) (hn3 : n ≤ 30) (hq : ∀ M', fX M0 M' ∧ M' 17 = M0 17 ∧ fr [8 + 2 * v, 8 + 2 * v + 1] (vX M0) (vX M') ∧ cpyR (vX M0) (vX M') (8 + 2 * v) (8 + 2 * k) → Q (.inl none) M' d) : ∀ (j i : Nat) (M : mm_M), i + j = n → fX M0 M → M 17 = M0 17 → fr [8 + 2 * v, 8 + 2 * v + 1] (vX M0) (vX M) → vX M (8 + 2 * v) 2 = n → vX M (8 + 2 * v) 3 = vX M0 (8 + 2 * k) 3 → (∀ x : Nat, x < i → vX M (8 + 2 * v + 1) x = vX M0 (8 + 2 * k + 1) x) → rr_X5_copied Q 26 [some (mm_R 17), some (mm_I k), some (mm_I v), some (mm_I i)] [] M d 0 := by
  have hz := wk_ne hne
  have e0 : vX M0 (8 + 2 * k) 2 = n := by rw [vX_n hk]; exact hn
  intro j
  induction j with
  | zero =>
    intro i M hi hx h17 hf h1 h2 h3
    have e3 : M 21 k = n := by rw [← vX_n (M := M) hk, hf (8 + 2 * k) (by simp; omega), e0]
    have h9 := hq M ⟨hx, h17, hf, by rw [e0]; exact h1, h2, fun x hx => h3 x (by rw [e0] at hx; omega)⟩
    obtain ⟨K, hK, hK2⟩ : ∃ K : Nat → mm_K, (∀ t ls st M d u, K t ls st M d u → rr_X5_copied Q t ls st M d u) ∧ (∀ t ls st M d u, rr_X5_copied Q t ls st M d u → K t ls st M d u) := ⟨rr_X5_copied Q, fun _ _ _ _ _ _ h => h, fun _ _ _ _ _ _ h => h⟩
    refine mm_run_at (stop := [36]) (S := K) kkX5_copied 90 ?_ (fun _ _ _ _ _ _ _ h => hK _ _ _ _ _ _ h)
    repeat' (first | with_reducible assumption | with_reducible exact True.intro | with_reducible exact mm_i17 | with_reducible exact mm_i18 | with_reducible exact mm_i19 | with_reducible exact mm_i20 | with_reducible exact mm_i21 | with_reducible exact mm_i22 | ((with_reducible show mm_rv _ _ _ _ _); first | exact True.intro | exact mm_i17 | exact mm_i18 | exact mm_i19 | exact mm_i20 | exact mm_i21 | exact mm_i22) | ((with_reducible show mm_bool _ _); first | exact True.intro | exact Or.inl rfl | exact Or.inr rfl | (show (_ : Int) = 0 ∨ _ = 1)) | rfl | with_reducible exact Or.inl rfl | with_reducible exact Or.inr rfl | exact Nat.le_of_ble_eq_true rfl | refine And.intro ?_ ?_ | intro _)
    all_goals (try simp (disch := omega) only [InI, Int.toNat_natCast, Int.tmod_eq_emod_of_nonneg, Int.tdiv_eq_ediv_of_nonneg, true_implies, true_or, or_true, mm_l18, mm_l19, mm_l20, mm_l21, mm_l22] at *)
    all_goals first | omega | exact h9 | skip
  | succ j ih =>
    intro i M hi hx h17 hf h1 h2 h3
    have e3 : M 21 k = n := by rw [← vX_n (M := M) hk, hf (8 + 2 * k) (by simp; omega), e0]
    obtain ⟨K, hK, hK2⟩ : ∃ K : Nat → mm_K, (∀ t ls st M d u, K t ls st M d u → rr_X5_copied Q t ls st M d u) ∧ (∀ t ls st M d u, rr_X5_copied Q t ls st M d u → K t ls st M d u) := ⟨rr_X5_copied Q, fun _ _ _ _ _ _ h => h, fun _ _ _ _ _ _ h => h⟩
    have step : ∀ M', fX M M' → M' 17 = M 17 → vX M' = mm_up (vX M) (8 + 2 * v + 1) i (vX M (8 + 2 * k + 1) i) → K 26 [some (mm_R 17), some (mm_I k), some (mm_I v), some (mm_I ((i : Int) + 1))] [] M' d 0 := by
      intro M' g1 g17 g2
      refine hK2 _ _ _ _ _ _ (ih (i + 1) M' (by omega) (hx.tr g1) (by rw [g17, h17]) (by rw [g2]; exact hf.up (by simp)) (by rw [g2, mm_up_ob (by omega)]; exact h1) (by rw [g2, mm_up_ob (by omega)]; exact h2) (fun x hx => ?_))
      rw [g2]
      by_cases e : x = i
      · subst e
        simp [mm_up]
        rw [hf (8 + 2 * k + 1) (by simp; omega)]
      · simp [mm_up, e]
        exact h3 x (by omega)
    refine mm_run_at (stop := [26, 59]) (S := K) kkX5_copied 90 ?_ (fun _ _ _ _ _ _ _ h => hK _ _ _ _ _ _ h)
    repeat' (first | with_reducible assumption | with_reducible exact True.intro | with_reducible exact mm_i17 | with_reducible exact mm_i18 | with_reducible exact mm_i19 | with_reducible exact mm_i20 | with_reducible exact mm_i21 | with_reducible exact mm_i22 | ((with_reducible show mm_rv _ _ _ _ _); first | exact True.intro | exact mm_i17 | exact mm_i18 | exact mm_i19 | exact mm_i20 | exact mm_i21 | exact mm_i22) | ((with_reducible show mm_bool _ _); first | exact True.intro | exact Or.inl rfl | exact Or.inr rfl | (show (_ : Int) = 0 ∨ _ = 1)) | rfl | with_reducible exact Or.inl rfl | with_reducible exact Or.inr rfl | exact Nat.le_of_ble_eq_true rfl | refine And.intro ?_ ?_ | intro _)
    all_goals (try simp (disch := omega) only [InI, Int.toNat_natCast, Int.tmod_eq_emod_of_nonneg, Int.tdiv_eq_ediv_of_nonneg, true_implies, true_or, or_true, mm_l18, mm_l19, mm_l20, mm_l21, mm_l22] at *)
    all_goals first | omega | exact step _ (fX.rf.up (by omega)) (mm_up_o _ (by omega)) (vX_e20 hv (by omega) (by omega) (vX_r20 hk (by omega) (by omega))) | skip
set_option maxRecDepth 20000 in
theorem rn_X5_copied : mm_RN flX5 ct_X5_copied mm_x0 [] 0 0 4 kdX5_copied sp_X5_copied := by
  intro av M d Q h
  unfold sp_X5_copied at h
  split at h
  · rename_i o k v
    obtain ⟨rfl, hk, hv, hne, hm, hq⟩ := h
    have v1 := hm.1
    obtain ⟨n, hn⟩ := Int.eq_ofNat_of_zero_le v1.1
    obtain ⟨k, rfl⟩ := Int.eq_ofNat_of_zero_le hk.1
    obtain ⟨v, rfl⟩ := Int.eq_ofNat_of_zero_le hv.1
    simp only [Int.toNat_natCast] at *
    have hkv : k ≠ v := by omega
    have hk4 : k < 4 := by omega
    have hv4 : v < 4 := by omega
    have hz := wk_ne hkv
    have hw := (mV_i hk4).mp hm
    have eb := vX_b (M := M) hk4
    have en := vX_n (M := M) hk4
    have ki := isK_le (isKk hv4)
    have h8 := lp_X5_copied (M0 := M) (d := d) (Q := Q) hk4 hv4 hkv hn (by omega) (fun M' h => hq M' ⟨h.1, h.2.1, h.2.2.1, h.2.2.2, (mV_i hv4).mpr (cpy_wV hw (h.2.2.1 2 (by simp; omega)) h.2.2.2)⟩) n 0
    obtain ⟨K, hK, hK2⟩ : ∃ K : Nat → mm_K, (∀ t ls st M d u, K t ls st M d u → rr_X5_copied Q t ls st M d u) ∧ (∀ t ls st M d u, rr_X5_copied Q t ls st M d u → K t ls st M d u) := ⟨rr_X5_copied Q, fun _ _ _ _ _ _ h => h, fun _ _ _ _ _ _ h => h⟩
    have st : ∀ M', fX M M' → M' 17 = M 17 → vX M' = mm_up (mm_up (vX M) (8 + 2 * v) 3 (vX M (8 + 2 * k) 3)) (8 + 2 * v) 2 n → K 26 [some (mm_R 17), some (mm_I k), some (mm_I v), some (mm_I 0)] [] M' d 0 := by
      intro M' g1 g17 g2
      refine hK2 _ _ _ _ _ _ (h8 M' (by omega) g1 g17 (by rw [g2]; exact (fr.rf.up (by simp)).up (by simp)) (by rw [g2]; simp [mm_up]) (by rw [g2]; simp [mm_up]) (fun x hx => by omega))
    refine ⟨Nat.le_of_ble_eq_true rfl, ?_⟩
    refine mm_run_at (stop := [26]) (S := K) kkX5_copied 90 ?_ (fun _ _ _ _ _ _ _ h => hK _ _ _ _ _ _ h)
    repeat' (first | with_reducible assumption | with_reducible exact True.intro | with_reducible exact mm_i17 | with_reducible exact mm_i18 | with_reducible exact mm_i19 | with_reducible exact mm_i20 | with_reducible exact mm_i21 | with_reducible exact mm_i22 | ((with_reducible show mm_rv _ _ _ _ _); first | exact True.intro | exact mm_i17 | exact mm_i18 | exact mm_i19 | exact mm_i20 | exact mm_i21 | exact mm_i22) | ((with_reducible show mm_bool _ _); first | exact True.intro | exact Or.inl rfl | exact Or.inr rfl | (show (_ : Int) = 0 ∨ _ = 1)) | rfl | with_reducible exact Or.inl rfl | with_reducible exact Or.inr rfl | exact Nat.le_of_ble_eq_true rfl | refine And.intro ?_ ?_ | intro _)
    all_goals (try simp (disch := omega) only [InI, Int.toNat_natCast, Int.tmod_eq_emod_of_nonneg, Int.tdiv_eq_ediv_of_nonneg, true_implies, true_or, or_true, mm_l18, mm_l19, mm_l20, mm_l21, mm_l22] at *)
    all_goals first | omega | exact st _ ((fX.rf.up (by omega)).up (by omega)) (by rw [mm_up_o _ (by omega), mm_up_o _ (by omega)]) (by rw [vX_e21 (k := v) (y := (n : Int)) hv4 rfl (by rw [mm_up_ob (by omega)]; omega), vX_e22 (k := v) (y := vX M (8 + 2 * k) 3) hv4 rfl (by rw [eb])]) | skip
  · exact h.elim
theorem me_X5_copied {l : Launch} (hl : l.stackTraces = false) : mm_Met l yX5_copied cX5_copied 4 none [] 7 122 0 sp_X5_copied := mm_mt hl rn_X5_copied ⟨by decide, rfl⟩ kkX5_copied rfl ⟨by decide, by decide⟩ flkX5 (fun _ h => nomatch h) (⟨mm_pe (me_X5_stepOf hl) mwX5_stepOf (mm_t6 158 rfl rfl) (Nat.le_of_ble_eq_true rfl) (Nat.le_of_ble_eq_true rfl), trivial⟩) (mm_xe0 _)
theorem mm_up_ob_21 {M : mm_M} {a b : Nat} {x : Int} : mm_up M 22 a x 21 b = M 21 b := mm_up_ob (by decide)
theorem cor_in {V : mm_M} {w : Nat} {p : Int} (ht : tW V) (hv : wV V w) : 0 ≤ cor V w p ∧ cor V w p < 10 := by
  unfold cor
  split
  · have h := hv.2.2 (p - 1).toNat (by omega)
    have t1 := ht.1
    have t2 := ht.2.1 (V (w + 1) (p - 1).toNat / 2).toNat (by omega)
    unfold gl
    split <;> omega
  · exact hv.2.1
theorem rev_wV {V V' : mm_M} {w : Nat} (ht : tW V) (hv : wV V w) (h2 : V' 2 = V 2) (h : revR V V' w) : wV V' w := by
  have hc := cor_in (p := V w 2) ht hv
  obtain ⟨a, b, c⟩ := hv
  obtain ⟨h1, h3, h4⟩ := h
  refine ⟨by rw [h1]; exact a, by rw [h3]; exact hc, fun i hi => ?_⟩
  rw [h1] at hi
  rw [h4 i hi, h2]
  exact c _ (by omega)
theorem rev_wD {V V' : mm_M} {w : Nat} (hd : wD V w) (h : revR V V' w) : wD V' w := by
  obtain ⟨h1, h3, h4⟩ := h
  intro i j hi hj e
  rw [h1] at hi hj
  rw [h4 i hi, h4 j hj] at e
  have := hd _ _ (by omega) (by omega) e
  omega
def sp_X5_turned : mm_S := fun av M d Q => match av with
  | [.inr (.inr (.inl o)), .inl k] =>  o = 17 ∧ tX M ∧ (0 ≤ k ∧ k < 4) ∧ mV M k.toNat ∧ ∀ M', fX M M' ∧ M' 17 = M 17 ∧ fr [8 + 2 * k.toNat, 8 + 2 * k.toNat + 1] (vX M) (vX M') ∧ revR (vX M) (vX M') (8 + 2 * k.toNat) ∧ mV M' k.toNat → Q (.inl none) M' d
  | _ => False
def ct_X5_turned : List (Nat × mm_Ca) := [(108, (0, 2, 14, sp_X5_endOf, 0)), (117, (0, 3, 14, sp_X5_take, 0)), (120, (0, 4, 14, sp_X5_put, 0))]
abbrev rr_X5_turned (Q : mm_Q) := mm_run (mm_look flX5) (mm_look ct_X5_turned) mm_x0 (mm_look ([] : List (Nat × Int))) (fun _ => none) 0 0 (fun _ _ => none) Q kdX5_turned
set_option maxRecDepth 20000 in
theorem lp_X5_turned {M0 : mm_M} {d : List Nat} {Q : mm_Q} {k n : Nat} (hk : k < 4) (hn : M0 21 k = n) (hn3 : n ≤ 30) (hq : ∀ M', fX M0 M' ∧ M' 17 = M0 17 ∧ fr [8 + 2 * k, 8 + 2 * k + 1] (vX M0) (vX M') ∧ revR (vX M0) (vX M') (8 + 2 * k) → Q (.inl none) M' d) : ∀ (j i : Nat) (M : mm_M), i + j = n → fX M0 M → M 17 = M0 17 → mV M k → fr [8 + 2 * k, 8 + 2 * k + 1] (vX M0) (vX M) → M 21 k = n → vX M (8 + 2 * k) 3 = cor (vX M0) (8 + 2 * k) n → (∀ x : Nat, x < i → vX M (8 + 2 * k + 1) x = vX M0 (8 + 2 * k + 1) (n - 1 - x)) → (∀ x : Nat, i ≤ x → x < n → vX M (8 + 2 * k + 1) x = vX M0 (8 + 2 * k + 1) (x - i)) → rr_X5_turned Q 20 [some (mm_R 17), some (mm_I k), some (mm_I n), some (mm_I i)] [] M d 0 := by
  have hw := isKk hk
  have e0 : vX M0 (8 + 2 * k) 2 = n := by rw [vX_n hk]; exact hn
  intro j
  induction j with
  | zero =>
    intro i M hi hx h17 hm hf hl hb h1 h2
    have en := vX_n (M := M) hk
    have h9 := hq M ⟨hx, h17, hf, by rw [en, e0]; exact hl, by rw [e0]; exact hb, fun x hx => by rw [e0] at hx ⊢; rw [Int.toNat_natCast]; exact h1 x (by omega)⟩
    obtain ⟨K, hK, hK2⟩ : ∃ K : Nat → mm_K, (∀ t ls st M d u, K t ls st M d u → rr_X5_turned Q t ls st M d u) ∧ (∀ t ls st M d u, rr_X5_turned Q t ls st M d u → K t ls st M d u) := ⟨rr_X5_turned Q, fun _ _ _ _ _ _ h => h, fun _ _ _ _ _ _ h => h⟩
    refine mm_run_at (stop := [25]) (S := K) kkX5_turned 90 ?_ (fun _ _ _ _ _ _ _ h => hK _ _ _ _ _ _ h)
    repeat' (first | with_reducible assumption | with_reducible exact True.intro | with_reducible exact mm_i17 | with_reducible exact mm_i18 | with_reducible exact mm_i19 | with_reducible exact mm_i20 | with_reducible exact mm_i21 | with_reducible exact mm_i22 | ((with_reducible show mm_rv _ _ _ _ _); first | exact True.intro | exact mm_i17 | exact mm_i18 | exact mm_i19 | exact mm_i20 | exact mm_i21 | exact mm_i22) | ((with_reducible show mm_bool _ _); first | exact True.intro | exact Or.inl rfl | exact Or.inr rfl | (show (_ : Int) = 0 ∨ _ = 1)) | rfl | with_reducible exact Or.inl rfl | with_reducible exact Or.inr rfl | exact Nat.le_of_ble_eq_true rfl | refine And.intro ?_ ?_ | intro _)
    all_goals (try simp (disch := omega) only [InI, Int.toNat_natCast, Int.tmod_eq_emod_of_nonneg, Int.tdiv_eq_ediv_of_nonneg, true_implies, true_or, or_true, mm_l18, mm_l19, mm_l20, mm_l21, mm_l22] at *)
    all_goals first | omega | exact h9 | skip
  | succ j ih =>
    intro i M hi hx h17 hm hf hl hb h1 h2
    have en := vX_n (M := M) hk
    have hwv := (mV_i hk).mp hm
    have e1n : ((n : Int) - 1).toNat = n - 1 := by omega
    have hst : stO (vX M) (vX M (8 + 2 * k + 1) ((n : Int) - 1).toNat) := hwv.2.2 _ (by rw [en, hl]; omega)
    obtain ⟨K, hK, hK2⟩ : ∃ K : Nat → mm_K, (∀ t ls st M d u, K t ls st M d u → rr_X5_turned Q t ls st M d u) ∧ (∀ t ls st M d u, rr_X5_turned Q t ls st M d u → K t ls st M d u) := ⟨rr_X5_turned Q, fun _ _ _ _ _ _ h => h, fun _ _ _ _ _ _ h => h⟩
    have nxt : ∀ M1, fX M M1 ∧ fr [8 + 2 * k, 8 + 2 * k + 1] (vX M) (vX M1) ∧ mV M1 k ∧ takR (vX M) (vX M1) (8 + 2 * k) ((n : Int) - 1) ∧ M1 17 = M 17 → (mV M1 k ∧ M1 21 k = (n : Int) - 1 ∧ stO (vX M1) (vX M (8 + 2 * k + 1) ((n : Int) - 1).toNat)) ∧ ∀ M2, fX M1 M2 ∧ fr [8 + 2 * k, 8 + 2 * k + 1] (vX M1) (vX M2) ∧ mV M2 k ∧ putR (vX M1) (vX M2) (8 + 2 * k) i (vX M (8 + 2 * k + 1) ((n : Int) - 1).toNat) ∧ M2 17 = M1 17 → K 20 [some (mm_R 17), some (mm_I k), some (mm_I n), some (mm_I ((i : Int) + 1))] [] M2 d 0 := by
      intro M1 ⟨g1, g2, g3, g4, g5⟩
      have en1 := vX_n (M := M1) hk
      have g6 : (0 ≤ (n : Int) - 1 ∧ (n : Int) - 1 < vX M (8 + 2 * k) 2) := by rw [en, hl]; omega
      rcases g4 with g4 | g4
      rotate_left
      · exact absurd g6 g4.1
      obtain ⟨-, g7, g8, g9⟩ := g4
      rw [en, hl] at g7 g9
      refine ⟨⟨g3, by rw [← en1, g7], by unfold stO; rw [vX_w2 g5]; exact hst⟩, fun M2 ⟨q1, q2, q3, q4, q5⟩ => ?_⟩
      have en2 := vX_n (M := M2) hk
      rcases q4 with q4 | q4
      rotate_left
      · exact absurd ⟨by omega, by rw [g7]; omega, by rw [g7]; omega⟩ q4.1
      obtain ⟨-, q7, q8, q9⟩ := q4
      rw [g7] at q7 q9
      refine hK2 _ _ _ _ _ _ (ih (i + 1) M2 (by omega) ((hx.tr g1).tr q1) (by rw [q5, g5, h17]) q3 ((hf.tr g2).tr q2) (by rw [← en2, q7]; omega) (by rw [q8, g8]; exact hb) (fun x hx => ?_) (fun x hx hx2 => ?_))
      · obtain ⟨a1, a2, a3⟩ := q9 x (by omega)
        by_cases e : x = i
        · subst e
          rw [a2 rfl, e1n, h2 (n - 1) (by omega) (by omega)]
        · rw [a1 (by omega), (g9 x (by omega)).1 (by omega)]
          exact h1 x (by omega)
      · obtain ⟨a1, a2, a3⟩ := q9 x (by omega)
        rw [a3 (by omega), (g9 (x - 1) (by omega)).1 (by omega), h2 (x - 1) (by omega) (by omega)]
        congr 1
        omega
    refine mm_run_at (stop := [20, 45]) (S := K) kkX5_turned 90 ?_ (fun _ _ _ _ _ _ _ h => hK _ _ _ _ _ _ h)
    repeat' (first | with_reducible assumption | with_reducible exact True.intro | with_reducible exact mm_i17 | with_reducible exact mm_i18 | with_reducible exact mm_i19 | with_reducible exact mm_i20 | with_reducible exact mm_i21 | with_reducible exact mm_i22 | ((with_reducible show mm_rv _ _ _ _ _); first | exact True.intro | exact mm_i17 | exact mm_i18 | exact mm_i19 | exact mm_i20 | exact mm_i21 | exact mm_i22 | ((with_reducible show mV _ _); exact hm) | ((with_reducible show mV _ _); exact (nxt _ (by assumption)).1.1) | ((with_reducible show stO _ _); exact (nxt _ (by assumption)).1.2.2)) | ((with_reducible show mV _ _); exact hm) | ((with_reducible show mV _ _); exact (nxt _ (by assumption)).1.1) | ((with_reducible show stO _ _); exact (nxt _ (by assumption)).1.2.2) | ((with_reducible show mm_bool _ _); first | exact True.intro | exact Or.inl rfl | exact Or.inr rfl | (show (_ : Int) = 0 ∨ _ = 1)) | rfl | with_reducible exact Or.inl rfl | with_reducible exact Or.inr rfl | exact Nat.le_of_ble_eq_true rfl | refine And.intro ?_ ?_ | intro _)
    all_goals (try simp (disch := omega) only [InI, Int.toNat_natCast, Int.tmod_eq_emod_of_nonneg, Int.tdiv_eq_ediv_of_nonneg, true_implies, true_or, or_true, mm_l18, mm_l19, mm_l20, mm_l21, mm_l22] at *)
    all_goals first | omega | (have hx := (nxt _ (by assumption)).1.2.1; omega) | exact (nxt _ (by assumption)).2 _ (by assumption) | skip
set_option maxRecDepth 20000 in
theorem rn_X5_turned : mm_RN flX5 ct_X5_turned mm_x0 [] 0 0 4 kdX5_turned sp_X5_turned := by
  intro av M d Q h
  unfold sp_X5_turned at h
  split at h
  · rename_i o k
    obtain ⟨rfl, ht, hk, hm, hq⟩ := h
    have v1 := hm.1
    obtain ⟨n, hn⟩ := Int.eq_ofNat_of_zero_le v1.1
    obtain ⟨k, rfl⟩ := Int.eq_ofNat_of_zero_le hk.1
    simp only [Int.toNat_natCast] at *
    have hk4 : k < 4 := by omega
    have hw := (mV_i hk4).mp hm
    have en := vX_n (M := M) hk4
    have h8 := lp_X5_turned (M0 := M) (d := d) (Q := Q) hk4 hn (by omega) (fun M' h => hq M' ⟨h.1, h.2.1, h.2.2.1, h.2.2.2, (mV_i hk4).mpr (rev_wV (V := vX M) ht hw (h.2.2.1.k (isKk hk4)).1 h.2.2.2)⟩) n 0
    have hc := cor_in (V := vX M) (p := vX M (8 + 2 * k) 2) ht hw
    obtain ⟨K, hK, hK2⟩ : ∃ K : Nat → mm_K, (∀ t ls st M d u, K t ls st M d u → rr_X5_turned Q t ls st M d u) ∧ (∀ t ls st M d u, rr_X5_turned Q t ls st M d u → K t ls st M d u) := ⟨rr_X5_turned Q, fun _ _ _ _ _ _ h => h, fun _ _ _ _ _ _ h => h⟩
    have st : ∀ M' c, c = cor (vX M) (8 + 2 * k) (vX M (8 + 2 * k) 2) ∧ 0 ≤ c ∧ c < 10 → fX M M' → M' 17 = M 17 → vX M' = mm_up (vX M) (8 + 2 * k) 3 c → K 20 [some (mm_R 17), some (mm_I k), some (mm_I (M 21 k)), some (mm_I 0)] [] M' d 0 := by
      intro M' c hc2 g1 g17 g2
      have e2 : vX M' (8 + 2 * k) 2 = n := by rw [g2]; simp [mm_up]; rw [en, hn]
      have hw2 : wV (vX M') (8 + 2 * k) := by rw [g2]; exact hw.b hc2.2 (isKk hk4)
      rw [hn]
      refine hK2 _ _ _ _ _ _ (h8 M' (by omega) g1 g17 ((mV_i hk4).mpr hw2) (by rw [g2]; exact fr.rf.up (by simp)) (by rw [← vX_n (M := M') hk4, e2]) (by rw [g2]; simp [mm_up]; rw [hc2.1, en, hn]) (fun x hx => by omega) (fun x hx hx2 => by rw [g2, mm_up_o _ (by omega)]; rfl))
    refine ⟨Nat.le_of_ble_eq_true rfl, ?_⟩
    refine mm_run_at (stop := [20]) (S := K) kkX5_turned 90 ?_ (fun _ _ _ _ _ _ _ h => hK _ _ _ _ _ _ h)
    repeat' (first | with_reducible assumption | with_reducible exact True.intro | with_reducible exact mm_i17 | with_reducible exact mm_i18 | with_reducible exact mm_i19 | with_reducible exact mm_i20 | with_reducible exact mm_i21 | with_reducible exact mm_i22 | ((with_reducible show mm_rv _ _ _ _ _); first | exact True.intro | exact mm_i17 | exact mm_i18 | exact mm_i19 | exact mm_i20 | exact mm_i21 | exact mm_i22 | ((with_reducible show mV _ _); exact hm)) | ((with_reducible show mV _ _); exact hm) | ((with_reducible show mm_bool _ _); first | exact True.intro | exact Or.inl rfl | exact Or.inr rfl | (show (_ : Int) = 0 ∨ _ = 1)) | rfl | with_reducible exact Or.inl rfl | with_reducible exact Or.inr rfl | exact Nat.le_of_ble_eq_true rfl | refine And.intro ?_ ?_ | intro _)
    all_goals (try simp (disch := omega) only [mm_up_ob_21, InI, Int.toNat_natCast, Int.tmod_eq_emod_of_nonneg, Int.tdiv_eq_ediv_of_nonneg, true_implies, true_or, or_true, mm_l18, mm_l19, mm_l20, mm_l21, mm_l22] at *)
    all_goals first | omega | exact st _ _ (by assumption) (fX.rf.up (by omega)) (mm_up_o _ (by omega)) (vX_e22 hk4 (by omega) rfl) | skip
  · exact h.elim
theorem me_X5_turned {l : Launch} (hl : l.stackTraces = false) : mm_Met l yX5_turned cX5_turned 4 none [] 9 165 0 sp_X5_turned := mm_mt hl rn_X5_turned ⟨by decide, rfl⟩ kkX5_turned rfl ⟨by decide, by decide⟩ flkX5 (fun _ h => nomatch h) (⟨mm_pe (me_X5_endOf hl) mwX5_endOf (mm_t6 181 rfl rfl) (Nat.le_of_ble_eq_true rfl) (Nat.le_of_ble_eq_true rfl), mm_pe (me_X5_take hl) mwX5_take (mm_t6 193 rfl rfl) (Nat.le_of_ble_eq_true rfl) (Nat.le_of_ble_eq_true rfl), mm_pe (me_X5_put hl) mwX5_put (mm_t6 197 rfl rfl) (Nat.le_of_ble_eq_true rfl) (Nat.le_of_ble_eq_true rfl), trivial⟩) (mm_xe0 _)

