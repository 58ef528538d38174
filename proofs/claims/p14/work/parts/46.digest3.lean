/-! the class: digest -/
theorem frA {V M : mm_M} (h : fr [5, 6] V M) : M 2 = V 2 ∧ M 3 = V 3 ∧ M 4 = V 4 := ⟨h 2 (by simp), h 3 (by simp), h 4 (by simp)⟩
def sp_X3_digestOfTown : mm_S := fun av M d Q => match av with
  | [.inr (.inr (.inl o)), .inr (.inl s)] =>  o = 1 ∧ wA M ∧ (∀ M' r kd, fr [5, 6] M M' → kdR (M 3) (M 4) (M 2 4).toNat (M 2 5) kd → r = dgT M s kd → Q (.inl (some (mm_L r))) M' d)
  | _ => False
def ct_X3_digestOfTown : List (Nat × mm_Ca) := [(55, (0, 1, 11, sp_X1_size, 0)), (320, (1, 2, 0, sp_X3_mixed, 0)), (108, (0, 2, 11, sp_X1_fromOf, 0)), (105, (0, 2, 11, sp_X1_toOf, 0)), (111, (0, 2, 11, sp_X1_outOf, 0)), (114, (0, 2, 11, sp_X1_inOf, 0)), (117, (0, 1, 11, sp_X1_allStreets, 0)), (135, (0, 3, 11, sp_X1_isStartOf, 0)), (327, (1, 1, 0, sp_X3_numberOf, 0)), (129, (0, 1, 10, sp_X3_odd, 0)), (126, (0, 1, 10, sp_X3_hangs, 0)), (298, (0, 1, 10, sp_X3_kind, 0)), (139, (0, 1, 11, sp_X1_signCount, 0)), (142, (0, 1, 11, sp_X1_wordSize, 0)), (92, (0, 1, 11, sp_X1_isOneWay, 0))]
abbrev rr_X3_digestOfTown (Q : mm_Q) := mm_run (mm_look flX3) (mm_look ct_X3_digestOfTown) mm_x0 (mm_look ([] : List (Nat × Int))) (fun _ => none) 3 0 (fun _ _ => none) Q kdX3_digestOfTown
set_option maxRecDepth 20000 in
theorem lp2_X3_digestOfTown {V : mm_M} {d : List Nat} {Q : mm_Q} {s0 s1 : Int} (ha : wA V) (hq : ∀ M x5, fr [5, 6] V M → rr_X3_digestOfTown Q 145 [some (mm_R 1), some (mm_L s0), none, some (mm_L (dgC V s1 10)), none, x5] [] M d 0) : ∀ (k i : Nat) (M : mm_M), i + k = 10 → fr [5, 6] V M → rr_X3_digestOfTown Q 67 [some (mm_R 1), some (mm_L s0), none, some (mm_L (dgC V s1 i)), none, some (mm_I i)] [] M d 0 := by
  intro k
  induction k with
  | zero =>
    intro i M hi hf
    have e : i = 10 := by omega
    subst e
    obtain ⟨K, hK, hK2⟩ : ∃ K : Nat → mm_K, (∀ t ls st M d u, K t ls st M d u → rr_X3_digestOfTown Q t ls st M d u) ∧ (∀ t ls st M d u, rr_X3_digestOfTown Q t ls st M d u → K t ls st M d u) := ⟨rr_X3_digestOfTown Q, fun _ _ _ _ _ _ h => h, fun _ _ _ _ _ _ h => h⟩
    have h9 := fun x5 => hK2 _ _ _ _ _ _ (hq M x5 hf)
    clear hq
    refine mm_run_at (stop := [74, 145]) (S := K) kkX3_digestOfTown 90 ?_ (fun _ _ _ _ _ _ _ h => hK _ _ _ _ _ _ h)
    repeat' (first | with_reducible assumption | ((with_reducible show mm_rv _ _ _ _ _); first | exact True.intro | exact mm_i1 | exact mm_i2) | with_reducible exact mm_i1 | with_reducible exact mm_i2 | ((with_reducible show mm_bool _ _); first | exact True.intro | exact Or.inl rfl | exact Or.inr rfl | (show (_ : Int) = 0 ∨ _ = 1)) | refine And.intro ?_ ?_ | intro _ | with_reducible exact True.intro | exact rfl | with_reducible exact Or.inl rfl | with_reducible exact Or.inr rfl | exact Nat.le_of_ble_eq_true rfl)
    all_goals (try simp (disch := omega) only [InI, Int.toNat_natCast, Int.tmod_eq_emod_of_nonneg, Int.tdiv_eq_ediv_of_nonneg, true_implies, true_or, or_true, mm_l18, mm_l19, mm_l20, mm_l21, mm_l22] at *)
    all_goals first | omega | exact h9 _ | skip
  | succ k ih =>
    intro i M hi hf
    have ht := (ha.s hf).1.1
    obtain ⟨e2, e3, e4⟩ := frA hf
    obtain ⟨s, hs⟩ : ∃ s, s = dgC V s1 i := ⟨_, rfl⟩
    obtain ⟨a, hA⟩ : ∃ a, a = oc (V 3) (al V) i (V 2 4).toNat := ⟨_, rfl⟩
    obtain ⟨b, hB⟩ : ∃ b, b = oc (V 4) (al V) i (V 2 4).toNat := ⟨_, rfl⟩
    rw [← hs]
    obtain ⟨K, hK, hK2⟩ : ∃ K : Nat → mm_K, (∀ t ls st M d u, K t ls st M d u → rr_X3_digestOfTown Q t ls st M d u) ∧ (∀ t ls st M d u, rr_X3_digestOfTown Q t ls st M d u → K t ls st M d u) := ⟨rr_X3_digestOfTown Q, fun _ _ _ _ _ _ h => h, fun _ _ _ _ _ _ h => h⟩
    have next : ∀ M5 r, fr [5, 6] V M5 → ((STV V (al V) i → r = 1) ∧ (¬ STV V (al V) i → r = 0)) → K 67 [some (mm_R 1), some (mm_L s0), none, some (mm_L (((s * 31 + (a + b)) * 31 + a) * 31 + mm_w r)), none, some (mm_I ((i : Int) + 1))] [] M5 d 0 := fun M5 r h1 h2 => by
      have h3 := hK2 _ _ _ _ _ _ (ih (i + 1) M5 (by omega) h1)
      rw [mw_ind h2, hs, hA, hB]
      exact h3
    have k131 : ∀ M5 r, fr [5, 6] V M5 → ((STV V (al V) i → r = 1) ∧ (¬ STV V (al V) i → r = 0)) → K 131 [some (mm_R 1), some (mm_L s0), none, some (mm_L ((s * 31 + (a + b)) * 31 + a)), none, some (mm_I i)] [mm_I r, mm_L ((s * 31 + (a + b)) * 31 + a)] M5 d 0 := by
      intro M5 r h1 h2
      have h3 := next M5 r h1 h2
      have h4 := in01 h2
      clear next ih hq h2 hA hB hs
      refine hK2 _ _ _ _ _ _ ?_
      refine mm_run_at (stop := [67]) (S := K) kkX3_digestOfTown 90 ?_ (fun _ _ _ _ _ _ _ h => hK _ _ _ _ _ _ h)
      repeat' (first | with_reducible assumption | ((with_reducible show mm_rv _ _ _ _ _); first | exact True.intro | exact mm_i1) | with_reducible exact mm_i1 | ((with_reducible show mm_bool _ _); first | exact True.intro | exact Or.inl rfl | exact Or.inr rfl | (show (_ : Int) = 0 ∨ _ = 1)) | refine And.intro ?_ ?_ | intro _ | with_reducible exact True.intro | exact rfl | with_reducible exact Or.inl rfl | with_reducible exact Or.inr rfl | exact Nat.le_of_ble_eq_true rfl)
      all_goals (try simp (disch := omega) only [InI, Int.toNat_natCast, Int.tmod_eq_emod_of_nonneg, Int.tdiv_eq_ediv_of_nonneg, true_implies, true_or, or_true, mm_l18, mm_l19, mm_l20, mm_l21, mm_l22] at *)
      all_goals first | omega | exact h3 | skip
    have k109 : ∀ M4 r, fr [5, 6] V M4 → r = a → (0 ≤ r ∧ r ≤ 30) → K 109 [some (mm_R 1), some (mm_L s0), none, some (mm_L (s * 31 + (a + b))), none, some (mm_I i)] [mm_I r, mm_L (s * 31 + (a + b))] M4 d 0 := by
      intro M4 r h1 h2 h3
      have ht4 := (ha.s h1).1.1
      obtain ⟨f2, f3, f4⟩ := frA h1
      have hq5 : ∀ r5, (r5 = 2 ^ (M4 2 4).toNat - 1 ∧ 0 ≤ r5 ∧ r5 < 1073741824) → ∀ M5 r6, fr [5, 6] M4 M5 ∧ (ST (M4 3) (M4 4) (M4 2 4).toNat (M4 2 5) r5 i → r6 = 1) ∧ (¬ ST (M4 3) (M4 4) (M4 2 4).toNat (M4 2 5) r5 i → r6 = 0) → K 131 [some (mm_R 1), some (mm_L s0), none, some (mm_L ((s * 31 + (a + b)) * 31 + mm_w r)), none, some (mm_I i)] [mm_I r6, mm_L ((s * 31 + (a + b)) * 31 + mm_w r)] M5 d 0 := fun r5 h5 M5 r6 h6 => by
        rw [f2, f3, f4, h5.1, f2] at h6
        rw [mw_id (x := r) ⟨by omega, by omega⟩, h2]
        exact k131 M5 r6 (h1.tr h6.1) h6.2
      clear next k131 ih hq hA hB hs f2 f3 f4 e2 e3 e4 ht
      refine hK2 _ _ _ _ _ _ ?_
      refine mm_run_at (stop := [131]) (S := K) kkX3_digestOfTown 90 ?_ (fun _ _ _ _ _ _ _ h => hK _ _ _ _ _ _ h)
      repeat' (first | with_reducible assumption | ((with_reducible show mm_rv _ _ _ _ _); first | exact True.intro | exact mm_i1 | exact mm_i2) | with_reducible exact mm_i1 | with_reducible exact mm_i2 | ((with_reducible show mm_bool _ _); first | exact True.intro | exact Or.inl rfl | exact Or.inr rfl | (show (_ : Int) = 0 ∨ _ = 1)) | refine And.intro ?_ ?_ | intro _ | with_reducible exact True.intro | exact rfl | with_reducible exact Or.inl rfl | with_reducible exact Or.inr rfl | exact Nat.le_of_ble_eq_true rfl)
      all_goals (try simp (disch := omega) only [InI, Int.toNat_natCast, Int.tmod_eq_emod_of_nonneg, Int.tdiv_eq_ediv_of_nonneg, true_implies, true_or, or_true, mm_l18, mm_l19, mm_l20, mm_l21, mm_l22] at *)
      all_goals first | omega | exact hq5 _ (by assumption) _ _ (by assumption) | skip
    have k99 : ∀ M3, fr [5, 6] V M3 → K 99 [some (mm_R 1), some (mm_L s0), none, some (mm_L (s * 31 + (a + b))), none, some (mm_I i)] [] M3 d 0 := by
      intro M3 h1
      have ht3 := (ha.s h1).1.1
      obtain ⟨f2, f3, f4⟩ := frA h1
      have hq4 : ∀ M4 r, fr [5, 6] M3 M4 ∧ r = oc (M3 3) (2 ^ (M3 2 4).toNat - 1) i (M3 2 4).toNat ∧ 0 ≤ r ∧ r ≤ 30 → K 109 [some (mm_R 1), some (mm_L s0), none, some (mm_L (s * 31 + (a + b))), none, some (mm_I i)] [mm_I r, mm_L (s * 31 + (a + b))] M4 d 0 := fun M4 r h => k109 M4 r (h1.tr h.1) (h.2.1.trans (by rw [f2, f3, hA]; first | done | rfl)) h.2.2
      clear next k131 k109 ih hq hA hB hs f2 f3 f4 e2 e3 e4 ht
      refine hK2 _ _ _ _ _ _ ?_
      refine mm_run_at (stop := [109]) (S := K) kkX3_digestOfTown 90 ?_ (fun _ _ _ _ _ _ _ h => hK _ _ _ _ _ _ h)
      repeat' (first | with_reducible assumption | ((with_reducible show mm_rv _ _ _ _ _); first | exact True.intro | exact mm_i1 | exact mm_i2) | with_reducible exact mm_i1 | with_reducible exact mm_i2 | ((with_reducible show mm_bool _ _); first | exact True.intro | exact Or.inl rfl | exact Or.inr rfl | (show (_ : Int) = 0 ∨ _ = 1)) | refine And.intro ?_ ?_ | intro _ | with_reducible exact True.intro | exact rfl | with_reducible exact Or.inl rfl | with_reducible exact Or.inr rfl | exact Nat.le_of_ble_eq_true rfl)
      all_goals (try simp (disch := omega) only [InI, Int.toNat_natCast, Int.tmod_eq_emod_of_nonneg, Int.tdiv_eq_ediv_of_nonneg, true_implies, true_or, or_true, mm_l18, mm_l19, mm_l20, mm_l21, mm_l22] at *)
      all_goals first | omega | exact hq4 _ _ (by assumption) | skip
    have k93 : ∀ M3 r r', fr [5, 6] V M3 → r = a → r' = b → (0 ≤ r ∧ r ≤ 30) → (0 ≤ r' ∧ r' ≤ 30) → K 93 [some (mm_R 1), some (mm_L s0), none, some (mm_L s), none, some (mm_I i)] [mm_I r', mm_I r, mm_L s] M3 d 0 := by
      intro M3 r r' h1 h2 h3 h4 h5
      have h6 := k99 M3 h1
      rw [show s * 31 + (a + b) = s * 31 + mm_w (r + r') from by rw [mw_id (x := r + r') ⟨by omega, by omega⟩, h2, h3]] at h6
      clear next k131 k109 k99 ih hq hA hB hs e2 e3 e4 ht h2 h3
      refine hK2 _ _ _ _ _ _ ?_
      refine mm_run_at (stop := [99]) (S := K) kkX3_digestOfTown 90 ?_ (fun _ _ _ _ _ _ _ h => hK _ _ _ _ _ _ h)
      repeat' (first | with_reducible assumption | ((with_reducible show mm_rv _ _ _ _ _); first | exact True.intro | exact mm_i1) | with_reducible exact mm_i1 | ((with_reducible show mm_bool _ _); first | exact True.intro | exact Or.inl rfl | exact Or.inr rfl | (show (_ : Int) = 0 ∨ _ = 1)) | refine And.intro ?_ ?_ | intro _ | with_reducible exact True.intro | exact rfl | with_reducible exact Or.inl rfl | with_reducible exact Or.inr rfl | exact Nat.le_of_ble_eq_true rfl)
      all_goals (try simp (disch := omega) only [InI, Int.toNat_natCast, Int.tmod_eq_emod_of_nonneg, Int.tdiv_eq_ediv_of_nonneg, true_implies, true_or, or_true, mm_l18, mm_l19, mm_l20, mm_l21, mm_l22] at *)
      all_goals first | omega | exact h6 | skip
    have k84 : ∀ M2 r, fr [5, 6] V M2 → r = a → (0 ≤ r ∧ r ≤ 30) → K 84 [some (mm_R 1), some (mm_L s0), none, some (mm_L s), none, some (mm_I i)] [mm_I r, mm_L s] M2 d 0 := by
      intro M2 r h1 h2 h3
      have ht2 := (ha.s h1).1.1
      obtain ⟨f2, f3, f4⟩ := frA h1
      have hq3 : ∀ M3 r', fr [5, 6] M2 M3 ∧ r' = oc (M2 4) (2 ^ (M2 2 4).toNat - 1) i (M2 2 4).toNat ∧ 0 ≤ r' ∧ r' ≤ 30 → K 93 [some (mm_R 1), some (mm_L s0), none, some (mm_L s), none, some (mm_I i)] [mm_I r', mm_I r, mm_L s] M3 d 0 := fun M3 r' h => k93 M3 r r' (h1.tr h.1) h2 (h.2.1.trans (by rw [f2, f4, hB]; first | done | rfl)) h3 h.2.2
      clear next k131 k109 k99 k93 ih hq hA hB hs f2 f3 f4 e2 e3 e4 ht h2
      refine hK2 _ _ _ _ _ _ ?_
      refine mm_run_at (stop := [93]) (S := K) kkX3_digestOfTown 90 ?_ (fun _ _ _ _ _ _ _ h => hK _ _ _ _ _ _ h)
      repeat' (first | with_reducible assumption | ((with_reducible show mm_rv _ _ _ _ _); first | exact True.intro | exact mm_i1 | exact mm_i2) | with_reducible exact mm_i1 | with_reducible exact mm_i2 | ((with_reducible show mm_bool _ _); first | exact True.intro | exact Or.inl rfl | exact Or.inr rfl | (show (_ : Int) = 0 ∨ _ = 1)) | refine And.intro ?_ ?_ | intro _ | with_reducible exact True.intro | exact rfl | with_reducible exact Or.inl rfl | with_reducible exact Or.inr rfl | exact Nat.le_of_ble_eq_true rfl)
      all_goals (try simp (disch := omega) only [InI, Int.toNat_natCast, Int.tmod_eq_emod_of_nonneg, Int.tdiv_eq_ediv_of_nonneg, true_implies, true_or, or_true, mm_l18, mm_l19, mm_l20, mm_l21, mm_l22] at *)
      all_goals first | omega | exact hq3 _ _ (by assumption) | skip
    have hq2 : ∀ M2 r, fr [5, 6] M M2 ∧ r = oc (M 3) (2 ^ (M 2 4).toNat - 1) i (M 2 4).toNat ∧ 0 ≤ r ∧ r ≤ 30 → K 84 [some (mm_R 1), some (mm_L s0), none, some (mm_L s), none, some (mm_I i)] [mm_I r, mm_L s] M2 d 0 := fun M2 r h => k84 M2 r (hf.tr h.1) (h.2.1.trans (by rw [e2, e3, hA]; first | done | rfl)) h.2.2
    clear next k131 k109 k99 k93 k84 ih hq hA hB hs e2 e3 e4
    refine mm_run_at (stop := [84, 145]) (S := K) kkX3_digestOfTown 90 ?_ (fun _ _ _ _ _ _ _ h => hK _ _ _ _ _ _ h)
    repeat' (first | with_reducible assumption | ((with_reducible show mm_rv _ _ _ _ _); first | exact True.intro | exact mm_i1 | exact mm_i2) | with_reducible exact mm_i1 | with_reducible exact mm_i2 | ((with_reducible show mm_bool _ _); first | exact True.intro | exact Or.inl rfl | exact Or.inr rfl | (show (_ : Int) = 0 ∨ _ = 1)) | refine And.intro ?_ ?_ | intro _ | with_reducible exact True.intro | exact rfl | with_reducible exact Or.inl rfl | with_reducible exact Or.inr rfl | exact Nat.le_of_ble_eq_true rfl)
    all_goals (try simp (disch := omega) only [InI, Int.toNat_natCast, Int.tmod_eq_emod_of_nonneg, Int.tdiv_eq_ediv_of_nonneg, true_implies, true_or, or_true, mm_l18, mm_l19, mm_l20, mm_l21, mm_l22] at *)
    all_goals first | omega | exact hq2 _ _ (by assumption) | skip
set_option maxRecDepth 20000 in
theorem lp_X3_digestOfTown {M : mm_M} {d : List Nat} {Q : mm_Q} {s0 s1 : Int} {n : Nat} (ha : wA M) (hn : M 2 4 = n) (hq : ∀ x5, rr_X3_digestOfTown Q 64 [some (mm_R 1), some (mm_L s0), none, some (mm_L (dgF M s1 n)), none, x5] [] M d 0) : ∀ (k i : Nat), i + k = n → rr_X3_digestOfTown Q 16 [some (mm_R 1), some (mm_L s0), none, some (mm_L (dgF M s1 i)), none, some (mm_I i)] [] M d 0 := by
  have ht := ha.1
  have t1 := ht.1
  intro k
  induction k with
  | zero =>
    intro i hi
    have e : i = n := by omega
    subst e
    obtain ⟨K, hK, hK2⟩ : ∃ K : Nat → mm_K, (∀ t ls st M d u, K t ls st M d u → rr_X3_digestOfTown Q t ls st M d u) ∧ (∀ t ls st M d u, rr_X3_digestOfTown Q t ls st M d u → K t ls st M d u) := ⟨rr_X3_digestOfTown Q, fun _ _ _ _ _ _ h => h, fun _ _ _ _ _ _ h => h⟩
    have h9 := fun x5 => hK2 _ _ _ _ _ _ (hq x5)
    clear hq
    refine mm_run_at (stop := [28, 64]) (S := K) kkX3_digestOfTown 90 ?_ (fun _ _ _ _ _ _ _ h => hK _ _ _ _ _ _ h)
    repeat' (first | with_reducible assumption | ((with_reducible show mm_rv _ _ _ _ _); first | exact True.intro | exact mm_i1 | exact mm_i2) | with_reducible exact mm_i1 | with_reducible exact mm_i2 | ((with_reducible show mm_bool _ _); first | exact True.intro | exact Or.inl rfl | exact Or.inr rfl | (show (_ : Int) = 0 ∨ _ = 1)) | refine And.intro ?_ ?_ | intro _ | with_reducible exact True.intro | exact rfl | with_reducible exact Or.inl rfl | with_reducible exact Or.inr rfl | exact Nat.le_of_ble_eq_true rfl)
    all_goals (try simp (disch := omega) only [InI, Int.toNat_natCast, Int.tmod_eq_emod_of_nonneg, Int.tdiv_eq_ediv_of_nonneg, true_implies, true_or, or_true, mm_l18, mm_l19, mm_l20, mm_l21, mm_l22] at *)
    all_goals first | omega | exact h9 _ | skip
  | succ k ih =>
    intro i hi
    obtain ⟨K, hK, hK2⟩ : ∃ K : Nat → mm_K, (∀ t ls st M d u, K t ls st M d u → rr_X3_digestOfTown Q t ls st M d u) ∧ (∀ t ls st M d u, rr_X3_digestOfTown Q t ls st M d u → K t ls st M d u) := ⟨rr_X3_digestOfTown Q, fun _ _ _ _ _ _ h => h, fun _ _ _ _ _ _ h => h⟩
    have st : ∀ r r', (r = M 3 i ∧ 0 ≤ r ∧ r < 10) → (r' = M 4 i ∧ 0 ≤ r' ∧ r' < 10) → K 16 [some (mm_R 1), some (mm_L s0), none, some (mm_L ((dgF M s1 i * 31 + mm_w r) * 31 + mm_w r')), none, some (mm_I ((i : Int) + 1))] [] M d 0 := fun r r' h h2 => by
      have h3 := hK2 _ _ _ _ _ _ (ih (i + 1) (by omega))
      rw [mw_id (x := r) ⟨by omega, by omega⟩, mw_id (x := r') ⟨by omega, by omega⟩, h.1, h2.1]
      exact h3
    clear ih hq
    refine mm_run_at (stop := [16, 64]) (S := K) kkX3_digestOfTown 90 ?_ (fun _ _ _ _ _ _ _ h => hK _ _ _ _ _ _ h)
    repeat' (first | with_reducible assumption | ((with_reducible show mm_rv _ _ _ _ _); first | exact True.intro | exact mm_i1 | exact mm_i2) | with_reducible exact mm_i1 | with_reducible exact mm_i2 | ((with_reducible show mm_bool _ _); first | exact True.intro | exact Or.inl rfl | exact Or.inr rfl | (show (_ : Int) = 0 ∨ _ = 1)) | refine And.intro ?_ ?_ | intro _ | with_reducible exact True.intro | exact rfl | with_reducible exact Or.inl rfl | with_reducible exact Or.inr rfl | exact Nat.le_of_ble_eq_true rfl)
    all_goals (try simp (disch := omega) only [InI, Int.toNat_natCast, Int.tmod_eq_emod_of_nonneg, Int.tdiv_eq_ediv_of_nonneg, true_implies, true_or, or_true, mm_l18, mm_l19, mm_l20, mm_l21, mm_l22] at *)
    all_goals first | omega | exact st _ _ (by assumption) (by assumption) | skip
set_option maxRecDepth 20000 in
theorem rn_X3_digestOfTown : mm_RN flX3 ct_X3_digestOfTown mm_x0 [] 3 0 6 kdX3_digestOfTown sp_X3_digestOfTown := by
  intro av M d Q h
  unfold sp_X3_digestOfTown at h
  split at h
  · rename_i o s
    obtain ⟨rfl, ha, hq⟩ := h
    have t1 := ha.1.1
    obtain ⟨n, hn⟩ := Int.eq_ofNat_of_zero_le t1.1
    have hn2 : (M 2 4).toNat = n := by omega
    obtain ⟨D, hD⟩ : ∃ D, D = dgC M (dgF M (s * 31 + M 2 4) n) 10 := ⟨_, rfl⟩
    have k145 : ∀ M1 x5, fr [5, 6] M M1 → rr_X3_digestOfTown Q 145 [some (mm_R 1), some (mm_L s), none, some (mm_L D), none, x5] [] M1 d 0 := by
      intro M1 x5 h1
      obtain ⟨K, hK, hK2⟩ : ∃ K : Nat → mm_K, (∀ t ls st M d u, K t ls st M d u → rr_X3_digestOfTown Q t ls st M d u) ∧ (∀ t ls st M d u, rr_X3_digestOfTown Q t ls st M d u → K t ls st M d u) := ⟨rr_X3_digestOfTown Q, fun _ _ _ _ _ _ h => h, fun _ _ _ _ _ _ h => h⟩
      have k173 : ∀ M3 r1 r2 r3, fr [5, 6] M M3 → (r1 = odn (M 3) (M 4) (M 2 4).toNat (M 2 5) (al M) 10 ∧ 0 ≤ r1 ∧ r1 ≤ 10) → b01 (HG (M 3) (M 4) (M 2 4).toNat (al M)) r2 → ((0 ≤ r3 ∧ r3 ≤ 2) ∧ kdR (M 3) (M 4) (M 2 4).toNat (M 2 5) r3) → K 173 [some (mm_R 1), some (mm_L s), none, some (mm_L ((D * 31 + mm_w r1) * 31 + mm_w r2)), none, x5] [mm_I r3, mm_L ((D * 31 + mm_w r1) * 31 + mm_w r2)] M3 d 0 := by
        intro M3 r1 r2 r3 h3 g1 g2 g3
        obtain ⟨f2, -, -⟩ := frA h3
        have ht3 := (ha.s h3).1.1
        have t5 := ht3.2.2.1
        have fin := hq M3 ((((((D * 31 + mm_w r1) * 31 + mm_w r2) * 31 + mm_w r3) * 31 + mm_w (M3 2 6)) * 31 + mm_w (M3 2 7)) * 31 + mm_w (M3 2 5)) r3 h3 g3.2 (by
          have t6 := ht3.2.2.2.1
          have t7 := ht3.2.2.2.2
          rw [mw_id (x := r1) ⟨by omega, by omega⟩, mw_b01 g2, mw_id (x := r3) ⟨by omega, by omega⟩, mw_id (x := M3 2 6) ⟨by omega, by omega⟩, mw_id (x := M3 2 7) ⟨by omega, by omega⟩, mw_01 t5, f2, g1.1, hD, ← hn2]
          first | done | rfl)
        clear hq hD g1 g2 g3 h3 f2
        refine hK2 _ _ _ _ _ _ ?_
        refine mm_run_at (stop := []) (S := K) kkX3_digestOfTown 90 ?_ (fun _ _ _ _ _ _ _ h => hK _ _ _ _ _ _ h)
        repeat' (first | with_reducible assumption | ((with_reducible show mm_rv _ _ _ _ _); first | exact True.intro | exact mm_i1 | exact mm_i2) | with_reducible exact mm_i1 | with_reducible exact mm_i2 | ((with_reducible show mm_bool _ _); first | exact True.intro | exact Or.inl rfl | exact Or.inr rfl | (show (_ : Int) = 0 ∨ _ = 1)) | refine And.intro ?_ ?_ | intro _ | with_reducible exact True.intro | exact rfl | with_reducible exact Or.inl rfl | with_reducible exact Or.inr rfl | exact Nat.le_of_ble_eq_true rfl)
        all_goals (try simp (disch := omega) only [InI, Int.toNat_natCast, Int.tmod_eq_emod_of_nonneg, Int.tdiv_eq_ediv_of_nonneg, true_implies, true_or, or_true, mm_l18, mm_l19, mm_l20, mm_l21, mm_l22] at *)
        all_goals first | omega | exact fin | skip
      have k160 : ∀ M2 r1 r2, fr [5, 6] M M2 → (r1 = odn (M 3) (M 4) (M 2 4).toNat (M 2 5) (al M) 10 ∧ 0 ≤ r1 ∧ r1 ≤ 10) → b01 (HG (M 3) (M 4) (M 2 4).toNat (al M)) r2 → K 160 [some (mm_R 1), some (mm_L s), none, some (mm_L (D * 31 + mm_w r1)), none, x5] [mm_I r2, mm_L (D * 31 + mm_w r1)] M2 d 0 := by
        intro M2 r1 r2 h2 g1 g2
        have hA2 := (ha.s h2).1
        have g3 := g2.1
        have st : ∀ M3 r3, fr [5, 6] M2 M3 ∧ (0 ≤ r3 ∧ r3 ≤ 2) ∧ C_kind M2 M3 0 r3 → K 173 [some (mm_R 1), some (mm_L s), none, some (mm_L ((D * 31 + mm_w r1) * 31 + mm_w r2)), none, x5] [mm_I r3, mm_L ((D * 31 + mm_w r1) * 31 + mm_w r2)] M3 d 0 := fun M3 r3 h => k173 M3 r1 r2 r3 (h2.tr h.1) g1 g2 ⟨h.2.1, by
          have h5 := h.2.2.2.1
          obtain ⟨f2, f3, f4⟩ := frA h2
          rw [f2, f3, f4] at h5
          exact h5⟩
        clear k173 hq hD g1 g2
        refine hK2 _ _ _ _ _ _ ?_
        refine mm_run_at (stop := [173]) (S := K) kkX3_digestOfTown 90 ?_ (fun _ _ _ _ _ _ _ h => hK _ _ _ _ _ _ h)
        repeat' (first | with_reducible assumption | ((with_reducible show mm_rv _ _ _ _ _); first | exact True.intro | exact mm_i1) | with_reducible exact mm_i1 | ((with_reducible show mm_bool _ _); first | exact True.intro | exact Or.inl rfl | exact Or.inr rfl | (show (_ : Int) = 0 ∨ _ = 1)) | refine And.intro ?_ ?_ | intro _ | with_reducible exact True.intro | exact rfl | with_reducible exact Or.inl rfl | with_reducible exact Or.inr rfl | exact Nat.le_of_ble_eq_true rfl)
        all_goals (try simp (disch := omega) only [InI, Int.toNat_natCast, Int.tmod_eq_emod_of_nonneg, Int.tdiv_eq_ediv_of_nonneg, true_implies, true_or, or_true, mm_l18, mm_l19, mm_l20, mm_l21, mm_l22] at *)
        all_goals first | omega | exact st _ _ (by assumption) | skip
      have k150 : ∀ M2 r1, fr [5, 6] M M2 → (r1 = odn (M 3) (M 4) (M 2 4).toNat (M 2 5) (al M) 10 ∧ 0 ≤ r1 ∧ r1 ≤ 10) → K 150 [some (mm_R 1), some (mm_L s), none, some (mm_L D), none, x5] [mm_I r1, mm_L D] M2 d 0 := by
        intro M2 r1 h2 g1
        have hA2 := (ha.s h2).1
        have st : ∀ r2, (r2 = 0 ∨ r2 = 1) ∧ C_hangs M2 M2 0 r2 → K 160 [some (mm_R 1), some (mm_L s), none, some (mm_L (D * 31 + mm_w r1)), none, x5] [mm_I r2, mm_L (D * 31 + mm_w r1)] M2 d 0 := fun r2 h => k160 M2 r1 r2 h2 g1 (by
          have h5 := h.2.2.1
          obtain ⟨f2, f3, f4⟩ := frA h2
          unfold al at h5
          rw [f2, f3, f4] at h5
          exact h5)
        clear k160 k173 hq hD g1
        refine hK2 _ _ _ _ _ _ ?_
        refine mm_run_at (stop := [160]) (S := K) kkX3_digestOfTown 90 ?_ (fun _ _ _ _ _ _ _ h => hK _ _ _ _ _ _ h)
        repeat' (first | with_reducible assumption | ((with_reducible show mm_rv _ _ _ _ _); first | exact True.intro | exact mm_i1) | with_reducible exact mm_i1 | ((with_reducible show mm_bool _ _); first | exact True.intro | exact Or.inl rfl | exact Or.inr rfl | (show (_ : Int) = 0 ∨ _ = 1)) | refine And.intro ?_ ?_ | intro _ | with_reducible exact True.intro | exact rfl | with_reducible exact Or.inl rfl | with_reducible exact Or.inr rfl | exact Nat.le_of_ble_eq_true rfl)
        all_goals (try simp (disch := omega) only [InI, Int.toNat_natCast, Int.tmod_eq_emod_of_nonneg, Int.tdiv_eq_ediv_of_nonneg, true_implies, true_or, or_true, mm_l18, mm_l19, mm_l20, mm_l21, mm_l22] at *)
        all_goals first | omega | exact st _ (by assumption) | skip
      have hA1 := (ha.s h1).1
      have st : ∀ M2 r1, fr [5, 6] M1 M2 ∧ (0 ≤ r1 ∧ r1 ≤ 10) ∧ C_odd M1 M2 0 r1 → K 150 [some (mm_R 1), some (mm_L s), none, some (mm_L D), none, x5] [mm_I r1, mm_L D] M2 d 0 := fun M2 r1 h => k150 M2 r1 (h1.tr h.1) ⟨by
        have h5 := h.2.2.2.1
        obtain ⟨f2, f3, f4⟩ := frA h1
        unfold al at h5
        rw [f2, f3, f4] at h5
        exact h5, h.2.1⟩
      clear k150 k160 k173 hq hD
      refine mm_run_at (stop := [150]) (S := K) kkX3_digestOfTown 90 ?_ (fun _ _ _ _ _ _ _ h => hK _ _ _ _ _ _ h)
      repeat' (first | with_reducible assumption | ((with_reducible show mm_rv _ _ _ _ _); first | exact True.intro | exact mm_i1) | with_reducible exact mm_i1 | ((with_reducible show mm_bool _ _); first | exact True.intro | exact Or.inl rfl | exact Or.inr rfl | (show (_ : Int) = 0 ∨ _ = 1)) | refine And.intro ?_ ?_ | intro _ | with_reducible exact True.intro | exact rfl | with_reducible exact Or.inl rfl | with_reducible exact Or.inr rfl | exact Nat.le_of_ble_eq_true rfl)
      all_goals (try simp (disch := omega) only [InI, Int.toNat_natCast, Int.tmod_eq_emod_of_nonneg, Int.tdiv_eq_ediv_of_nonneg, true_implies, true_or, or_true, mm_l18, mm_l19, mm_l20, mm_l21, mm_l22] at *)
      all_goals first | omega | exact st _ _ (by assumption) | skip
    have k64 : ∀ x5, rr_X3_digestOfTown Q 64 [some (mm_R 1), some (mm_L s), none, some (mm_L (dgF M (s * 31 + M 2 4) n)), none, x5] [] M d 0 := by
      intro x5
      have k67 := lp2_X3_digestOfTown (d := d) (Q := Q) (s0 := s) (s1 := dgF M (s * 31 + M 2 4) n) ha (fun M1 x5 h => by rw [← hD]; exact k145 M1 x5 h) 10 0 M (by omega) .rf
      clear k145 hq hD
      obtain ⟨K, hK, hK2⟩ : ∃ K : Nat → mm_K, (∀ t ls st M d u, K t ls st M d u → rr_X3_digestOfTown Q t ls st M d u) ∧ (∀ t ls st M d u, rr_X3_digestOfTown Q t ls st M d u → K t ls st M d u) := ⟨rr_X3_digestOfTown Q, fun _ _ _ _ _ _ h => h, fun _ _ _ _ _ _ h => h⟩
      have k67 := hK2 _ _ _ _ _ _ k67
      refine mm_run_at (stop := [67]) (S := K) kkX3_digestOfTown 90 ?_ (fun _ _ _ _ _ _ _ h => hK _ _ _ _ _ _ h)
      repeat' (first | with_reducible assumption | ((with_reducible show mm_rv _ _ _ _ _); first | exact True.intro) | ((with_reducible show mm_bool _ _); first | exact True.intro | exact Or.inl rfl | exact Or.inr rfl | (show (_ : Int) = 0 ∨ _ = 1)) | refine And.intro ?_ ?_ | intro _ | with_reducible exact True.intro | exact rfl | with_reducible exact Or.inl rfl | with_reducible exact Or.inr rfl | exact Nat.le_of_ble_eq_true rfl)
      all_goals (try simp (disch := omega) only [InI, Int.toNat_natCast, Int.tmod_eq_emod_of_nonneg, Int.tdiv_eq_ediv_of_nonneg, true_implies, true_or, or_true, mm_l18, mm_l19, mm_l20, mm_l21, mm_l22] at *)
      all_goals first | omega | exact k67 | skip
    have k16 := lp_X3_digestOfTown (d := d) (Q := Q) (s0 := s) (s1 := s * 31 + M 2 4) ha hn k64 n 0 (by omega)
    have k16 : rr_X3_digestOfTown Q 16 [some (mm_R 1), some (mm_L s), none, some (mm_L (s * 31 + mm_w (M 2 4))), none, some (mm_I 0)] [] M d 0 := by
      rw [mw_id (x := M 2 4) ⟨by omega, by omega⟩]
      exact k16
    clear k64 k145 hq hD
    obtain ⟨K, hK, hK2⟩ : ∃ K : Nat → mm_K, (∀ t ls st M d u, K t ls st M d u → rr_X3_digestOfTown Q t ls st M d u) ∧ (∀ t ls st M d u, rr_X3_digestOfTown Q t ls st M d u → K t ls st M d u) := ⟨rr_X3_digestOfTown Q, fun _ _ _ _ _ _ h => h, fun _ _ _ _ _ _ h => h⟩
    refine ⟨Nat.le_of_ble_eq_true rfl, mm_run_at (stop := [16]) (S := K) kkX3_digestOfTown 90 ?_ (fun _ _ _ _ _ _ _ h => hK _ _ _ _ _ _ h)⟩
    have k16 := hK2 _ _ _ _ _ _ k16
    repeat' (first | with_reducible assumption | ((with_reducible show mm_rv _ _ _ _ _); first | exact True.intro | exact mm_i1 | exact mm_i2) | with_reducible exact mm_i1 | with_reducible exact mm_i2 | ((with_reducible show mm_bool _ _); first | exact True.intro | exact Or.inl rfl | exact Or.inr rfl | (show (_ : Int) = 0 ∨ _ = 1)) | refine And.intro ?_ ?_ | intro _ | with_reducible exact True.intro | exact rfl | with_reducible exact Or.inl rfl | with_reducible exact Or.inr rfl | exact Nat.le_of_ble_eq_true rfl)
    all_goals (try simp (disch := omega) only [InI, Int.toNat_natCast, Int.tmod_eq_emod_of_nonneg, Int.tdiv_eq_ediv_of_nonneg, true_implies, true_or, or_true, mm_l18, mm_l19, mm_l20, mm_l21, mm_l22] at *)
    all_goals first | omega | exact k16 | skip
  · exact h.elim
theorem me_X3_digestOfTown {l : Launch} (hl : l.stackTraces = false) : mm_Met l yX3_digestOfTown cX3_digestOfTown 6 (some .long) [] 12 228 0 sp_X3_digestOfTown := mm_mt hl rn_X3_digestOfTown ⟨plX3, rfl⟩ kkX3_digestOfTown rfl ⟨Nat.le_of_ble_eq_true rfl, Nat.le_of_ble_eq_true rfl⟩ flkX3 (fun _ h => nomatch h) (⟨mm_pe (me_X1_size hl) mwX1_size (mm_t1 131 rfl rfl) (Nat.le_of_ble_eq_true rfl) (Nat.le_of_ble_eq_true rfl), mm_pe (me_X3_mixed hl) mwX3_mixed (mm_t2 185 rfl rfl) (Nat.le_of_ble_eq_true rfl) (Nat.le_of_ble_eq_true rfl), mm_pe (me_X1_fromOf hl) mwX1_fromOf (mm_t2 189 rfl rfl) (Nat.le_of_ble_eq_true rfl) (Nat.le_of_ble_eq_true rfl), mm_pe (me_X1_toOf hl) mwX1_toOf (mm_t2 190 rfl rfl) (Nat.le_of_ble_eq_true rfl) (Nat.le_of_ble_eq_true rfl), mm_pe (me_X1_outOf hl) mwX1_outOf (mm_t2 191 rfl rfl) (Nat.le_of_ble_eq_true rfl) (Nat.le_of_ble_eq_true rfl), mm_pe (me_X1_inOf hl) mwX1_inOf (mm_t2 195 rfl rfl) (Nat.le_of_ble_eq_true rfl) (Nat.le_of_ble_eq_true rfl), mm_pe (me_X1_allStreets hl) mwX1_allStreets (mm_t1 220 rfl rfl) (Nat.le_of_ble_eq_true rfl) (Nat.le_of_ble_eq_true rfl), mm_pe (me_X1_isStartOf hl) mwX1_isStartOf (mm_t2 199 rfl rfl) (Nat.le_of_ble_eq_true rfl) (Nat.le_of_ble_eq_true rfl), mm_pe (me_X3_numberOf hl) mwX3_numberOf (mm_t2 200 rfl rfl) (Nat.le_of_ble_eq_true rfl) (Nat.le_of_ble_eq_true rfl), mm_pe (me_X3_odd hl) mwX3_odd (mm_t2 19 rfl rfl) (Nat.le_of_ble_eq_true rfl) (Nat.le_of_ble_eq_true rfl), mm_pe (me_X3_hangs hl) mwX3_hangs (mm_t2 18 rfl rfl) (Nat.le_of_ble_eq_true rfl) (Nat.le_of_ble_eq_true rfl), mm_pe (me_X3_kind hl) mwX3_kind (mm_t2 111 rfl rfl) (Nat.le_of_ble_eq_true rfl) (Nat.le_of_ble_eq_true rfl), mm_pe (me_X1_signCount hl) mwX1_signCount (mm_t2 203 rfl rfl) (Nat.le_of_ble_eq_true rfl) (Nat.le_of_ble_eq_true rfl), mm_pe (me_X1_wordSize hl) mwX1_wordSize (mm_t2 204 rfl rfl) (Nat.le_of_ble_eq_true rfl) (Nat.le_of_ble_eq_true rfl), mm_pe (me_X1_isOneWay hl) mwX1_isOneWay (mm_t1 171 rfl rfl) (Nat.le_of_ble_eq_true rfl) (Nat.le_of_ble_eq_true rfl), trivial⟩) (mm_xe0 _) n9X3
def sp_X3_digestOfWalk : mm_S := fun av M d Q => match av with
  | [.inr (.inr (.inl o)), .inr (.inl s), .inl a] =>  o = 1 ∧ wA M ∧ (0 ≤ a ∧ a < 3) ∧ (∀ t, tuR M (wk a) (wk ((a + 1) % 3)) t → Q (.inl (some (mm_L (dgW M s (wk a) t)))) M d)
  | _ => False
def ct_X3_digestOfWalk : List (Nat × mm_Ca) := [(145, (0, 2, 10, sp_X3_walkOf, 1)), (149, (0, 1, 12, sp_X2_size, 0)), (320, (1, 2, 0, sp_X3_mixed, 0)), (175, (0, 1, 12, sp_X2_firstCorner, 0)), (366, (0, 1, 12, sp_X2_lastCorner, 0)), (227, (0, 2, 12, sp_X2_stepOf, 0)), (218, (0, 1, 12, sp_X2_isWhole, 0)), (327, (1, 1, 0, sp_X3_numberOf, 0)), (234, (0, 2, 12, sp_X2_turnTo, 0))]
abbrev rr_X3_digestOfWalk (Q : mm_Q) := mm_run (mm_look flX3) (mm_look ct_X3_digestOfWalk) mm_x0 (mm_look ([] : List (Nat × Int))) (fun _ => none) 3 2 (fun _ _ => none) Q kdX3_digestOfWalk
set_option maxRecDepth 20000 in
theorem lp_X3_digestOfWalk {M : mm_M} {d : List Nat} {Q : mm_Q} {s0 s1 a : Int} {w v n : Nat} (ha : wA M) (hw : isW3 w) (hn : M w 2 = n) (hq : ∀ x8, rr_X3_digestOfWalk Q 99 [some (mm_R 1), some (mm_L s0), none, some (mm_I a), some (mm_R w), some (mm_R v), some (mm_L (dgS M w s1 n)), none, x8] [] M d 2) : ∀ (k i : Nat), i + k = n → rr_X3_digestOfWalk Q 68 [some (mm_R 1), some (mm_L s0), none, some (mm_I a), some (mm_R w), some (mm_R v), some (mm_L (dgS M w s1 i)), none, some (mm_I i)] [] M d 2 := by
  have hkw := hw.k
  have hs := wk_is hkw M d
  have vw := (ha.2.1 w hw).1
  have v1 := vw.1
  have ht := ha.1
  intro k
  induction k with
  | zero =>
    intro i hi
    have e : i = n := by omega
    subst e
    obtain ⟨K, hK, hK2⟩ : ∃ K : Nat → mm_K, (∀ t ls st M d u, K t ls st M d u → rr_X3_digestOfWalk Q t ls st M d u) ∧ (∀ t ls st M d u, rr_X3_digestOfWalk Q t ls st M d u → K t ls st M d u) := ⟨rr_X3_digestOfWalk Q, fun _ _ _ _ _ _ h => h, fun _ _ _ _ _ _ h => h⟩
    have h9 := fun x8 => hK2 _ _ _ _ _ _ (hq x8)
    clear hq
    refine mm_run_at (stop := [78, 99]) (S := K) kkX3_digestOfWalk 90 ?_ (fun _ _ _ _ _ _ _ h => hK _ _ _ _ _ _ h)
    repeat' (first | with_reducible assumption | ((with_reducible show mm_rv _ _ _ _ _); first | exact True.intro | exact hs) | with_reducible exact hs | ((with_reducible show mm_bool _ _); first | exact True.intro | exact Or.inl rfl | exact Or.inr rfl | (show (_ : Int) = 0 ∨ _ = 1)) | refine And.intro ?_ ?_ | intro _ | with_reducible exact True.intro | exact rfl | with_reducible exact Or.inl rfl | with_reducible exact Or.inr rfl | exact Nat.le_of_ble_eq_true rfl)
    all_goals (try simp (disch := omega) only [InI, Int.toNat_natCast, Int.tmod_eq_emod_of_nonneg, Int.tdiv_eq_ediv_of_nonneg, true_implies, true_or, or_true, mm_l18, mm_l19, mm_l20, mm_l21, mm_l22] at *)
    all_goals first | omega | exact h9 _ | skip
  | succ k ih =>
    intro i hi
    obtain ⟨K, hK, hK2⟩ : ∃ K : Nat → mm_K, (∀ t ls st M d u, K t ls st M d u → rr_X3_digestOfWalk Q t ls st M d u) ∧ (∀ t ls st M d u, rr_X3_digestOfWalk Q t ls st M d u → K t ls st M d u) := ⟨rr_X3_digestOfWalk Q, fun _ _ _ _ _ _ h => h, fun _ _ _ _ _ _ h => h⟩
    have st : ∀ r, r = stp M w i ∧ -1 ≤ r ∧ r < 2 * M 2 4 → K 68 [some (mm_R 1), some (mm_L s0), none, some (mm_I a), some (mm_R w), some (mm_R v), some (mm_L (dgS M w s1 i * 31 + mm_w r)), none, some (mm_I ((i : Int) + 1))] [] M d 2 := fun r h => by
      have h3 := hK2 _ _ _ _ _ _ (ih (i + 1) (by omega))
      have h4 : r = M (w + 1) i := by
        rw [h.1]
        unfold stp
        rw [if_pos (by omega), Int.toNat_natCast]
      have t1 := ht.1
      rw [mw_id (x := r) ⟨by omega, by omega⟩, h4]
      exact h3
    clear ih hq
    refine mm_run_at (stop := [68, 99]) (S := K) kkX3_digestOfWalk 90 ?_ (fun _ _ _ _ _ _ _ h => hK _ _ _ _ _ _ h)
    repeat' (first | with_reducible assumption | ((with_reducible show mm_rv _ _ _ _ _); first | exact True.intro | exact hs) | with_reducible exact hs | ((with_reducible show mm_bool _ _); first | exact True.intro | exact Or.inl rfl | exact Or.inr rfl | (show (_ : Int) = 0 ∨ _ = 1)) | refine And.intro ?_ ?_ | intro _ | with_reducible exact True.intro | exact rfl | with_reducible exact Or.inl rfl | with_reducible exact Or.inr rfl | exact Nat.le_of_ble_eq_true rfl)
    all_goals (try simp (disch := omega) only [InI, Int.toNat_natCast, Int.tmod_eq_emod_of_nonneg, Int.tdiv_eq_ediv_of_nonneg, true_implies, true_or, or_true, mm_l18, mm_l19, mm_l20, mm_l21, mm_l22] at *)
    all_goals first | omega | exact st _ (by assumption) | skip
set_option maxRecDepth 20000 in
theorem rn_X3_digestOfWalk : mm_RN flX3 ct_X3_digestOfWalk mm_x0 [] 3 2 9 kdX3_digestOfWalk sp_X3_digestOfWalk := by
  intro av M d Q h
  unfold sp_X3_digestOfWalk at h
  split at h
  · rename_i o s a
    obtain ⟨rfl, ha, h1, hq⟩ := h
    have ht := ha.1
    have k27 : ∀ w v : Nat, w = wk a → v = wk ((a + 1) % 3) → isW3 w → isW3 v → rr_X3_digestOfWalk Q 27 [some (mm_R 1), some (mm_L s), none, some (mm_I a), some (mm_R w), some (mm_R v), none, none, none] [] M d 2 := by
      intro w v ew ev hw hv
      have hkw := hw.k
      have hkv := hv.k
      have hsw := wk_is hkw M d
      have hsv := wk_is hkv M d
      have vw := (ha.2.1 w hw).1
      have vv := (ha.2.1 v hv).1
      have v1 := vw.1
      have v2 := vw.2.1
      obtain ⟨n, hn⟩ := Int.eq_ofNat_of_zero_le v1.1
      have hn2 : (M w 2).toNat = n := by omega
      obtain ⟨s1, hs1⟩ : ∃ s1, s1 = ((s * 31 + M w 2) * 31 + M w 3) * 31 + cor M w (M w 2) := ⟨_, rfl⟩
      have k99 : ∀ x8, rr_X3_digestOfWalk Q 99 [some (mm_R 1), some (mm_L s), none, some (mm_I a), some (mm_R w), some (mm_R v), some (mm_L (dgS M w s1 n)), none, x8] [] M d 2 := by
        intro x8
        have fin : ∀ r, ((M w 2 = M 2 4 → r = 1) ∧ (M w 2 ≠ M 2 4 → r = 0)) → ∀ t, ((-1 ≤ t ∧ t ≤ 30) ∧ tuR M w v t) → Q (.inl (some (mm_L ((dgS M w s1 n * 31 + mm_w r) * 31 + mm_w t)))) M d := fun r hr t ht2 => by
          have h3 := hq t (by rw [← ew, ← ev]; exact ht2.2)
          have e9 : (dgS M w s1 n * 31 + mm_w r) * 31 + mm_w t = dgW M s (wk a) t := by
            rw [mw_ind hr, mw_id (x := t) ⟨by omega, by omega⟩, ← ew, hs1, ← hn2]
            first | done | rfl
          rw [e9]
          exact h3
        clear hq hs1 ew ev
        obtain ⟨K, hK, hK2⟩ : ∃ K : Nat → mm_K, (∀ t ls st M d u, K t ls st M d u → rr_X3_digestOfWalk Q t ls st M d u) ∧ (∀ t ls st M d u, rr_X3_digestOfWalk Q t ls st M d u → K t ls st M d u) := ⟨rr_X3_digestOfWalk Q, fun _ _ _ _ _ _ h => h, fun _ _ _ _ _ _ h => h⟩
        refine mm_run_at (stop := []) (S := K) kkX3_digestOfWalk 90 ?_ (fun _ _ _ _ _ _ _ h => hK _ _ _ _ _ _ h)
        repeat' (first | with_reducible assumption | ((with_reducible show mm_rv _ _ _ _ _); first | exact True.intro | exact hsw | exact hsv) | with_reducible exact hsw | with_reducible exact hsv | ((with_reducible show mm_bool _ _); first | exact True.intro | exact Or.inl rfl | exact Or.inr rfl | (show (_ : Int) = 0 ∨ _ = 1)) | refine And.intro ?_ ?_ | intro _ | with_reducible exact True.intro | exact rfl | with_reducible exact Or.inl rfl | with_reducible exact Or.inr rfl | exact Nat.le_of_ble_eq_true rfl)
        all_goals (try simp (disch := omega) only [InI, Int.toNat_natCast, Int.tmod_eq_emod_of_nonneg, Int.tdiv_eq_ediv_of_nonneg, true_implies, true_or, or_true, mm_l18, mm_l19, mm_l20, mm_l21, mm_l22] at *)
        all_goals first | omega | exact in01 (by assumption) | exact fin _ (by assumption) _ (by assumption) | skip
      have k68 := lp_X3_digestOfWalk (d := d) (Q := Q) (s0 := s) (a := a) (v := v) (s1 := s1) ha hw hn k99 n 0 (by omega)
      have k68 : ∀ r, (r = cor M w (M w 2) ∧ 0 ≤ r ∧ r < 10) → rr_X3_digestOfWalk Q 68 [some (mm_R 1), some (mm_L s), none, some (mm_I a), some (mm_R w), some (mm_R v), some (mm_L (((s * 31 + mm_w (M w 2)) * 31 + mm_w (M w 3)) * 31 + mm_w r)), none, some (mm_I 0)] [] M d 2 := fun r hr => by
        rw [mw_id (x := M w 2) ⟨by omega, by omega⟩, mw_id (x := M w 3) ⟨by omega, by omega⟩, mw_id (x := r) ⟨by omega, by omega⟩, hr.1, ← hs1]
        exact k68
      clear hq hs1 ew ev k99
      obtain ⟨K, hK, hK2⟩ : ∃ K : Nat → mm_K, (∀ t ls st M d u, K t ls st M d u → rr_X3_digestOfWalk Q t ls st M d u) ∧ (∀ t ls st M d u, rr_X3_digestOfWalk Q t ls st M d u → K t ls st M d u) := ⟨rr_X3_digestOfWalk Q, fun _ _ _ _ _ _ h => h, fun _ _ _ _ _ _ h => h⟩
      have k68 := fun r hr => hK2 _ _ _ _ _ _ (k68 r hr)
      refine mm_run_at (stop := [68]) (S := K) kkX3_digestOfWalk 90 ?_ (fun _ _ _ _ _ _ _ h => hK _ _ _ _ _ _ h)
      repeat' (first | with_reducible assumption | ((with_reducible show mm_rv _ _ _ _ _); first | exact True.intro | exact hsw) | with_reducible exact hsw | ((with_reducible show mm_bool _ _); first | exact True.intro | exact Or.inl rfl | exact Or.inr rfl | (show (_ : Int) = 0 ∨ _ = 1)) | refine And.intro ?_ ?_ | intro _ | with_reducible exact True.intro | exact rfl | with_reducible exact Or.inl rfl | with_reducible exact Or.inr rfl | exact Nat.le_of_ble_eq_true rfl)
      all_goals (try simp (disch := omega) only [InI, Int.toNat_natCast, Int.tmod_eq_emod_of_nonneg, Int.tdiv_eq_ediv_of_nonneg, true_implies, true_or, or_true, mm_l18, mm_l19, mm_l20, mm_l21, mm_l22] at *)
      all_goals first | omega | exact k68 _ (by assumption) | skip
    clear hq
    obtain ⟨K, hK, hK2⟩ : ∃ K : Nat → mm_K, (∀ t ls st M d u, K t ls st M d u → rr_X3_digestOfWalk Q t ls st M d u) ∧ (∀ t ls st M d u, rr_X3_digestOfWalk Q t ls st M d u → K t ls st M d u) := ⟨rr_X3_digestOfWalk Q, fun _ _ _ _ _ _ h => h, fun _ _ _ _ _ _ h => h⟩
    refine ⟨Nat.le_of_ble_eq_true rfl, mm_run_at (stop := [27]) (S := K) kkX3_digestOfWalk 90 ?_ (fun _ _ _ _ _ _ _ h => hK _ _ _ _ _ _ h)⟩
    have k27 := fun w v b1 b2 b3 b4 => hK2 _ _ _ _ _ _ (k27 w v b1 b2 b3 b4)
    repeat' (first | with_reducible assumption | ((with_reducible show mm_rv _ _ _ _ _); first | exact True.intro | exact mm_i1) | with_reducible exact mm_i1 | ((with_reducible show mm_bool _ _); first | exact True.intro | exact Or.inl rfl | exact Or.inr rfl | (show (_ : Int) = 0 ∨ _ = 1)) | refine And.intro ?_ ?_ | intro _ | with_reducible exact True.intro | exact rfl | with_reducible exact Or.inl rfl | with_reducible exact Or.inr rfl | exact Nat.le_of_ble_eq_true rfl)
    all_goals (try simp (disch := omega) only [InI, Int.toNat_natCast, Int.tmod_eq_emod_of_nonneg, Int.tdiv_eq_ediv_of_nonneg, true_implies, true_or, or_true, mm_l18, mm_l19, mm_l20, mm_l21, mm_l22] at *)
    all_goals first | omega | exact k27 _ _ (by unfold wk; omega) (by unfold wk; omega) (by assumption) (by assumption) | skip
  · exact h.elim
theorem me_X3_digestOfWalk {l : Launch} (hl : l.stackTraces = false) : mm_Met l yX3_digestOfWalk cX3_digestOfWalk 9 (some .long) [] 11 209 2 sp_X3_digestOfWalk := mm_mt hl rn_X3_digestOfWalk ⟨plX3, rfl⟩ kkX3_digestOfWalk rfl ⟨Nat.le_of_ble_eq_true rfl, Nat.le_of_ble_eq_true rfl⟩ flkX3 (fun _ h => nomatch h) (⟨mm_pe (me_X3_walkOf hl) mwX3_walkOf (mm_t2 209 rfl rfl) (Nat.le_of_ble_eq_true rfl) (Nat.le_of_ble_eq_true rfl), mm_pe (me_X2_size hl) mwX2_size (mm_t3 40 rfl rfl) (Nat.le_of_ble_eq_true rfl) (Nat.le_of_ble_eq_true rfl), mm_pe (me_X3_mixed hl) mwX3_mixed (mm_t2 185 rfl rfl) (Nat.le_of_ble_eq_true rfl) (Nat.le_of_ble_eq_true rfl), mm_pe (me_X2_firstCorner hl) mwX2_firstCorner (mm_t3 41 rfl rfl) (Nat.le_of_ble_eq_true rfl) (Nat.le_of_ble_eq_true rfl), mm_pe (me_X2_lastCorner hl) mwX2_lastCorner (mm_t3 45 rfl rfl) (Nat.le_of_ble_eq_true rfl) (Nat.le_of_ble_eq_true rfl), mm_pe (me_X2_stepOf hl) mwX2_stepOf (mm_t3 46 rfl rfl) (Nat.le_of_ble_eq_true rfl) (Nat.le_of_ble_eq_true rfl), mm_pe (me_X2_isWhole hl) mwX2_isWhole (mm_t2 138 rfl rfl) (Nat.le_of_ble_eq_true rfl) (Nat.le_of_ble_eq_true rfl), mm_pe (me_X3_numberOf hl) mwX3_numberOf (mm_t2 200 rfl rfl) (Nat.le_of_ble_eq_true rfl) (Nat.le_of_ble_eq_true rfl), mm_pe (me_X2_turnTo hl) mwX2_turnTo (mm_t3 47 rfl rfl) (Nat.le_of_ble_eq_true rfl) (Nat.le_of_ble_eq_true rfl), trivial⟩) (mm_xe0 _) n9X3
def sp_X3_digest : mm_S := fun av M d Q => match av with
  | [.inr (.inr (.inl o))] =>  o = 1 ∧ wA M ∧ (∀ M' r, qP M M' ∧ (WI M → dgR M r) → Q (.inl (some (mm_L r))) M' d)
  | _ => False
def ct_X3_digest : List (Nat × mm_Ca) := [(309, (0, 2, 10, sp_X3_digestOfTown, 0)), (313, (0, 3, 10, sp_X3_digestOfWalk, 2)), (317, (0, 2, 10, sp_X3_cursorPlace, 0)), (320, (1, 2, 0, sp_X3_mixed, 0)), (324, (0, 2, 10, sp_X3_cursorCan, 0)), (327, (1, 1, 0, sp_X3_numberOf, 0)), (330, (0, 1, 10, sp_X3_isSound, 0))]
abbrev rr_X3_digest (Q : mm_Q) := mm_run (mm_look flX3) (mm_look ct_X3_digest) mm_x0 (mm_look ([(307, 7692)] : List (Nat × Int))) (fun _ => none) 3 6 (fun _ _ => none) Q kdX3_digest
set_option maxRecDepth 20000 in
theorem st_X3_digest {M : mm_M} {d : List Nat} {Q : mm_Q} {i S : Int} {u w v : Nat} (ha : wA M) (hi : 0 ≤ i ∧ i < 3) (hu : u + 2 ≤ 6) (ew : wk i = w) (ev : wk ((i + 1) % 3) = v) (h : ∀ t, tuR M w v t → rr_X3_digest Q 10 [some (mm_R 1), some (mm_L (dgW M S w t)), none, some (mm_I (i + 1))] [] M d (u + 2)) : rr_X3_digest Q 10 [some (mm_R 1), some (mm_L S), none, some (mm_I i)] [] M d u := by
  subst ew ev
  obtain ⟨K, hK, hK2⟩ : ∃ K : Nat → mm_K, (∀ t ls st M d u, K t ls st M d u → rr_X3_digest Q t ls st M d u) ∧ (∀ t ls st M d u, rr_X3_digest Q t ls st M d u → K t ls st M d u) := ⟨rr_X3_digest Q, fun _ _ _ _ _ _ h => h, fun _ _ _ _ _ _ h => h⟩
  have h := fun t ht => hK2 _ _ _ _ _ _ (h t ht)
  refine mm_run_at (stop := [10, 32]) (S := K) kkX3_digest 90 ?_ (fun _ _ _ _ _ _ _ h => hK _ _ _ _ _ _ h)
  repeat' (first | with_reducible assumption | ((with_reducible show mm_rv _ _ _ _ _); first | exact True.intro | exact mm_i1 | exact Or.inr mm_i7) | with_reducible exact mm_i1 | with_reducible exact Or.inr mm_i7 | ((with_reducible show mm_bool _ _); first | exact True.intro | exact Or.inl rfl | exact Or.inr rfl | (show (_ : Int) = 0 ∨ _ = 1)) | refine And.intro ?_ ?_ | intro _ | with_reducible exact True.intro | exact rfl | with_reducible exact Or.inl rfl | with_reducible exact Or.inr rfl | exact Nat.le_of_ble_eq_true rfl)
  all_goals (try simp (disch := omega) only [mm_l7, InI, Int.toNat_natCast, Int.tmod_eq_emod_of_nonneg, Int.tdiv_eq_ediv_of_nonneg, true_implies, true_or, or_true, mm_l18, mm_l19, mm_l20, mm_l21, mm_l22] at *)
  all_goals first | omega | exact h _ (by assumption) | skip
set_option maxRecDepth 20000 in
theorem rn_X3_digest : mm_RN flX3 ct_X3_digest mm_x0 [(307, 7692)] 3 6 4 kdX3_digest sp_X3_digest := by
  intro av M d Q h
  unfold sp_X3_digest at h
  split at h
  · rename_i o
    obtain ⟨rfl, ha, hq⟩ := h
    have k10 : ∀ M1 S, fr [5, 6] M M1 → (∀ r sd, sndR M1 sd → r = dgE M1 S sd → dgR M r) → rr_X3_digest Q 10 [some (mm_R 1), some (mm_L S), none, some (mm_I (0 + 1 + 1 + 1))] [] M1 d (0 + 2 + 2 + 2) := by
      intro M1 S f1 hS
      have hP1 := ha.sq f1
      have ha1 := hP1.1
      have hwi : WI M → WI M1 := WI_2' (f1 2 (by simp))
      obtain ⟨x1, hx1⟩ : ∃ x, x = (S * 31 + paF M1 1) * 31 + paF M1 0 := ⟨_, rfl⟩
      obtain ⟨x2, hx2⟩ : ∃ x, x = (x1 * 31 + ind1 (hsP M1 1)) * 31 + ind1 (hsP M1 0) := ⟨_, rfl⟩
      obtain ⟨x3, hx3⟩ : ∃ x, x = ((x2 * 31 + mm_w (M1 1 4)) * 31 + mm_w (M1 1 5)) * 31 + mm_w (M1 1 6) := ⟨_, rfl⟩
      have fin : ∀ M2 r5, ((qP M1 M2 ∧ (r5 = 0 ∨ r5 = 1)) ∧ (WI M1 → sndR M1 r5)) → Q (.inl (some (mm_L (x3 * 31 + mm_w r5)))) M2 d := fun M2 r5 g5 => hq M2 _ ⟨hP1.tr g5.1.1, fun hI => hS _ r5 (g5.2 (hwi hI)) (by
        rw [mw_01 g5.1.2, hx3, hx2, hx1]
        first | done | rfl)⟩
      clear hq hS hwi hP1 f1
      obtain ⟨K, hK, hK2⟩ : ∃ K : Nat → mm_K, (∀ t ls st M d u, K t ls st M d u → rr_X3_digest Q t ls st M d u) ∧ (∀ t ls st M d u, rr_X3_digest Q t ls st M d u → K t ls st M d u) := ⟨rr_X3_digest Q, fun _ _ _ _ _ _ h => h, fun _ _ _ _ _ _ h => h⟩
      have k112 : K 112 [some (mm_R 1), some (mm_L x3), none, some (mm_I (0 + 1 + 1 + 1))] [] M1 d (0 + 2 + 2 + 2) := by
        clear hx1 hx2 hx3
        refine hK2 _ _ _ _ _ _ ?_
        refine mm_run_at (stop := []) (S := K) kkX3_digest 90 ?_ (fun _ _ _ _ _ _ _ h => hK _ _ _ _ _ _ h)
        repeat' (first | with_reducible assumption | ((with_reducible show mm_rv _ _ _ _ _); first | exact True.intro | exact mm_i1) | with_reducible exact mm_i1 | ((with_reducible show mm_bool _ _); first | exact True.intro | exact Or.inl rfl | exact Or.inr rfl | (show (_ : Int) = 0 ∨ _ = 1)) | refine And.intro ?_ ?_ | intro _ | with_reducible exact True.intro | exact rfl | with_reducible exact Or.inl rfl | with_reducible exact Or.inr rfl | exact Nat.le_of_ble_eq_true rfl)
        all_goals (try simp (disch := omega) only [InI, Int.toNat_natCast, Int.tmod_eq_emod_of_nonneg, Int.tdiv_eq_ediv_of_nonneg, true_implies, true_or, or_true, mm_l18, mm_l19, mm_l20, mm_l21, mm_l22] at *)
        all_goals first | omega | exact fin _ _ (by assumption) | skip
      clear fin
      have k82 : K 82 [some (mm_R 1), some (mm_L x2), none, some (mm_I (0 + 1 + 1 + 1))] [] M1 d (0 + 2 + 2 + 2) := by
        rw [hx3] at k112
        clear hx1 hx2 hx3
        refine hK2 _ _ _ _ _ _ ?_
        refine mm_run_at (stop := [112]) (S := K) kkX3_digest 90 ?_ (fun _ _ _ _ _ _ _ h => hK _ _ _ _ _ _ h)
        repeat' (first | with_reducible assumption | ((with_reducible show mm_rv _ _ _ _ _); first | exact True.intro | exact mm_i1) | with_reducible exact mm_i1 | ((with_reducible show mm_bool _ _); first | exact True.intro | exact Or.inl rfl | exact Or.inr rfl | (show (_ : Int) = 0 ∨ _ = 1)) | refine And.intro ?_ ?_ | intro _ | with_reducible exact True.intro | exact rfl | with_reducible exact Or.inl rfl | with_reducible exact Or.inr rfl | exact Nat.le_of_ble_eq_true rfl)
        all_goals (try simp (disch := omega) only [InI, Int.toNat_natCast, Int.tmod_eq_emod_of_nonneg, Int.tdiv_eq_ediv_of_nonneg, true_implies, true_or, or_true, mm_l18, mm_l19, mm_l20, mm_l21, mm_l22] at *)
        all_goals first | omega | exact k112 | skip
      clear k112
      have k54 : K 54 [some (mm_R 1), some (mm_L x1), none, some (mm_I (0 + 1 + 1 + 1))] [] M1 d (0 + 2 + 2 + 2) := by
        have st : ∀ r3 r4, ((r3 = 0 ∨ r3 = 1) ∧ C_cursorCan 1 M1 M1 0 r3) → ((r4 = 0 ∨ r4 = 1) ∧ C_cursorCan 0 M1 M1 0 r4) → K 82 [some (mm_R 1), some (mm_L ((x1 * 31 + mm_w r3) * 31 + mm_w r4)), none, some (mm_I (0 + 1 + 1 + 1))] [] M1 d (0 + 2 + 2 + 2) := fun r3 r4 g3 g4 => by
          rw [mw_b01 g3.2.2.1, mw_b01 g4.2.2.1, ← hx2]
          exact k82
        clear k82 hx1 hx2 hx3
        refine hK2 _ _ _ _ _ _ ?_
        refine mm_run_at (stop := [82]) (S := K) kkX3_digest 90 ?_ (fun _ _ _ _ _ _ _ h => hK _ _ _ _ _ _ h)
        repeat' (first | with_reducible assumption | ((with_reducible show mm_rv _ _ _ _ _); first | exact True.intro | exact mm_i1) | with_reducible exact mm_i1 | ((with_reducible show mm_bool _ _); first | exact True.intro | exact Or.inl rfl | exact Or.inr rfl | (show (_ : Int) = 0 ∨ _ = 1)) | refine And.intro ?_ ?_ | intro _ | with_reducible exact True.intro | exact rfl | with_reducible exact Or.inl rfl | with_reducible exact Or.inr rfl | exact Nat.le_of_ble_eq_true rfl)
        all_goals (try simp (disch := omega) only [InI, Int.toNat_natCast, Int.tmod_eq_emod_of_nonneg, Int.tdiv_eq_ediv_of_nonneg, true_implies, true_or, or_true, mm_l18, mm_l19, mm_l20, mm_l21, mm_l22] at *)
        all_goals first | omega | exact st _ _ (by assumption) (by assumption) | skip
      clear k82
      have k32 : K 32 [some (mm_R 1), some (mm_L S), none, some (mm_I (0 + 1 + 1 + 1))] [] M1 d (0 + 2 + 2 + 2) := by
        have st : ∀ r1 r2, (InI r1 ∧ C_cursorPlace 1 M1 M1 0 r1) → (InI r2 ∧ C_cursorPlace 0 M1 M1 0 r2) → K 54 [some (mm_R 1), some (mm_L ((S * 31 + mm_w r1) * 31 + mm_w r2)), none, some (mm_I (0 + 1 + 1 + 1))] [] M1 d (0 + 2 + 2 + 2) := fun r1 r2 g1 g2 => by
          rw [mw_id g1.1, mw_id g2.1, g1.2.2.1, g2.2.2.1, ← hx1]
          exact k54
        clear k54 hx1 hx2 hx3
        refine hK2 _ _ _ _ _ _ ?_
        refine mm_run_at (stop := [54]) (S := K) kkX3_digest 90 ?_ (fun _ _ _ _ _ _ _ h => hK _ _ _ _ _ _ h)
        repeat' (first | with_reducible assumption | ((with_reducible show mm_rv _ _ _ _ _); first | exact True.intro | exact mm_i1) | with_reducible exact mm_i1 | ((with_reducible show mm_bool _ _); first | exact True.intro | exact Or.inl rfl | exact Or.inr rfl | (show (_ : Int) = 0 ∨ _ = 1)) | refine And.intro ?_ ?_ | intro _ | with_reducible exact True.intro | exact rfl | with_reducible exact Or.inl rfl | with_reducible exact Or.inr rfl | exact Nat.le_of_ble_eq_true rfl)
        all_goals (try simp (disch := omega) only [InI, Int.toNat_natCast, Int.tmod_eq_emod_of_nonneg, Int.tdiv_eq_ediv_of_nonneg, true_implies, true_or, or_true, mm_l18, mm_l19, mm_l20, mm_l21, mm_l22] at *)
        all_goals first | omega | exact st _ _ (by assumption) (by assumption) | skip
      clear k54 hx1 hx2 hx3
      refine mm_run_at (stop := [19, 32]) (S := K) kkX3_digest 90 ?_ (fun _ _ _ _ _ _ _ h => hK _ _ _ _ _ _ h)
      repeat' (first | with_reducible assumption | ((with_reducible show mm_rv _ _ _ _ _); first | exact True.intro | exact mm_i1 | exact Or.inr mm_i7) | with_reducible exact mm_i1 | with_reducible exact Or.inr mm_i7 | ((with_reducible show mm_bool _ _); first | exact True.intro | exact Or.inl rfl | exact Or.inr rfl | (show (_ : Int) = 0 ∨ _ = 1)) | refine And.intro ?_ ?_ | intro _ | with_reducible exact True.intro | exact rfl | with_reducible exact Or.inl rfl | with_reducible exact Or.inr rfl | exact Nat.le_of_ble_eq_true rfl)
      all_goals (try simp (disch := omega) only [mm_l7, InI, Int.toNat_natCast, Int.tmod_eq_emod_of_nonneg, Int.tdiv_eq_ediv_of_nonneg, true_implies, true_or, or_true, mm_l18, mm_l19, mm_l20, mm_l21, mm_l22] at *)
      all_goals first | omega | exact k32 | skip
    have k0 : ∀ M1 r kd, fr [5, 6] M M1 → kdR (M 3) (M 4) (M 2 4).toNat (M 2 5) kd → r = dgT M 7692 kd → rr_X3_digest Q 10 [some (mm_R 1), some (mm_L r), none, some (mm_I 0)] [] M1 d 0 := fun M1 r kd f1 hk hr =>
      st_X3_digest (i := 0) (u := 0) (w := 8) (v := 10) (ha.sq f1).1 (by omega) (by omega) (by decide) (by decide) (fun t8 h8 =>
      st_X3_digest (i := 0 + 1) (u := 0 + 2) (w := 10) (v := 12) (ha.sq f1).1 (by omega) (by omega) (by decide) (by decide) (fun t10 h10 =>
      st_X3_digest (i := 0 + 1 + 1) (u := 0 + 2 + 2) (w := 12) (v := 8) (ha.sq f1).1 (by omega) (by omega) (by decide) (by decide) (fun t12 h12 =>
      k10 M1 _ f1 (fun r2 sd hs hr2 => ⟨M1, kd, t8, t10, t12, sd, f1, hk, h8, h10, h12, hs, by rw [hr2, hr]⟩))))
    clear hq k10
    obtain ⟨K, hK, hK2⟩ : ∃ K : Nat → mm_K, (∀ t ls st M d u, K t ls st M d u → rr_X3_digest Q t ls st M d u) ∧ (∀ t ls st M d u, rr_X3_digest Q t ls st M d u → K t ls st M d u) := ⟨rr_X3_digest Q, fun _ _ _ _ _ _ h => h, fun _ _ _ _ _ _ h => h⟩
    refine ⟨Nat.le_of_ble_eq_true rfl, mm_run_at (stop := [10]) (S := K) kkX3_digest 90 ?_ (fun _ _ _ _ _ _ _ h => hK _ _ _ _ _ _ h)⟩
    have k0 := fun M1 r kd b1 b2 b3 => hK2 _ _ _ _ _ _ (k0 M1 r kd b1 b2 b3)
    repeat' (first | with_reducible assumption | ((with_reducible show mm_rv _ _ _ _ _); first | exact True.intro | exact mm_i1) | with_reducible exact mm_i1 | ((with_reducible show mm_bool _ _); first | exact True.intro | exact Or.inl rfl | exact Or.inr rfl | (show (_ : Int) = 0 ∨ _ = 1)) | refine And.intro ?_ ?_ | intro _ | with_reducible exact True.intro | exact rfl | with_reducible exact Or.inl rfl | with_reducible exact Or.inr rfl | exact Nat.le_of_ble_eq_true rfl)
    all_goals (try simp (disch := omega) only [InI, Int.toNat_natCast, Int.tmod_eq_emod_of_nonneg, Int.tdiv_eq_ediv_of_nonneg, true_implies, true_or, or_true, mm_l18, mm_l19, mm_l20, mm_l21, mm_l22] at *)
    all_goals first | omega | exact k0 _ _ _ (by assumption) (by assumption) (by assumption) | skip
  · exact h.elim
theorem me_X3_digest {l : Launch} (hl : l.stackTraces = false) : mm_Met l yX3_digest cX3_digest 4 (some .long) [] 13 253 6 sp_X3_digest := mm_mt hl rn_X3_digest ⟨plX3, rfl⟩ kkX3_digest rfl ⟨Nat.le_of_ble_eq_true rfl, Nat.le_of_ble_eq_true rfl⟩ flkX3 ((by
  intro q hq
  simp only [List.mem_cons, List.not_mem_nil, or_false] at hq
  rcases hq with rfl
  · exact mm_T_U _ (mm_t2 180 rfl rfl))) (⟨mm_pe (me_X3_digestOfTown hl) mwX3_digestOfTown (mm_t2 181 rfl rfl) (Nat.le_of_ble_eq_true rfl) (Nat.le_of_ble_eq_true rfl), mm_pe (me_X3_digestOfWalk hl) mwX3_digestOfWalk (mm_t2 205 rfl rfl) (Nat.le_of_ble_eq_true rfl) (Nat.le_of_ble_eq_true rfl), mm_pe (me_X3_cursorPlace hl) mwX3_cursorPlace (mm_t3 56 rfl rfl) (Nat.le_of_ble_eq_true rfl) (Nat.le_of_ble_eq_true rfl), mm_pe (me_X3_mixed hl) mwX3_mixed (mm_t2 185 rfl rfl) (Nat.le_of_ble_eq_true rfl) (Nat.le_of_ble_eq_true rfl), mm_pe (me_X3_cursorCan hl) mwX3_cursorCan (mm_t3 57 rfl rfl) (Nat.le_of_ble_eq_true rfl) (Nat.le_of_ble_eq_true rfl), mm_pe (me_X3_numberOf hl) mwX3_numberOf (mm_t2 200 rfl rfl) (Nat.le_of_ble_eq_true rfl) (Nat.le_of_ble_eq_true rfl), mm_pe (me_X3_isSound hl) mwX3_isSound (mm_t3 58 rfl rfl) (Nat.le_of_ble_eq_true rfl) (Nat.le_of_ble_eq_true rfl), trivial⟩) (mm_xe0 _) n9X3

