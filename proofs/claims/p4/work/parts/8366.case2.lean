/-! the law: the case of words, where both sides must tell the same -/
/-- 2: L_words X5_words X5_thrown -/
def kdLc_2 : List mm_E := [(328, .aload_n 1, 0), (329, .aload_n 0, 0), (330, .iload 4, 0), (332, .iconst 1, 0), (333, .iadd, 0), (334, .iaload, 0), (335, .aload_n 0, 0), (336, .iload 4, 0), (338, .iconst 2, 0), (339, .iadd, 0), (340, .iaload, 0), (341, .aload_n 3, 0), (342, .invokestatic 149, 0), (345, .istore 5, 0), (347, .aload_n 2, 0), (348, .aload_n 0, 0), (349, .iload 4, 0), (351, .iconst 1, 0), (352, .iadd, 0), (353, .iaload, 0), (354, .aload_n 0, 0), (355, .iload 4, 0), (357, .iconst 2, 0), (358, .iadd, 0), (359, .iaload, 0), (360, .invokevirtual 151, 0), (363, .istore 6, 0), (365, .aload_n 2, 0), (366, .invokevirtual 152, 0), (369, .iload 5, 0), (371, .if_icmp .eq 5, 376), (374, .iconst 0, 0), (375, .ireturn, 0), (376, .iload 5, 0), (378, .ifCond .ne 16, 394), (381, .aload_n 3, 0), (382, .getfield 13, 0), (385, .iload 6, 0), (387, .i2l, 0), (388, .lcmp, 0), (389, .ifCond .eq 5, 394), (392, .iconst 0, 0), (393, .ireturn, 0), (394, .goto 1641, 2035)]
theorem kkLc_2 : mm_chk code kdLc_2 = true := by decide +kernel
def ctLc_2 : List (Nat × mm_Ca) := [(149, (1, 4, 0, sp_L_words, 2)), (151, (0, 3, 14, sp_X5_words, 0)), (152, (0, 1, 14, sp_X5_thrown, 0))]
theorem peLc_2 {l : Launch} (hl : l.stackTraces = false) : mm_PEs l RL (mm_rm 2048 84000 0) ctLc_2 := ⟨mm_pe (me_L_words hl) mwL_words (mm_t3 126 rfl rfl) (Nat.le_of_ble_eq_true rfl) (Nat.le_of_ble_eq_true rfl), mm_pe (me_X5_words hl) mwX5_words (mm_t6 142 rfl rfl) (Nat.le_of_ble_eq_true rfl) (Nat.le_of_ble_eq_true rfl), mm_pe (me_X5_thrown hl) mwX5_thrown (mm_t6 99 rfl rfl) (Nat.le_of_ble_eq_true rfl) (Nat.le_of_ble_eq_true rfl), trivial⟩
set_option maxRecDepth 20000 in
theorem csL_2 {l : Launch} {SC : Nat → Option (Nat × (Nat → Int32))} {MU : Nat} {Z : Nat → mm_K} (hl : l.stackTraces = false) (hC : mm_CZ l SC MU Z) {b L n u : Nat} {xs : Nat → Int32} {i : Int} {M : mm_M} (hSC : SC b = some (L, xs)) (hL : L < 2147483648) (hi : 0 ≤ i ∧ i + 5 ≤ L) (hI : LI n M) (hn : n ≤ 1000) (hu : u + 100 ≤ MU) (fin : ∀ M' x5 x6 u', LI (n + 1) M' → u' ≤ u + 100 → Z 2035 [some (mm_X b), some (mm_R 1), some (mm_R 17), some (mm_R 23), some (mm_I i), x5, x6] [] M' [] u') (x5 x6 : Option mm_V) : Z 328 [some (mm_X b), some (mm_R 1), some (mm_R 17), some (mm_R 23), some (mm_I i), x5, x6] [] M [] u := by
  have ha := hI.1
  have hx := hI.2.1
  have fin3 : ∀ (M2 : mm_M) (k r : Int) (u2 : Nat), LI n M2 → u2 ≤ u + 50 → (k = 0 ∨ k = 1) → M2 17 0 = k → (k = 0 → M2 23 0 = mm_w r) → Z 363 [some (mm_X b), some (mm_R 1), some (mm_R 17), some (mm_R 23), some (mm_I i), some (mm_I k), x6] [mm_I r] M2 [] u2 := by
    intro M2 k r u2 hI2 hu2 hk h17 h23
    have fin2 := fun x5 x6 u' h => fin M2 x5 x6 u' hI2.up h
    have k381 : M2 23 0 = mm_w r → Z 381 [some (mm_X b), some (mm_R 1), some (mm_R 17), some (mm_R 23), some (mm_I i), some (mm_I k), some (mm_I r)] [] M2 [] (u2 + 0) := by
      intro h
      refine mm_wpZ_at (stop := [2035]) hC kkLc_2 (peLc_2 hl) 90 ?_
      repeat' (first | with_reducible assumption | with_reducible exact True.intro | with_reducible exact mm_i1 | with_reducible exact mm_i17 | with_reducible exact mm_i23 | ((with_reducible show mm_rv _ _ _ _ _); first | exact True.intro | exact mm_i1 | exact mm_i17 | exact mm_i23 | exact Or.inl h) | exact Or.inl h | ((with_reducible show mm_bool _ _); first | exact True.intro | exact Or.inl rfl | exact Or.inr rfl | (show (_ : Int) = 0 ∨ _ = 1)) | rfl | with_reducible exact Or.inl rfl | with_reducible exact Or.inr rfl | exact Nat.le_of_ble_eq_true rfl | refine And.intro ?_ ?_ | intro _)
      all_goals (try simp (disch := omega) only [InI, Int.toNat_natCast, Int.tmod_eq_emod_of_nonneg, Int.tdiv_eq_ediv_of_nonneg, true_implies, true_or, or_true, mm_l18, mm_l19, mm_l20, mm_l21, mm_l22] at *)
      all_goals first | omega | (rw [if_pos h]; omega) | exact absurd (if_pos h) (by assumption) | exact fin2 _ _ _ (by omega) | skip
    refine mm_wpZ_at (stop := [381, 2035]) hC kkLc_2 (peLc_2 hl) 90 ?_
    repeat' (first | with_reducible assumption | with_reducible exact True.intro | with_reducible exact mm_i1 | with_reducible exact mm_i17 | with_reducible exact mm_i23 | ((with_reducible show mm_rv _ _ _ _ _); first | exact True.intro | exact mm_i1 | exact mm_i17 | exact mm_i23) | ((with_reducible show mm_bool _ _); first | exact True.intro | exact Or.inl rfl | exact Or.inr rfl | (show (_ : Int) = 0 ∨ _ = 1)) | rfl | with_reducible exact Or.inl rfl | with_reducible exact Or.inr rfl | exact Nat.le_of_ble_eq_true rfl | refine And.intro ?_ ?_ | intro _)
    all_goals (try simp (disch := omega) only [InI, Int.toNat_natCast, Int.tmod_eq_emod_of_nonneg, Int.tdiv_eq_ediv_of_nonneg, true_implies, true_or, or_true, mm_l18, mm_l19, mm_l20, mm_l21, mm_l22] at *)
    all_goals first | omega | exact k381 (h23 (by omega)) | exact fin2 _ _ _ (by omega) | skip
  have hA := hxI (xs (i + 1).toNat)
  have hB := hxI (xs (i + 2).toNat)
  obtain ⟨a, ea⟩ : ∃ a, (xs (i + 1).toNat).toInt = a := ⟨_, rfl⟩
  obtain ⟨c, ec⟩ : ∃ c, (xs (i + 2).toNat).toInt = c := ⟨_, rfl⟩
  rw [ea] at hA
  rw [ec] at hB
  have k345 : ∀ (M1 : mm_M) (k : Int), lP M M1 → (k = 0 ∨ k = 1) → (k = 1 → ¬ (2 ≤ a ∧ a ≤ 5 ∧ 1 ≤ c ∧ c ≤ 4)) → (k = 0 → ((2 ≤ a ∧ a ≤ 5) ∧ (1 ≤ c ∧ c ≤ 4)) ∧ M1 23 0 = (if a ^ c.toNat ≤ 30 then a ^ c.toNat else -9)) → Z 345 [some (mm_X b), some (mm_R 1), some (mm_R 17), some (mm_R 23), some (mm_I i), x5, x6] [mm_I k] M1 [] (u + 2) := by
    intro M1 k hP hk h1 h0
    have hI1 := hI.l hP
    have hx1 := hI1.2.1
    have g1 : ∀ (M2 : mm_M) (r : Int), k = 1 → xP M1 M2 → M2 17 0 = 1 → Z 363 [some (mm_X b), some (mm_R 1), some (mm_R 17), some (mm_R 23), some (mm_I i), some (mm_I k), x6] [mm_I r] M2 [] (u + 2 + 0) := fun M2 r hk1 h2 h3 => fin3 M2 k r _ (hI1.m h2) (by omega) hk (by omega) (fun h => by omega)
    have g0 : ∀ (M2 : mm_M) (r : Int), k = 0 → xP M1 M2 → M2 17 0 = 0 → InI r → M1 23 0 = r → Z 363 [some (mm_X b), some (mm_R 1), some (mm_R 17), some (mm_R 23), some (mm_I i), some (mm_I k), x6] [mm_I r] M2 [] (u + 2 + 0) := fun M2 r hk1 h2 h3 hr h4 => fin3 M2 k r _ (hI1.m h2) (by omega) hk (by omega) (fun _ => by rw [mm_w_id hr, h2.1 23 (Or.inr (by omega))]; exact h4)
    have q1 : k = 1 → ¬ (2 ≤ a ∧ a ≤ 5 ∧ 1 ≤ c ∧ c ≤ 4) → ∀ M' r, xP M1 M' → M' 17 0 = 1 → Z 363 [some (mm_X b), some (mm_R 1), some (mm_R 17), some (mm_R 23), some (mm_I i), some (mm_I k), x6] [mm_I r] M' [] (u + 2 + 0) := fun h _ M' r h2 h3 => g1 M' r h h2 h3
    have sp : sp_X5_words [mm_R 17, mm_I a, mm_I c] M1 [] (fun o M' d' => match o with
        | .inl (some (.inl r)) => d' = [] ∧ Z 363 [some (mm_X b), some (mm_R 1), some (mm_R 17), some (mm_R 23), some (mm_I i), some (mm_I k), x6] [mm_I r] M' [] (u + 2 + 0)
        | _ => False) := by
      refine ⟨rfl, hx1, hA, hB, fun h M' r h2 h3 => ⟨rfl, ?_⟩, fun ca cc => ⟨fun M' h h3 => ⟨rfl, ?_⟩, fun M' h h3 => ⟨rfl, ?_⟩⟩⟩
      · rcases hk with hk | hk
        · exact absurd ⟨(h0 hk).1.1.1, (h0 hk).1.1.2, (h0 hk).1.2.1, (h0 hk).1.2.2⟩ h
        · exact g1 M' r hk h2 h3
      · rcases hk with hk | hk
        · have e := (h0 hk).2
          rw [if_neg (by omega)] at e
          exact g0 M' _ hk h.1 h3 ⟨by decide, by decide⟩ e
        · exact absurd ⟨ca.1, ca.2, cc.1, cc.2⟩ (h1 hk)
      · rcases hk with hk | hk
        · have e := (h0 hk).2
          rw [if_pos h.2] at e
          have h5 : 0 < a ^ c.toNat := Int.pow_pos (by omega)
          exact g0 M' _ hk h.1 h3 ⟨by omega, by omega⟩ e
        · exact absurd ⟨ca.1, ca.2, cc.1, cc.2⟩ (h1 hk)
    obtain ⟨s1, s2, s3, s4, s5, s6⟩ := sp
    refine mm_wpZ_at (stop := [363]) hC kkLc_2 (peLc_2 hl) 90 ?_
    repeat' (first | with_reducible assumption | with_reducible exact True.intro | with_reducible exact mm_i1 | with_reducible exact mm_i17 | with_reducible exact mm_i23 | ((with_reducible show mm_rv _ _ _ _ _); first | exact True.intro | exact mm_i1 | exact mm_i17 | exact mm_i23 | ((with_reducible show xA _); exact hx1) | refine mm_sc hSC ?_ | ((with_reducible show InI _); exact hxI _)) | ((with_reducible show xA _); exact hx1) | refine mm_sc hSC ?_ | ((with_reducible show InI _); exact hxI _) | ((with_reducible show mm_bool _ _); first | exact True.intro | exact Or.inl rfl | exact Or.inr rfl | (show (_ : Int) = 0 ∨ _ = 1)) | rfl | with_reducible exact Or.inl rfl | with_reducible exact Or.inr rfl | exact Nat.le_of_ble_eq_true rfl | refine And.intro ?_ ?_ | intro _)
    all_goals (try simp (disch := omega) only [ea, ec, InI, Int.toNat_natCast, Int.tmod_eq_emod_of_nonneg, Int.tdiv_eq_ediv_of_nonneg, true_implies, true_or, or_true, mm_l18, mm_l19, mm_l20, mm_l21, mm_l22] at *)
    all_goals first | omega | exact (s5 (by assumption) _ _ (by assumption) (by assumption)).2 | exact ((s6 (by assumption) (by assumption)).1 _ (by assumption) (by assumption)).2 | exact ((s6 (by assumption) (by assumption)).2 _ (by assumption) (by assumption)).2 | exact ((s6 ⟨by omega, by omega⟩ ⟨by omega, by omega⟩).1 _ ⟨by assumption, by assumption⟩ (by assumption)).2 | exact ((s6 ⟨by omega, by omega⟩ ⟨by omega, by omega⟩).2 _ ⟨by assumption, by assumption⟩ (by assumption)).2 | skip
  have j1 : ¬ (2 ≤ a ∧ a ≤ 5 ∧ 1 ≤ c ∧ c ≤ 4) → Z 345 [some (mm_X b), some (mm_R 1), some (mm_R 17), some (mm_R 23), some (mm_I i), x5, x6] [mm_I 1] M [] (u + 2) := fun h => k345 M 1 (lP.of ha.rf) (Or.inr rfl) (fun _ => h) (fun h => absurd h (by decide))
  have j0 : (2 ≤ a ∧ a ≤ 5) → (1 ≤ c ∧ c ≤ 4) → ∀ M', lP M M' → M' 23 0 = (if a ^ c.toNat ≤ 30 then a ^ c.toNat else -9) → Z 345 [some (mm_X b), some (mm_R 1), some (mm_R 17), some (mm_R 23), some (mm_I i), x5, x6] [mm_I 0] M' [] (u + 2) := fun h h2 M' h3 h4 => k345 M' 0 h3 (Or.inl rfl) (fun h => absurd h (by decide)) (fun _ => ⟨⟨h, h2⟩, h4⟩)
  clear k345 fin3 fin
  refine mm_wpZ_at (stop := [345]) hC kkLc_2 (peLc_2 hl) 90 ?_
  repeat' (first | with_reducible assumption | with_reducible exact True.intro | with_reducible exact mm_i1 | with_reducible exact mm_i17 | with_reducible exact mm_i23 | ((with_reducible show mm_rv _ _ _ _ _); first | exact True.intro | exact mm_i1 | exact mm_i17 | exact mm_i23 | ((with_reducible show wA _); exact ha) | refine mm_sc hSC ?_ | ((with_reducible show InI _); exact hxI _)) | ((with_reducible show wA _); exact ha) | refine mm_sc hSC ?_ | ((with_reducible show InI _); exact hxI _) | ((with_reducible show mm_bool _ _); first | exact True.intro | exact Or.inl rfl | exact Or.inr rfl | (show (_ : Int) = 0 ∨ _ = 1)) | rfl | with_reducible exact Or.inl rfl | with_reducible exact Or.inr rfl | exact Nat.le_of_ble_eq_true rfl | refine And.intro ?_ ?_ | intro _)
  all_goals (try simp (disch := omega) only [ea, ec, InI, Int.toNat_natCast, Int.tmod_eq_emod_of_nonneg, Int.tdiv_eq_ediv_of_nonneg, true_implies, true_or, or_true, mm_l18, mm_l19, mm_l20, mm_l21, mm_l22] at *)
  all_goals first | omega | exact j1 (by assumption) | exact j0 (by assumption) (by assumption) _ (by assumption) (by assumption) | exact j1 (by omega) | exact j0 ⟨by omega, by omega⟩ ⟨by omega, by omega⟩ _ (by assumption) (by assumption) | skip

