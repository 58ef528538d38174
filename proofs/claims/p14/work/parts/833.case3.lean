/-! the law: its cases -/
/-- 21: L_join X5_join -/
def kdLc_21 : List mm_E := [(995, .aload_n 1, 0), (996, .aload_n 0, 0), (997, .iload 4, 0), (999, .iconst 1, 0), (1000, .iadd, 0), (1001, .iaload, 0), (1002, .aload_n 0, 0), (1003, .iload 4, 0), (1005, .iconst 2, 0), (1006, .iadd, 0), (1007, .iaload, 0), (1008, .aload_n 3, 0), (1009, .invokestatic 220, 0), (1012, .istore 5, 0), (1014, .aload_n 2, 0), (1015, .aload_n 0, 0), (1016, .iload 4, 0), (1018, .iconst 1, 0), (1019, .iadd, 0), (1020, .iaload, 0), (1021, .aload_n 0, 0), (1022, .iload 4, 0), (1024, .iconst 2, 0), (1025, .iadd, 0), (1026, .iaload, 0), (1027, .invokevirtual 222, 0), (1030, .istore 6, 0), (1032, .goto 974, 2006)]
theorem kkLc_21 : mm_chk code kdLc_21 = true := mm_fck 995 (by decide +kernel)
def ctLc_21 : List (Nat × mm_Ca) := [(220, (1, 4, 0, sp_L_join, 2)), (222, (0, 3, 14, sp_X5_join, 0))]
theorem peLc_21 {l : Launch} (hl : l.stackTraces = false) : mm_PEs l RL (mm_rm 2048 84000 0) ctLc_21 := ⟨mm_pe (me_L_join hl) mwL_join (mm_t4 40 rfl rfl) (Nat.le_of_ble_eq_true rfl) (Nat.le_of_ble_eq_true rfl), mm_pe (me_X5_join hl) mwX5_join (mm_t7 100 rfl rfl) (Nat.le_of_ble_eq_true rfl) (Nat.le_of_ble_eq_true rfl), trivial⟩
set_option maxRecDepth 20000 in
theorem csL_21 {l : Launch} {SC : Nat → Option (Nat × (Nat → Int32))} {MU : Nat} {Z : Nat → mm_K} (hl : l.stackTraces = false) (hC : mm_CZ l SC MU Z) {b L n u : Nat} {xs : Nat → Int32} {i : Int} {M : mm_M} (hSC : SC b = some (L, xs)) (hL : L < 2147483648) (hi : 0 ≤ i ∧ i + 5 ≤ L) (hI : LI n M) (hn : n ≤ 1000) (hu : u + 100 ≤ MU) (fin : ∀ M' x5 x6 u', LI (n + 1) M' → u' ≤ u + 100 → Z 2006 [some (mm_X b), some (mm_R 1), some (mm_R 17), some (mm_R 23), some (mm_I i), x5, x6] [] M' [] u') (x5 x6 : Option mm_V) : Z 995 [some (mm_X b), some (mm_R 1), some (mm_R 17), some (mm_R 23), some (mm_I i), x5, x6] [] M [] u := by
  have ha := hI.1
  have hA0 := hxI (xs (i + 1).toNat)
  obtain ⟨a0, ea0⟩ : ∃ a, (xs (i + 1).toNat).toInt = a := ⟨_, rfl⟩
  rw [ea0] at hA0
  have hA1 := hxI (xs (i + 2).toNat)
  obtain ⟨a1, ea1⟩ : ∃ a, (xs (i + 2).toNat).toInt = a := ⟨_, rfl⟩
  rw [ea1] at hA1
  have k3 : ∀ M2 (e r' : Int) u2, LI (n + 1) M2 → u2 ≤ u + 80 → Z 1030 [some (mm_X b), some (mm_R 1), some (mm_R 17), some (mm_R 23), some (mm_I i), some (mm_I e), x6] [mm_I r'] M2 [] u2 := by
    intro M2 e r' u2 hI2 hu2
    have fin2 := fun x5 x6 u' h => fin M2 x5 x6 u' hI2 h
    clear fin
    refine mm_wpZ_at (stop := [2006]) hC kkLc_21 (peLc_21 hl) 90 ?_
    repeat' (first | with_reducible assumption | with_reducible exact mm_i1 | with_reducible exact mm_i17 | with_reducible exact mm_i23 | ((with_reducible show mm_rv _ _ _ _ _); first | exact True.intro | exact mm_i1 | exact mm_i17 | exact mm_i23) | ((with_reducible show mm_bool _ _); first | exact True.intro | exact Or.inl rfl | exact Or.inr rfl | (show (_ : Int) = 0 ∨ _ = 1)) | refine And.intro ?_ ?_ | intro _ | with_reducible exact True.intro | exact rfl | with_reducible exact Or.inl rfl | with_reducible exact Or.inr rfl | exact Nat.le_of_ble_eq_true rfl)
    all_goals (try simp (disch := omega) only [InI, Int.toNat_natCast, Int.tmod_eq_emod_of_nonneg, Int.tdiv_eq_ediv_of_nonneg, true_implies, true_or, or_true, mm_l18, mm_l19, mm_l20, mm_l21, mm_l22] at *)
    all_goals first | omega | exact fin2 _ _ _ (by omega) | skip
  have k2 : ∀ M1 M2 e r u1, hlP M M1 M2 e r → C_join a0 a1 M M1 e r → u1 ≤ u + 60 → Z 1012 [some (mm_X b), some (mm_R 1), some (mm_R 17), some (mm_R 23), some (mm_I i), x5, x6] [mm_I e] M2 [] u1 := by
    intro  M1 M2 e r u1 hh hc  hu1
    have hx := hl_x hI hh.1 hh.2.2.1
    have q : ∀ M' (r' : Int) , xP M2 M' → C_join a0 a1 (vX M2) (vX M') (M' 17 0) r' → ∀ u2, u2 ≤ u + 80 → Z 1030 [some (mm_X b), some (mm_R 1), some (mm_R 17), some (mm_R 23), some (mm_I i), some (mm_I e), x6] [mm_I r'] M' [] u2 := by
      intro M' r' h3 h4  u2 hu2
      obtain ⟨p1, p2, p3⟩ := P_join hI hh.1 hh.2.2.1 hc h3 h4
      exact k3 M' e r' u2 p1 hu2
    clear k3 hh hc fin
    refine mm_wpZ_at (stop := [1030]) hC kkLc_21 (peLc_21 hl) 90 ?_
    repeat' (first | with_reducible assumption | with_reducible exact mm_i1 | with_reducible exact mm_i17 | with_reducible exact mm_i23 | ((with_reducible show mm_rv _ _ _ _ _); first | exact True.intro | exact mm_i1 | exact mm_i17 | exact mm_i23 | ((with_reducible show xA _); exact hx) | refine mm_sc hSC ?_ | ((with_reducible show InI _); exact hxI _)) | ((with_reducible show xA _); exact hx) | refine mm_sc hSC ?_ | ((with_reducible show InI _); exact hxI _) | ((with_reducible show mm_bool _ _); first | exact True.intro | exact Or.inl rfl | exact Or.inr rfl | (show (_ : Int) = 0 ∨ _ = 1)) | refine And.intro ?_ ?_ | intro _ | with_reducible exact True.intro | exact rfl | with_reducible exact Or.inl rfl | with_reducible exact Or.inr rfl | exact Nat.le_of_ble_eq_true rfl)
    all_goals (try simp (disch := omega) only [ea0, ea1, InI, Int.toNat_natCast, Int.tmod_eq_emod_of_nonneg, Int.tdiv_eq_ediv_of_nonneg, true_implies, true_or, or_true, mm_l18, mm_l19, mm_l20, mm_l21, mm_l22] at *)
    all_goals first | omega | exact q _ _ (by assumption) (by assumption) _ (by omega) | skip
  clear k3 fin
  refine mm_wpZ_at (stop := [1012]) hC kkLc_21 (peLc_21 hl) 90 ?_
  repeat' (first | with_reducible assumption | with_reducible exact mm_i1 | with_reducible exact mm_i17 | with_reducible exact mm_i23 | ((with_reducible show mm_rv _ _ _ _ _); first | exact True.intro | exact mm_i1 | exact mm_i17 | exact mm_i23 | ((with_reducible show wA _); exact ha) | refine mm_sc hSC ?_ | ((with_reducible show InI _); exact hxI _)) | ((with_reducible show wA _); exact ha) | refine mm_sc hSC ?_ | ((with_reducible show InI _); exact hxI _) | ((with_reducible show mm_bool _ _); first | exact True.intro | exact Or.inl rfl | exact Or.inr rfl | (show (_ : Int) = 0 ∨ _ = 1)) | refine And.intro ?_ ?_ | intro _ | with_reducible exact True.intro | exact rfl | with_reducible exact Or.inl rfl | with_reducible exact Or.inr rfl | exact Nat.le_of_ble_eq_true rfl)
  all_goals (try simp (disch := omega) only [ea0, ea1, InI, Int.toNat_natCast, Int.tmod_eq_emod_of_nonneg, Int.tdiv_eq_ediv_of_nonneg, true_implies, true_or, or_true, mm_l18, mm_l19, mm_l20, mm_l21, mm_l22] at *)
  all_goals first | omega | exact k2 _ _ _ _ _ (by assumption) (by assumption) (by omega) | skip
/-- 22: L_cut X5_cut -/
def kdLc_22 : List mm_E := [(1035, .aload_n 1, 0), (1036, .aload_n 0, 0), (1037, .iload 4, 0), (1039, .iconst 1, 0), (1040, .iadd, 0), (1041, .iaload, 0), (1042, .aload_n 0, 0), (1043, .iload 4, 0), (1045, .iconst 2, 0), (1046, .iadd, 0), (1047, .iaload, 0), (1048, .aload_n 0, 0), (1049, .iload 4, 0), (1051, .iconst 3, 0), (1052, .iadd, 0), (1053, .iaload, 0), (1054, .aload_n 0, 0), (1055, .iload 4, 0), (1057, .iconst 4, 0), (1058, .iadd, 0), (1059, .iaload, 0), (1060, .aload_n 3, 0), (1061, .invokestatic 223, 0), (1064, .istore 5, 0), (1066, .aload_n 2, 0), (1067, .aload_n 0, 0), (1068, .iload 4, 0), (1070, .iconst 1, 0), (1071, .iadd, 0), (1072, .iaload, 0), (1073, .aload_n 0, 0), (1074, .iload 4, 0), (1076, .iconst 2, 0), (1077, .iadd, 0), (1078, .iaload, 0), (1079, .aload_n 0, 0), (1080, .iload 4, 0), (1082, .iconst 3, 0), (1083, .iadd, 0), (1084, .iaload, 0), (1085, .aload_n 0, 0), (1086, .iload 4, 0), (1088, .iconst 4, 0), (1089, .iadd, 0), (1090, .iaload, 0), (1091, .invokevirtual 226, 0), (1094, .istore 6, 0), (1096, .goto 910, 2006)]
theorem kkLc_22 : mm_chk code kdLc_22 = true := mm_fck 1035 (by decide +kernel)
def ctLc_22 : List (Nat × mm_Ca) := [(223, (1, 6, 0, sp_L_cut, 4)), (226, (0, 5, 14, sp_X5_cut, 0))]
theorem peLc_22 {l : Launch} (hl : l.stackTraces = false) : mm_PEs l RL (mm_rm 2048 84000 0) ctLc_22 := ⟨mm_pe (me_L_cut hl) mwL_cut (mm_t4 60 rfl rfl) (Nat.le_of_ble_eq_true rfl) (Nat.le_of_ble_eq_true rfl), mm_pe (me_X5_cut hl) mwX5_cut (mm_t7 108 rfl rfl) (Nat.le_of_ble_eq_true rfl) (Nat.le_of_ble_eq_true rfl), trivial⟩
set_option maxRecDepth 20000 in
theorem csL_22 {l : Launch} {SC : Nat → Option (Nat × (Nat → Int32))} {MU : Nat} {Z : Nat → mm_K} (hl : l.stackTraces = false) (hC : mm_CZ l SC MU Z) {b L n u : Nat} {xs : Nat → Int32} {i : Int} {M : mm_M} (hSC : SC b = some (L, xs)) (hL : L < 2147483648) (hi : 0 ≤ i ∧ i + 5 ≤ L) (hI : LI n M) (hn : n ≤ 1000) (hu : u + 100 ≤ MU) (fin : ∀ M' x5 x6 u', LI (n + 1) M' → u' ≤ u + 100 → Z 2006 [some (mm_X b), some (mm_R 1), some (mm_R 17), some (mm_R 23), some (mm_I i), x5, x6] [] M' [] u') (x5 x6 : Option mm_V) : Z 1035 [some (mm_X b), some (mm_R 1), some (mm_R 17), some (mm_R 23), some (mm_I i), x5, x6] [] M [] u := by
  have ha := hI.1
  have hA0 := hxI (xs (i + 1).toNat)
  obtain ⟨a0, ea0⟩ : ∃ a, (xs (i + 1).toNat).toInt = a := ⟨_, rfl⟩
  rw [ea0] at hA0
  have hA1 := hxI (xs (i + 2).toNat)
  obtain ⟨a1, ea1⟩ : ∃ a, (xs (i + 2).toNat).toInt = a := ⟨_, rfl⟩
  rw [ea1] at hA1
  have hA2 := hxI (xs (i + 3).toNat)
  obtain ⟨a2, ea2⟩ : ∃ a, (xs (i + 3).toNat).toInt = a := ⟨_, rfl⟩
  rw [ea2] at hA2
  have hA3 := hxI (xs (i + 4).toNat)
  obtain ⟨a3, ea3⟩ : ∃ a, (xs (i + 4).toNat).toInt = a := ⟨_, rfl⟩
  rw [ea3] at hA3
  have k3 : ∀ M2 (e r' : Int) u2, LI (n + 1) M2 → u2 ≤ u + 80 → Z 1094 [some (mm_X b), some (mm_R 1), some (mm_R 17), some (mm_R 23), some (mm_I i), some (mm_I e), x6] [mm_I r'] M2 [] u2 := by
    intro M2 e r' u2 hI2 hu2
    have fin2 := fun x5 x6 u' h => fin M2 x5 x6 u' hI2 h
    clear fin
    refine mm_wpZ_at (stop := [2006]) hC kkLc_22 (peLc_22 hl) 90 ?_
    repeat' (first | with_reducible assumption | with_reducible exact mm_i1 | with_reducible exact mm_i17 | with_reducible exact mm_i23 | ((with_reducible show mm_rv _ _ _ _ _); first | exact True.intro | exact mm_i1 | exact mm_i17 | exact mm_i23) | ((with_reducible show mm_bool _ _); first | exact True.intro | exact Or.inl rfl | exact Or.inr rfl | (show (_ : Int) = 0 ∨ _ = 1)) | refine And.intro ?_ ?_ | intro _ | with_reducible exact True.intro | exact rfl | with_reducible exact Or.inl rfl | with_reducible exact Or.inr rfl | exact Nat.le_of_ble_eq_true rfl)
    all_goals (try simp (disch := omega) only [InI, Int.toNat_natCast, Int.tmod_eq_emod_of_nonneg, Int.tdiv_eq_ediv_of_nonneg, true_implies, true_or, or_true, mm_l18, mm_l19, mm_l20, mm_l21, mm_l22] at *)
    all_goals first | omega | exact fin2 _ _ _ (by omega) | skip
  have k2 : ∀ M1 M2 e r u1, hlP M M1 M2 e r → C_cut a0 a1 a2 a3 M M1 e r → u1 ≤ u + 60 → Z 1064 [some (mm_X b), some (mm_R 1), some (mm_R 17), some (mm_R 23), some (mm_I i), x5, x6] [mm_I e] M2 [] u1 := by
    intro  M1 M2 e r u1 hh hc  hu1
    have hx := hl_x hI hh.1 hh.2.2.1
    have q : ∀ M' (r' : Int) , xP M2 M' → C_cut a0 a1 a2 a3 (vX M2) (vX M') (M' 17 0) r' → ∀ u2, u2 ≤ u + 80 → Z 1094 [some (mm_X b), some (mm_R 1), some (mm_R 17), some (mm_R 23), some (mm_I i), some (mm_I e), x6] [mm_I r'] M' [] u2 := by
      intro M' r' h3 h4  u2 hu2
      obtain ⟨p1, p2, p3⟩ := P_cut hI hh.1 hh.2.2.1 hc h3 h4
      exact k3 M' e r' u2 p1 hu2
    clear k3 hh hc fin
    refine mm_wpZ_at (stop := [1094]) hC kkLc_22 (peLc_22 hl) 90 ?_
    repeat' (first | with_reducible assumption | with_reducible exact mm_i1 | with_reducible exact mm_i17 | with_reducible exact mm_i23 | ((with_reducible show mm_rv _ _ _ _ _); first | exact True.intro | exact mm_i1 | exact mm_i17 | exact mm_i23 | ((with_reducible show xA _); exact hx) | refine mm_sc hSC ?_ | ((with_reducible show InI _); exact hxI _)) | ((with_reducible show xA _); exact hx) | refine mm_sc hSC ?_ | ((with_reducible show InI _); exact hxI _) | ((with_reducible show mm_bool _ _); first | exact True.intro | exact Or.inl rfl | exact Or.inr rfl | (show (_ : Int) = 0 ∨ _ = 1)) | refine And.intro ?_ ?_ | intro _ | with_reducible exact True.intro | exact rfl | with_reducible exact Or.inl rfl | with_reducible exact Or.inr rfl | exact Nat.le_of_ble_eq_true rfl)
    all_goals (try simp (disch := omega) only [ea0, ea1, ea2, ea3, InI, Int.toNat_natCast, Int.tmod_eq_emod_of_nonneg, Int.tdiv_eq_ediv_of_nonneg, true_implies, true_or, or_true, mm_l18, mm_l19, mm_l20, mm_l21, mm_l22] at *)
    all_goals first | omega | exact q _ _ (by assumption) (by assumption) _ (by omega) | skip
  clear k3 fin
  refine mm_wpZ_at (stop := [1064]) hC kkLc_22 (peLc_22 hl) 90 ?_
  repeat' (first | with_reducible assumption | with_reducible exact mm_i1 | with_reducible exact mm_i17 | with_reducible exact mm_i23 | ((with_reducible show mm_rv _ _ _ _ _); first | exact True.intro | exact mm_i1 | exact mm_i17 | exact mm_i23 | ((with_reducible show wA _); exact ha) | refine mm_sc hSC ?_ | ((with_reducible show InI _); exact hxI _)) | ((with_reducible show wA _); exact ha) | refine mm_sc hSC ?_ | ((with_reducible show InI _); exact hxI _) | ((with_reducible show mm_bool _ _); first | exact True.intro | exact Or.inl rfl | exact Or.inr rfl | (show (_ : Int) = 0 ∨ _ = 1)) | refine And.intro ?_ ?_ | intro _ | with_reducible exact True.intro | exact rfl | with_reducible exact Or.inl rfl | with_reducible exact Or.inr rfl | exact Nat.le_of_ble_eq_true rfl)
  all_goals (try simp (disch := omega) only [ea0, ea1, ea2, ea3, InI, Int.toNat_natCast, Int.tmod_eq_emod_of_nonneg, Int.tdiv_eq_ediv_of_nonneg, true_implies, true_or, or_true, mm_l18, mm_l19, mm_l20, mm_l21, mm_l22] at *)
  all_goals first | omega | exact k2 _ _ _ _ _ (by assumption) (by assumption) (by omega) | skip
/-- 23: L_turnRound X5_turnRound -/
def kdLc_23 : List mm_E := [(1099, .aload_n 1, 0), (1100, .aload_n 0, 0), (1101, .iload 4, 0), (1103, .iconst 1, 0), (1104, .iadd, 0), (1105, .iaload, 0), (1106, .aload_n 3, 0), (1107, .invokestatic 227, 0), (1110, .istore 5, 0), (1112, .aload_n 2, 0), (1113, .aload_n 0, 0), (1114, .iload 4, 0), (1116, .iconst 1, 0), (1117, .iadd, 0), (1118, .iaload, 0), (1119, .invokevirtual 229, 0), (1122, .istore 6, 0), (1124, .goto 882, 2006)]
theorem kkLc_23 : mm_chk code kdLc_23 = true := mm_fck 1099 (by decide +kernel)
def ctLc_23 : List (Nat × mm_Ca) := [(227, (1, 3, 0, sp_L_turnRound, 1)), (229, (0, 2, 14, sp_X5_turnRound, 0))]
theorem peLc_23 {l : Launch} (hl : l.stackTraces = false) : mm_PEs l RL (mm_rm 2048 84000 0) ctLc_23 := ⟨mm_pe (me_L_turnRound hl) mwL_turnRound (mm_t4 72 rfl rfl) (Nat.le_of_ble_eq_true rfl) (Nat.le_of_ble_eq_true rfl), mm_pe (me_X5_turnRound hl) mwX5_turnRound (mm_t7 112 rfl rfl) (Nat.le_of_ble_eq_true rfl) (Nat.le_of_ble_eq_true rfl), trivial⟩
set_option maxRecDepth 20000 in
theorem csL_23 {l : Launch} {SC : Nat → Option (Nat × (Nat → Int32))} {MU : Nat} {Z : Nat → mm_K} (hl : l.stackTraces = false) (hC : mm_CZ l SC MU Z) {b L n u : Nat} {xs : Nat → Int32} {i : Int} {M : mm_M} (hSC : SC b = some (L, xs)) (hL : L < 2147483648) (hi : 0 ≤ i ∧ i + 5 ≤ L) (hI : LI n M) (hn : n ≤ 1000) (hu : u + 100 ≤ MU) (fin : ∀ M' x5 x6 u', LI (n + 1) M' → u' ≤ u + 100 → Z 2006 [some (mm_X b), some (mm_R 1), some (mm_R 17), some (mm_R 23), some (mm_I i), x5, x6] [] M' [] u') (x5 x6 : Option mm_V) : Z 1099 [some (mm_X b), some (mm_R 1), some (mm_R 17), some (mm_R 23), some (mm_I i), x5, x6] [] M [] u := by
  have ha := hI.1
  have hA0 := hxI (xs (i + 1).toNat)
  obtain ⟨a0, ea0⟩ : ∃ a, (xs (i + 1).toNat).toInt = a := ⟨_, rfl⟩
  rw [ea0] at hA0
  have k3 : ∀ M2 (e r' : Int) u2, LI (n + 1) M2 → u2 ≤ u + 80 → Z 1122 [some (mm_X b), some (mm_R 1), some (mm_R 17), some (mm_R 23), some (mm_I i), some (mm_I e), x6] [mm_I r'] M2 [] u2 := by
    intro M2 e r' u2 hI2 hu2
    have fin2 := fun x5 x6 u' h => fin M2 x5 x6 u' hI2 h
    clear fin
    refine mm_wpZ_at (stop := [2006]) hC kkLc_23 (peLc_23 hl) 90 ?_
    repeat' (first | with_reducible assumption | with_reducible exact mm_i1 | with_reducible exact mm_i17 | with_reducible exact mm_i23 | ((with_reducible show mm_rv _ _ _ _ _); first | exact True.intro | exact mm_i1 | exact mm_i17 | exact mm_i23) | ((with_reducible show mm_bool _ _); first | exact True.intro | exact Or.inl rfl | exact Or.inr rfl | (show (_ : Int) = 0 ∨ _ = 1)) | refine And.intro ?_ ?_ | intro _ | with_reducible exact True.intro | exact rfl | with_reducible exact Or.inl rfl | with_reducible exact Or.inr rfl | exact Nat.le_of_ble_eq_true rfl)
    all_goals (try simp (disch := omega) only [InI, Int.toNat_natCast, Int.tmod_eq_emod_of_nonneg, Int.tdiv_eq_ediv_of_nonneg, true_implies, true_or, or_true, mm_l18, mm_l19, mm_l20, mm_l21, mm_l22] at *)
    all_goals first | omega | exact fin2 _ _ _ (by omega) | skip
  have k2 : ∀ M1 M2 e r u1, hlP M M1 M2 e r → C_turnRound a0 M M1 e r → u1 ≤ u + 60 → Z 1110 [some (mm_X b), some (mm_R 1), some (mm_R 17), some (mm_R 23), some (mm_I i), x5, x6] [mm_I e] M2 [] u1 := by
    intro  M1 M2 e r u1 hh hc  hu1
    have hx := hl_x hI hh.1 hh.2.2.1
    have q : ∀ M' (r' : Int) , xP M2 M' → C_turnRound a0 (vX M2) (vX M') (M' 17 0) r' → ∀ u2, u2 ≤ u + 80 → Z 1122 [some (mm_X b), some (mm_R 1), some (mm_R 17), some (mm_R 23), some (mm_I i), some (mm_I e), x6] [mm_I r'] M' [] u2 := by
      intro M' r' h3 h4  u2 hu2
      obtain ⟨p1, p2, p3⟩ := P_turnRound hI hh.1 hh.2.2.1 hc h3 h4
      exact k3 M' e r' u2 p1 hu2
    clear k3 hh hc fin
    refine mm_wpZ_at (stop := [1122]) hC kkLc_23 (peLc_23 hl) 90 ?_
    repeat' (first | with_reducible assumption | with_reducible exact mm_i1 | with_reducible exact mm_i17 | with_reducible exact mm_i23 | ((with_reducible show mm_rv _ _ _ _ _); first | exact True.intro | exact mm_i1 | exact mm_i17 | exact mm_i23 | ((with_reducible show xA _); exact hx) | refine mm_sc hSC ?_ | ((with_reducible show InI _); exact hxI _)) | ((with_reducible show xA _); exact hx) | refine mm_sc hSC ?_ | ((with_reducible show InI _); exact hxI _) | ((with_reducible show mm_bool _ _); first | exact True.intro | exact Or.inl rfl | exact Or.inr rfl | (show (_ : Int) = 0 ∨ _ = 1)) | refine And.intro ?_ ?_ | intro _ | with_reducible exact True.intro | exact rfl | with_reducible exact Or.inl rfl | with_reducible exact Or.inr rfl | exact Nat.le_of_ble_eq_true rfl)
    all_goals (try simp (disch := omega) only [ea0, InI, Int.toNat_natCast, Int.tmod_eq_emod_of_nonneg, Int.tdiv_eq_ediv_of_nonneg, true_implies, true_or, or_true, mm_l18, mm_l19, mm_l20, mm_l21, mm_l22] at *)
    all_goals first | omega | exact q _ _ (by assumption) (by assumption) _ (by omega) | skip
  clear k3 fin
  refine mm_wpZ_at (stop := [1110]) hC kkLc_23 (peLc_23 hl) 90 ?_
  repeat' (first | with_reducible assumption | with_reducible exact mm_i1 | with_reducible exact mm_i17 | with_reducible exact mm_i23 | ((with_reducible show mm_rv _ _ _ _ _); first | exact True.intro | exact mm_i1 | exact mm_i17 | exact mm_i23 | ((with_reducible show wA _); exact ha) | refine mm_sc hSC ?_ | ((with_reducible show InI _); exact hxI _)) | ((with_reducible show wA _); exact ha) | refine mm_sc hSC ?_ | ((with_reducible show InI _); exact hxI _) | ((with_reducible show mm_bool _ _); first | exact True.intro | exact Or.inl rfl | exact Or.inr rfl | (show (_ : Int) = 0 ∨ _ = 1)) | refine And.intro ?_ ?_ | intro _ | with_reducible exact True.intro | exact rfl | with_reducible exact Or.inl rfl | with_reducible exact Or.inr rfl | exact Nat.le_of_ble_eq_true rfl)
  all_goals (try simp (disch := omega) only [ea0, InI, Int.toNat_natCast, Int.tmod_eq_emod_of_nonneg, Int.tdiv_eq_ediv_of_nonneg, true_implies, true_or, or_true, mm_l18, mm_l19, mm_l20, mm_l21, mm_l22] at *)
  all_goals first | omega | exact k2 _ _ _ _ _ (by assumption) (by assumption) (by omega) | skip
/-- 24: L_rotate X5_rotate -/
def kdLc_24 : List mm_E := [(1127, .aload_n 1, 0), (1128, .aload_n 0, 0), (1129, .iload 4, 0), (1131, .iconst 1, 0), (1132, .iadd, 0), (1133, .iaload, 0), (1134, .aload_n 0, 0), (1135, .iload 4, 0), (1137, .iconst 2, 0), (1138, .iadd, 0), (1139, .iaload, 0), (1140, .aload_n 3, 0), (1141, .invokestatic 230, 0), (1144, .istore 5, 0), (1146, .aload_n 2, 0), (1147, .aload_n 0, 0), (1148, .iload 4, 0), (1150, .iconst 1, 0), (1151, .iadd, 0), (1152, .iaload, 0), (1153, .aload_n 0, 0), (1154, .iload 4, 0), (1156, .iconst 2, 0), (1157, .iadd, 0), (1158, .iaload, 0), (1159, .invokevirtual 232, 0), (1162, .istore 6, 0), (1164, .goto 842, 2006)]
theorem kkLc_24 : mm_chk code kdLc_24 = true := mm_fck 1127 (by decide +kernel)
def ctLc_24 : List (Nat × mm_Ca) := [(230, (1, 4, 0, sp_L_rotate, 2)), (232, (0, 3, 14, sp_X5_rotate, 0))]
theorem peLc_24 {l : Launch} (hl : l.stackTraces = false) : mm_PEs l RL (mm_rm 2048 84000 0) ctLc_24 := ⟨mm_pe (me_L_rotate hl) mwL_rotate (mm_t4 84 rfl rfl) (Nat.le_of_ble_eq_true rfl) (Nat.le_of_ble_eq_true rfl), mm_pe (me_X5_rotate hl) mwX5_rotate (mm_t7 116 rfl rfl) (Nat.le_of_ble_eq_true rfl) (Nat.le_of_ble_eq_true rfl), trivial⟩
set_option maxRecDepth 20000 in
theorem csL_24 {l : Launch} {SC : Nat → Option (Nat × (Nat → Int32))} {MU : Nat} {Z : Nat → mm_K} (hl : l.stackTraces = false) (hC : mm_CZ l SC MU Z) {b L n u : Nat} {xs : Nat → Int32} {i : Int} {M : mm_M} (hSC : SC b = some (L, xs)) (hL : L < 2147483648) (hi : 0 ≤ i ∧ i + 5 ≤ L) (hI : LI n M) (hn : n ≤ 1000) (hu : u + 100 ≤ MU) (fin : ∀ M' x5 x6 u', LI (n + 1) M' → u' ≤ u + 100 → Z 2006 [some (mm_X b), some (mm_R 1), some (mm_R 17), some (mm_R 23), some (mm_I i), x5, x6] [] M' [] u') (x5 x6 : Option mm_V) : Z 1127 [some (mm_X b), some (mm_R 1), some (mm_R 17), some (mm_R 23), some (mm_I i), x5, x6] [] M [] u := by
  have ha := hI.1
  have hA0 := hxI (xs (i + 1).toNat)
  obtain ⟨a0, ea0⟩ : ∃ a, (xs (i + 1).toNat).toInt = a := ⟨_, rfl⟩
  rw [ea0] at hA0
  have hA1 := hxI (xs (i + 2).toNat)
  obtain ⟨a1, ea1⟩ : ∃ a, (xs (i + 2).toNat).toInt = a := ⟨_, rfl⟩
  rw [ea1] at hA1
  have k3 : ∀ M2 (e r' : Int) u2, LI (n + 1) M2 → u2 ≤ u + 80 → Z 1162 [some (mm_X b), some (mm_R 1), some (mm_R 17), some (mm_R 23), some (mm_I i), some (mm_I e), x6] [mm_I r'] M2 [] u2 := by
    intro M2 e r' u2 hI2 hu2
    have fin2 := fun x5 x6 u' h => fin M2 x5 x6 u' hI2 h
    clear fin
    refine mm_wpZ_at (stop := [2006]) hC kkLc_24 (peLc_24 hl) 90 ?_
    repeat' (first | with_reducible assumption | with_reducible exact mm_i1 | with_reducible exact mm_i17 | with_reducible exact mm_i23 | ((with_reducible show mm_rv _ _ _ _ _); first | exact True.intro | exact mm_i1 | exact mm_i17 | exact mm_i23) | ((with_reducible show mm_bool _ _); first | exact True.intro | exact Or.inl rfl | exact Or.inr rfl | (show (_ : Int) = 0 ∨ _ = 1)) | refine And.intro ?_ ?_ | intro _ | with_reducible exact True.intro | exact rfl | with_reducible exact Or.inl rfl | with_reducible exact Or.inr rfl | exact Nat.le_of_ble_eq_true rfl)
    all_goals (try simp (disch := omega) only [InI, Int.toNat_natCast, Int.tmod_eq_emod_of_nonneg, Int.tdiv_eq_ediv_of_nonneg, true_implies, true_or, or_true, mm_l18, mm_l19, mm_l20, mm_l21, mm_l22] at *)
    all_goals first | omega | exact fin2 _ _ _ (by omega) | skip
  have k2 : ∀ M1 M2 e r u1, hlP M M1 M2 e r → C_rotate a0 a1 M M1 e r → u1 ≤ u + 60 → Z 1144 [some (mm_X b), some (mm_R 1), some (mm_R 17), some (mm_R 23), some (mm_I i), x5, x6] [mm_I e] M2 [] u1 := by
    intro  M1 M2 e r u1 hh hc  hu1
    have hx := hl_x hI hh.1 hh.2.2.1
    have q : ∀ M' (r' : Int) , xP M2 M' → C_rotate a0 a1 (vX M2) (vX M') (M' 17 0) r' → ∀ u2, u2 ≤ u + 80 → Z 1162 [some (mm_X b), some (mm_R 1), some (mm_R 17), some (mm_R 23), some (mm_I i), some (mm_I e), x6] [mm_I r'] M' [] u2 := by
      intro M' r' h3 h4  u2 hu2
      obtain ⟨p1, p2, p3⟩ := P_rotate hI hh.1 hh.2.2.1 hc h3 h4
      exact k3 M' e r' u2 p1 hu2
    clear k3 hh hc fin
    refine mm_wpZ_at (stop := [1162]) hC kkLc_24 (peLc_24 hl) 90 ?_
    repeat' (first | with_reducible assumption | with_reducible exact mm_i1 | with_reducible exact mm_i17 | with_reducible exact mm_i23 | ((with_reducible show mm_rv _ _ _ _ _); first | exact True.intro | exact mm_i1 | exact mm_i17 | exact mm_i23 | ((with_reducible show xA _); exact hx) | refine mm_sc hSC ?_ | ((with_reducible show InI _); exact hxI _)) | ((with_reducible show xA _); exact hx) | refine mm_sc hSC ?_ | ((with_reducible show InI _); exact hxI _) | ((with_reducible show mm_bool _ _); first | exact True.intro | exact Or.inl rfl | exact Or.inr rfl | (show (_ : Int) = 0 ∨ _ = 1)) | refine And.intro ?_ ?_ | intro _ | with_reducible exact True.intro | exact rfl | with_reducible exact Or.inl rfl | with_reducible exact Or.inr rfl | exact Nat.le_of_ble_eq_true rfl)
    all_goals (try simp (disch := omega) only [ea0, ea1, InI, Int.toNat_natCast, Int.tmod_eq_emod_of_nonneg, Int.tdiv_eq_ediv_of_nonneg, true_implies, true_or, or_true, mm_l18, mm_l19, mm_l20, mm_l21, mm_l22] at *)
    all_goals first | omega | exact q _ _ (by assumption) (by assumption) _ (by omega) | skip
  clear k3 fin
  refine mm_wpZ_at (stop := [1144]) hC kkLc_24 (peLc_24 hl) 90 ?_
  repeat' (first | with_reducible assumption | with_reducible exact mm_i1 | with_reducible exact mm_i17 | with_reducible exact mm_i23 | ((with_reducible show mm_rv _ _ _ _ _); first | exact True.intro | exact mm_i1 | exact mm_i17 | exact mm_i23 | ((with_reducible show wA _); exact ha) | refine mm_sc hSC ?_ | ((with_reducible show InI _); exact hxI _)) | ((with_reducible show wA _); exact ha) | refine mm_sc hSC ?_ | ((with_reducible show InI _); exact hxI _) | ((with_reducible show mm_bool _ _); first | exact True.intro | exact Or.inl rfl | exact Or.inr rfl | (show (_ : Int) = 0 ∨ _ = 1)) | refine And.intro ?_ ?_ | intro _ | with_reducible exact True.intro | exact rfl | with_reducible exact Or.inl rfl | with_reducible exact Or.inr rfl | exact Nat.le_of_ble_eq_true rfl)
  all_goals (try simp (disch := omega) only [ea0, ea1, InI, Int.toNat_natCast, Int.tmod_eq_emod_of_nonneg, Int.tdiv_eq_ediv_of_nonneg, true_implies, true_or, or_true, mm_l18, mm_l19, mm_l20, mm_l21, mm_l22] at *)
  all_goals first | omega | exact k2 _ _ _ _ _ (by assumption) (by assumption) (by omega) | skip
/-- 25: L_first X5_first -/
def kdLc_25 : List mm_E := [(1167, .aload_n 1, 0), (1168, .aload_n 0, 0), (1169, .iload 4, 0), (1171, .iconst 1, 0), (1172, .iadd, 0), (1173, .iaload, 0), (1174, .aload_n 0, 0), (1175, .iload 4, 0), (1177, .iconst 2, 0), (1178, .iadd, 0), (1179, .iaload, 0), (1180, .aload_n 0, 0), (1181, .iload 4, 0), (1183, .iconst 3, 0), (1184, .iadd, 0), (1185, .iaload, 0), (1186, .ifCond .eq 7, 1193), (1189, .iconst 1, 0), (1190, .goto 4, 1194), (1193, .iconst 0, 0), (1194, .aload_n 3, 0), (1195, .invokestatic 233, 0), (1198, .istore 5, 0), (1200, .aload_n 2, 0), (1201, .aload_n 0, 0), (1202, .iload 4, 0), (1204, .iconst 1, 0), (1205, .iadd, 0), (1206, .iaload, 0), (1207, .aload_n 0, 0), (1208, .iload 4, 0), (1210, .iconst 2, 0), (1211, .iadd, 0), (1212, .iaload, 0), (1213, .aload_n 0, 0), (1214, .iload 4, 0), (1216, .iconst 3, 0), (1217, .iadd, 0), (1218, .iaload, 0), (1219, .ifCond .eq 7, 1226), (1222, .iconst 1, 0), (1223, .goto 4, 1227), (1226, .iconst 0, 0), (1227, .invokevirtual 235, 0), (1230, .istore 6, 0), (1232, .goto 774, 2006)]
theorem kkLc_25 : mm_chk code kdLc_25 = true := mm_fck 1167 (by decide +kernel)
def ctLc_25 : List (Nat × mm_Ca) := [(233, (1, 5, 0, sp_L_first, 2)), (235, (0, 4, 14, sp_X5_first, 0))]
theorem peLc_25 {l : Launch} (hl : l.stackTraces = false) : mm_PEs l RL (mm_rm 2048 84000 0) ctLc_25 := ⟨mm_pe (me_L_first hl) mwL_first (mm_t4 91 rfl rfl) (Nat.le_of_ble_eq_true rfl) (Nat.le_of_ble_eq_true rfl), mm_pe (me_X5_first hl) mwX5_first (mm_t7 120 rfl rfl) (Nat.le_of_ble_eq_true rfl) (Nat.le_of_ble_eq_true rfl), trivial⟩
set_option maxRecDepth 20000 in
theorem csL_25 {l : Launch} {SC : Nat → Option (Nat × (Nat → Int32))} {MU : Nat} {Z : Nat → mm_K} (hl : l.stackTraces = false) (hC : mm_CZ l SC MU Z) {b L n u : Nat} {xs : Nat → Int32} {i : Int} {M : mm_M} (hSC : SC b = some (L, xs)) (hL : L < 2147483648) (hi : 0 ≤ i ∧ i + 5 ≤ L) (hI : LI n M) (hn : n ≤ 1000) (hu : u + 100 ≤ MU) (fin : ∀ M' x5 x6 u', LI (n + 1) M' → u' ≤ u + 100 → Z 2006 [some (mm_X b), some (mm_R 1), some (mm_R 17), some (mm_R 23), some (mm_I i), x5, x6] [] M' [] u') (x5 x6 : Option mm_V) : Z 1167 [some (mm_X b), some (mm_R 1), some (mm_R 17), some (mm_R 23), some (mm_I i), x5, x6] [] M [] u := by
  have ha := hI.1
  have hA0 := hxI (xs (i + 1).toNat)
  obtain ⟨a0, ea0⟩ : ∃ a, (xs (i + 1).toNat).toInt = a := ⟨_, rfl⟩
  rw [ea0] at hA0
  have hA1 := hxI (xs (i + 2).toNat)
  obtain ⟨a1, ea1⟩ : ∃ a, (xs (i + 2).toNat).toInt = a := ⟨_, rfl⟩
  rw [ea1] at hA1
  have hA2 := hxI (xs (i + 3).toNat)
  obtain ⟨a2, ea2⟩ : ∃ a, (xs (i + 3).toNat).toInt = a := ⟨_, rfl⟩
  rw [ea2] at hA2
  have k3 : ∀ M2 (e r' : Int) u2, LI (n + 1) M2 → u2 ≤ u + 80 → Z 1230 [some (mm_X b), some (mm_R 1), some (mm_R 17), some (mm_R 23), some (mm_I i), some (mm_I e), x6] [mm_I r'] M2 [] u2 := by
    intro M2 e r' u2 hI2 hu2
    have fin2 := fun x5 x6 u' h => fin M2 x5 x6 u' hI2 h
    clear fin
    refine mm_wpZ_at (stop := [2006]) hC kkLc_25 (peLc_25 hl) 90 ?_
    repeat' (first | with_reducible assumption | with_reducible exact mm_i1 | with_reducible exact mm_i17 | with_reducible exact mm_i23 | ((with_reducible show mm_rv _ _ _ _ _); first | exact True.intro | exact mm_i1 | exact mm_i17 | exact mm_i23) | ((with_reducible show mm_bool _ _); first | exact True.intro | exact Or.inl rfl | exact Or.inr rfl | (show (_ : Int) = 0 ∨ _ = 1)) | refine And.intro ?_ ?_ | intro _ | with_reducible exact True.intro | exact rfl | with_reducible exact Or.inl rfl | with_reducible exact Or.inr rfl | exact Nat.le_of_ble_eq_true rfl)
    all_goals (try simp (disch := omega) only [InI, Int.toNat_natCast, Int.tmod_eq_emod_of_nonneg, Int.tdiv_eq_ediv_of_nonneg, true_implies, true_or, or_true, mm_l18, mm_l19, mm_l20, mm_l21, mm_l22] at *)
    all_goals first | omega | exact fin2 _ _ _ (by omega) | skip
  have k2 : ∀ (f2 : Int) M1 M2 e r u1, hlP M M1 M2 e r → C_first a0 a1 f2 M M1 e r → ((f2 = 0 ∧ a2 = 0) ∨ (f2 = 1 ∧ a2 ≠ 0)) → u1 ≤ u + 60 → Z 1198 [some (mm_X b), some (mm_R 1), some (mm_R 17), some (mm_R 23), some (mm_I i), x5, x6] [mm_I e] M2 [] u1 := by
    intro f2 M1 M2 e r u1 hh hc hb2 hu1
    have hf2 : f2 = 0 ∨ f2 = 1 := by omega
    have hx := hl_x hI hh.1 hh.2.2.1
    have q : ∀ M' (r' : Int) f2' , xP M2 M' → C_first a0 a1 f2' (vX M2) (vX M') (M' 17 0) r' → f2' = f2 → ∀ u2, u2 ≤ u + 80 → Z 1230 [some (mm_X b), some (mm_R 1), some (mm_R 17), some (mm_R 23), some (mm_I i), some (mm_I e), x6] [mm_I r'] M' [] u2 := by
      intro M' r' f2' h3 h4 e2 u2 hu2
      subst e2
      obtain ⟨p1, p2, p3⟩ := P_first hf2 hI hh.1 hh.2.2.1 hc h3 h4
      exact k3 M' e r' u2 p1 hu2
    clear k3 hh hc fin
    refine mm_wpZ_at (stop := [1230]) hC kkLc_25 (peLc_25 hl) 90 ?_
    repeat' (first | with_reducible assumption | with_reducible exact mm_i1 | with_reducible exact mm_i17 | with_reducible exact mm_i23 | ((with_reducible show mm_rv _ _ _ _ _); first | exact True.intro | exact mm_i1 | exact mm_i17 | exact mm_i23 | ((with_reducible show xA _); exact hx) | refine mm_sc hSC ?_ | ((with_reducible show InI _); exact hxI _)) | ((with_reducible show xA _); exact hx) | refine mm_sc hSC ?_ | ((with_reducible show InI _); exact hxI _) | ((with_reducible show mm_bool _ _); first | exact True.intro | exact Or.inl rfl | exact Or.inr rfl | (show (_ : Int) = 0 ∨ _ = 1)) | refine And.intro ?_ ?_ | intro _ | with_reducible exact True.intro | exact rfl | with_reducible exact Or.inl rfl | with_reducible exact Or.inr rfl | exact Nat.le_of_ble_eq_true rfl)
    all_goals (try simp (disch := omega) only [ea0, ea1, ea2, InI, Int.toNat_natCast, Int.tmod_eq_emod_of_nonneg, Int.tdiv_eq_ediv_of_nonneg, true_implies, true_or, or_true, mm_l18, mm_l19, mm_l20, mm_l21, mm_l22] at *)
    all_goals first | omega | exact q _ _ _ (by assumption) (by assumption) (by omega) _ (by omega) | skip
  clear k3 fin
  refine mm_wpZ_at (stop := [1198]) hC kkLc_25 (peLc_25 hl) 90 ?_
  repeat' (first | with_reducible assumption | with_reducible exact mm_i1 | with_reducible exact mm_i17 | with_reducible exact mm_i23 | ((with_reducible show mm_rv _ _ _ _ _); first | exact True.intro | exact mm_i1 | exact mm_i17 | exact mm_i23 | ((with_reducible show wA _); exact ha) | refine mm_sc hSC ?_ | ((with_reducible show InI _); exact hxI _)) | ((with_reducible show wA _); exact ha) | refine mm_sc hSC ?_ | ((with_reducible show InI _); exact hxI _) | ((with_reducible show mm_bool _ _); first | exact True.intro | exact Or.inl rfl | exact Or.inr rfl | (show (_ : Int) = 0 ∨ _ = 1)) | refine And.intro ?_ ?_ | intro _ | with_reducible exact True.intro | exact rfl | with_reducible exact Or.inl rfl | with_reducible exact Or.inr rfl | exact Nat.le_of_ble_eq_true rfl)
  all_goals (try simp (disch := omega) only [ea0, ea1, ea2, InI, Int.toNat_natCast, Int.tmod_eq_emod_of_nonneg, Int.tdiv_eq_ediv_of_nonneg, true_implies, true_or, or_true, mm_l18, mm_l19, mm_l20, mm_l21, mm_l22] at *)
  all_goals first | omega | exact k2 _ _ _ _ _ _ (by assumption) (by assumption) (by omega) (by omega) | skip
/-- 26: L_next X5_next -/
def kdLc_26 : List mm_E := [(1235, .aload_n 1, 0), (1236, .aload_n 0, 0), (1237, .iload 4, 0), (1239, .iconst 1, 0), (1240, .iadd, 0), (1241, .iaload, 0), (1242, .aload_n 0, 0), (1243, .iload 4, 0), (1245, .iconst 2, 0), (1246, .iadd, 0), (1247, .iaload, 0), (1248, .ifCond .eq 7, 1255), (1251, .iconst 1, 0), (1252, .goto 4, 1256), (1255, .iconst 0, 0), (1256, .aload_n 3, 0), (1257, .invokestatic 236, 0), (1260, .istore 5, 0), (1262, .aload_n 2, 0), (1263, .aload_n 0, 0), (1264, .iload 4, 0), (1266, .iconst 1, 0), (1267, .iadd, 0), (1268, .iaload, 0), (1269, .aload_n 0, 0), (1270, .iload 4, 0), (1272, .iconst 2, 0), (1273, .iadd, 0), (1274, .iaload, 0), (1275, .ifCond .eq 7, 1282), (1278, .iconst 1, 0), (1279, .goto 4, 1283), (1282, .iconst 0, 0), (1283, .invokevirtual 238, 0), (1286, .istore 6, 0), (1288, .goto 718, 2006)]
theorem kkLc_26 : mm_chk code kdLc_26 = true := mm_fck 1235 (by decide +kernel)
def ctLc_26 : List (Nat × mm_Ca) := [(236, (1, 4, 0, sp_L_next, 1)), (238, (0, 3, 14, sp_X5_next, 0))]
theorem peLc_26 {l : Launch} (hl : l.stackTraces = false) : mm_PEs l RL (mm_rm 2048 84000 0) ctLc_26 := ⟨mm_pe (me_L_next hl) mwL_next (mm_t4 106 rfl rfl) (Nat.le_of_ble_eq_true rfl) (Nat.le_of_ble_eq_true rfl), mm_pe (me_X5_next hl) mwX5_next (mm_t7 132 rfl rfl) (Nat.le_of_ble_eq_true rfl) (Nat.le_of_ble_eq_true rfl), trivial⟩
set_option maxRecDepth 20000 in
theorem csL_26 {l : Launch} {SC : Nat → Option (Nat × (Nat → Int32))} {MU : Nat} {Z : Nat → mm_K} (hl : l.stackTraces = false) (hC : mm_CZ l SC MU Z) {b L n u : Nat} {xs : Nat → Int32} {i : Int} {M : mm_M} (hSC : SC b = some (L, xs)) (hL : L < 2147483648) (hi : 0 ≤ i ∧ i + 5 ≤ L) (hI : LI n M) (hn : n ≤ 1000) (hu : u + 100 ≤ MU) (fin : ∀ M' x5 x6 u', LI (n + 1) M' → u' ≤ u + 100 → Z 2006 [some (mm_X b), some (mm_R 1), some (mm_R 17), some (mm_R 23), some (mm_I i), x5, x6] [] M' [] u') (x5 x6 : Option mm_V) : Z 1235 [some (mm_X b), some (mm_R 1), some (mm_R 17), some (mm_R 23), some (mm_I i), x5, x6] [] M [] u := by
  have ha := hI.1
  have hA0 := hxI (xs (i + 1).toNat)
  obtain ⟨a0, ea0⟩ : ∃ a, (xs (i + 1).toNat).toInt = a := ⟨_, rfl⟩
  rw [ea0] at hA0
  have hA1 := hxI (xs (i + 2).toNat)
  obtain ⟨a1, ea1⟩ : ∃ a, (xs (i + 2).toNat).toInt = a := ⟨_, rfl⟩
  rw [ea1] at hA1
  have k3 : ∀ M2 (e r' : Int) u2, LI (n + 1) M2 → u2 ≤ u + 80 → Z 1286 [some (mm_X b), some (mm_R 1), some (mm_R 17), some (mm_R 23), some (mm_I i), some (mm_I e), x6] [mm_I r'] M2 [] u2 := by
    intro M2 e r' u2 hI2 hu2
    have fin2 := fun x5 x6 u' h => fin M2 x5 x6 u' hI2 h
    clear fin
    refine mm_wpZ_at (stop := [2006]) hC kkLc_26 (peLc_26 hl) 90 ?_
    repeat' (first | with_reducible assumption | with_reducible exact mm_i1 | with_reducible exact mm_i17 | with_reducible exact mm_i23 | ((with_reducible show mm_rv _ _ _ _ _); first | exact True.intro | exact mm_i1 | exact mm_i17 | exact mm_i23) | ((with_reducible show mm_bool _ _); first | exact True.intro | exact Or.inl rfl | exact Or.inr rfl | (show (_ : Int) = 0 ∨ _ = 1)) | refine And.intro ?_ ?_ | intro _ | with_reducible exact True.intro | exact rfl | with_reducible exact Or.inl rfl | with_reducible exact Or.inr rfl | exact Nat.le_of_ble_eq_true rfl)
    all_goals (try simp (disch := omega) only [InI, Int.toNat_natCast, Int.tmod_eq_emod_of_nonneg, Int.tdiv_eq_ediv_of_nonneg, true_implies, true_or, or_true, mm_l18, mm_l19, mm_l20, mm_l21, mm_l22] at *)
    all_goals first | omega | exact fin2 _ _ _ (by omega) | skip
  have k2 : ∀ (f1 : Int) M1 M2 e r u1, hlP M M1 M2 e r → C_next a0 f1 M M1 e r → ((f1 = 0 ∧ a1 = 0) ∨ (f1 = 1 ∧ a1 ≠ 0)) → u1 ≤ u + 60 → Z 1260 [some (mm_X b), some (mm_R 1), some (mm_R 17), some (mm_R 23), some (mm_I i), x5, x6] [mm_I e] M2 [] u1 := by
    intro f1 M1 M2 e r u1 hh hc hb1 hu1
    have hf1 : f1 = 0 ∨ f1 = 1 := by omega
    have hx := hl_x hI hh.1 hh.2.2.1
    have q : ∀ M' (r' : Int) f1' , xP M2 M' → C_next a0 f1' (vX M2) (vX M') (M' 17 0) r' → f1' = f1 → ∀ u2, u2 ≤ u + 80 → Z 1286 [some (mm_X b), some (mm_R 1), some (mm_R 17), some (mm_R 23), some (mm_I i), some (mm_I e), x6] [mm_I r'] M' [] u2 := by
      intro M' r' f1' h3 h4 e1 u2 hu2
      subst e1
      obtain ⟨p1, p2, p3⟩ := P_next hf1 hI hh.1 hh.2.2.1 hc h3 h4
      exact k3 M' e r' u2 p1 hu2
    clear k3 hh hc fin
    refine mm_wpZ_at (stop := [1286]) hC kkLc_26 (peLc_26 hl) 90 ?_
    repeat' (first | with_reducible assumption | with_reducible exact mm_i1 | with_reducible exact mm_i17 | with_reducible exact mm_i23 | ((with_reducible show mm_rv _ _ _ _ _); first | exact True.intro | exact mm_i1 | exact mm_i17 | exact mm_i23 | ((with_reducible show xA _); exact hx) | refine mm_sc hSC ?_ | ((with_reducible show InI _); exact hxI _)) | ((with_reducible show xA _); exact hx) | refine mm_sc hSC ?_ | ((with_reducible show InI _); exact hxI _) | ((with_reducible show mm_bool _ _); first | exact True.intro | exact Or.inl rfl | exact Or.inr rfl | (show (_ : Int) = 0 ∨ _ = 1)) | refine And.intro ?_ ?_ | intro _ | with_reducible exact True.intro | exact rfl | with_reducible exact Or.inl rfl | with_reducible exact Or.inr rfl | exact Nat.le_of_ble_eq_true rfl)
    all_goals (try simp (disch := omega) only [ea0, ea1, InI, Int.toNat_natCast, Int.tmod_eq_emod_of_nonneg, Int.tdiv_eq_ediv_of_nonneg, true_implies, true_or, or_true, mm_l18, mm_l19, mm_l20, mm_l21, mm_l22] at *)
    all_goals first | omega | exact q _ _ _ (by assumption) (by assumption) (by omega) _ (by omega) | skip
  clear k3 fin
  refine mm_wpZ_at (stop := [1260]) hC kkLc_26 (peLc_26 hl) 90 ?_
  repeat' (first | with_reducible assumption | with_reducible exact mm_i1 | with_reducible exact mm_i17 | with_reducible exact mm_i23 | ((with_reducible show mm_rv _ _ _ _ _); first | exact True.intro | exact mm_i1 | exact mm_i17 | exact mm_i23 | ((with_reducible show wA _); exact ha) | refine mm_sc hSC ?_ | ((with_reducible show InI _); exact hxI _)) | ((with_reducible show wA _); exact ha) | refine mm_sc hSC ?_ | ((with_reducible show InI _); exact hxI _) | ((with_reducible show mm_bool _ _); first | exact True.intro | exact Or.inl rfl | exact Or.inr rfl | (show (_ : Int) = 0 ∨ _ = 1)) | refine And.intro ?_ ?_ | intro _ | with_reducible exact True.intro | exact rfl | with_reducible exact Or.inl rfl | with_reducible exact Or.inr rfl | exact Nat.le_of_ble_eq_true rfl)
  all_goals (try simp (disch := omega) only [ea0, ea1, InI, Int.toNat_natCast, Int.tmod_eq_emod_of_nonneg, Int.tdiv_eq_ediv_of_nonneg, true_implies, true_or, or_true, mm_l18, mm_l19, mm_l20, mm_l21, mm_l22] at *)
  all_goals first | omega | exact k2 _ _ _ _ _ _ (by assumption) (by assumption) (by omega) (by omega) | skip
/-- 27: L_copy X5_copy -/
def kdLc_27 : List mm_E := [(1291, .aload_n 1, 0), (1292, .aload_n 0, 0), (1293, .iload 4, 0), (1295, .iconst 1, 0), (1296, .iadd, 0), (1297, .iaload, 0), (1298, .aload_n 0, 0), (1299, .iload 4, 0), (1301, .iconst 2, 0), (1302, .iadd, 0), (1303, .iaload, 0), (1304, .aload_n 3, 0), (1305, .invokestatic 239, 0), (1308, .istore 5, 0), (1310, .aload_n 2, 0), (1311, .aload_n 0, 0), (1312, .iload 4, 0), (1314, .iconst 1, 0), (1315, .iadd, 0), (1316, .iaload, 0), (1317, .aload_n 0, 0), (1318, .iload 4, 0), (1320, .iconst 2, 0), (1321, .iadd, 0), (1322, .iaload, 0), (1323, .invokevirtual 241, 0), (1326, .istore 6, 0), (1328, .goto 678, 2006)]
theorem kkLc_27 : mm_chk code kdLc_27 = true := mm_fck 1291 (by decide +kernel)
def ctLc_27 : List (Nat × mm_Ca) := [(239, (1, 4, 0, sp_L_copy, 2)), (241, (0, 3, 14, sp_X5_copy, 0))]
theorem peLc_27 {l : Launch} (hl : l.stackTraces = false) : mm_PEs l RL (mm_rm 2048 84000 0) ctLc_27 := ⟨mm_pe (me_L_copy hl) mwL_copy (mm_t4 123 rfl rfl) (Nat.le_of_ble_eq_true rfl) (Nat.le_of_ble_eq_true rfl), mm_pe (me_X5_copy hl) mwX5_copy (mm_t7 144 rfl rfl) (Nat.le_of_ble_eq_true rfl) (Nat.le_of_ble_eq_true rfl), trivial⟩
set_option maxRecDepth 20000 in
theorem csL_27 {l : Launch} {SC : Nat → Option (Nat × (Nat → Int32))} {MU : Nat} {Z : Nat → mm_K} (hl : l.stackTraces = false) (hC : mm_CZ l SC MU Z) {b L n u : Nat} {xs : Nat → Int32} {i : Int} {M : mm_M} (hSC : SC b = some (L, xs)) (hL : L < 2147483648) (hi : 0 ≤ i ∧ i + 5 ≤ L) (hI : LI n M) (hn : n ≤ 1000) (hu : u + 100 ≤ MU) (fin : ∀ M' x5 x6 u', LI (n + 1) M' → u' ≤ u + 100 → Z 2006 [some (mm_X b), some (mm_R 1), some (mm_R 17), some (mm_R 23), some (mm_I i), x5, x6] [] M' [] u') (x5 x6 : Option mm_V) : Z 1291 [some (mm_X b), some (mm_R 1), some (mm_R 17), some (mm_R 23), some (mm_I i), x5, x6] [] M [] u := by
  have ha := hI.1
  have hA0 := hxI (xs (i + 1).toNat)
  obtain ⟨a0, ea0⟩ : ∃ a, (xs (i + 1).toNat).toInt = a := ⟨_, rfl⟩
  rw [ea0] at hA0
  have hA1 := hxI (xs (i + 2).toNat)
  obtain ⟨a1, ea1⟩ : ∃ a, (xs (i + 2).toNat).toInt = a := ⟨_, rfl⟩
  rw [ea1] at hA1
  have k3 : ∀ M2 (e r' : Int) u2, LI (n + 1) M2 → u2 ≤ u + 80 → Z 1326 [some (mm_X b), some (mm_R 1), some (mm_R 17), some (mm_R 23), some (mm_I i), some (mm_I e), x6] [mm_I r'] M2 [] u2 := by
    intro M2 e r' u2 hI2 hu2
    have fin2 := fun x5 x6 u' h => fin M2 x5 x6 u' hI2 h
    clear fin
    refine mm_wpZ_at (stop := [2006]) hC kkLc_27 (peLc_27 hl) 90 ?_
    repeat' (first | with_reducible assumption | with_reducible exact mm_i1 | with_reducible exact mm_i17 | with_reducible exact mm_i23 | ((with_reducible show mm_rv _ _ _ _ _); first | exact True.intro | exact mm_i1 | exact mm_i17 | exact mm_i23) | ((with_reducible show mm_bool _ _); first | exact True.intro | exact Or.inl rfl | exact Or.inr rfl | (show (_ : Int) = 0 ∨ _ = 1)) | refine And.intro ?_ ?_ | intro _ | with_reducible exact True.intro | exact rfl | with_reducible exact Or.inl rfl | with_reducible exact Or.inr rfl | exact Nat.le_of_ble_eq_true rfl)
    all_goals (try simp (disch := omega) only [InI, Int.toNat_natCast, Int.tmod_eq_emod_of_nonneg, Int.tdiv_eq_ediv_of_nonneg, true_implies, true_or, or_true, mm_l18, mm_l19, mm_l20, mm_l21, mm_l22] at *)
    all_goals first | omega | exact fin2 _ _ _ (by omega) | skip
  have k2 : ∀ M1 M2 e r u1, hlP M M1 M2 e r → C_copy a0 a1 M M1 e r → u1 ≤ u + 60 → Z 1308 [some (mm_X b), some (mm_R 1), some (mm_R 17), some (mm_R 23), some (mm_I i), x5, x6] [mm_I e] M2 [] u1 := by
    intro  M1 M2 e r u1 hh hc  hu1
    have hx := hl_x hI hh.1 hh.2.2.1
    have q : ∀ M' (r' : Int) , xP M2 M' → C_copy a0 a1 (vX M2) (vX M') (M' 17 0) r' → ∀ u2, u2 ≤ u + 80 → Z 1326 [some (mm_X b), some (mm_R 1), some (mm_R 17), some (mm_R 23), some (mm_I i), some (mm_I e), x6] [mm_I r'] M' [] u2 := by
      intro M' r' h3 h4  u2 hu2
      obtain ⟨p1, p2, p3⟩ := P_copy hI hh.1 hh.2.2.1 hc h3 h4
      exact k3 M' e r' u2 p1 hu2
    clear k3 hh hc fin
    refine mm_wpZ_at (stop := [1326]) hC kkLc_27 (peLc_27 hl) 90 ?_
    repeat' (first | with_reducible assumption | with_reducible exact mm_i1 | with_reducible exact mm_i17 | with_reducible exact mm_i23 | ((with_reducible show mm_rv _ _ _ _ _); first | exact True.intro | exact mm_i1 | exact mm_i17 | exact mm_i23 | ((with_reducible show xA _); exact hx) | refine mm_sc hSC ?_ | ((with_reducible show InI _); exact hxI _)) | ((with_reducible show xA _); exact hx) | refine mm_sc hSC ?_ | ((with_reducible show InI _); exact hxI _) | ((with_reducible show mm_bool _ _); first | exact True.intro | exact Or.inl rfl | exact Or.inr rfl | (show (_ : Int) = 0 ∨ _ = 1)) | refine And.intro ?_ ?_ | intro _ | with_reducible exact True.intro | exact rfl | with_reducible exact Or.inl rfl | with_reducible exact Or.inr rfl | exact Nat.le_of_ble_eq_true rfl)
    all_goals (try simp (disch := omega) only [ea0, ea1, InI, Int.toNat_natCast, Int.tmod_eq_emod_of_nonneg, Int.tdiv_eq_ediv_of_nonneg, true_implies, true_or, or_true, mm_l18, mm_l19, mm_l20, mm_l21, mm_l22] at *)
    all_goals first | omega | exact q _ _ (by assumption) (by assumption) _ (by omega) | skip
  clear k3 fin
  refine mm_wpZ_at (stop := [1308]) hC kkLc_27 (peLc_27 hl) 90 ?_
  repeat' (first | with_reducible assumption | with_reducible exact mm_i1 | with_reducible exact mm_i17 | with_reducible exact mm_i23 | ((with_reducible show mm_rv _ _ _ _ _); first | exact True.intro | exact mm_i1 | exact mm_i17 | exact mm_i23 | ((with_reducible show wA _); exact ha) | refine mm_sc hSC ?_ | ((with_reducible show InI _); exact hxI _)) | ((with_reducible show wA _); exact ha) | refine mm_sc hSC ?_ | ((with_reducible show InI _); exact hxI _) | ((with_reducible show mm_bool _ _); first | exact True.intro | exact Or.inl rfl | exact Or.inr rfl | (show (_ : Int) = 0 ∨ _ = 1)) | refine And.intro ?_ ?_ | intro _ | with_reducible exact True.intro | exact rfl | with_reducible exact Or.inl rfl | with_reducible exact Or.inr rfl | exact Nat.le_of_ble_eq_true rfl)
  all_goals (try simp (disch := omega) only [ea0, ea1, InI, Int.toNat_natCast, Int.tmod_eq_emod_of_nonneg, Int.tdiv_eq_ediv_of_nonneg, true_implies, true_or, or_true, mm_l18, mm_l19, mm_l20, mm_l21, mm_l22] at *)
  all_goals first | omega | exact k2 _ _ _ _ _ (by assumption) (by assumption) (by omega) | skip

