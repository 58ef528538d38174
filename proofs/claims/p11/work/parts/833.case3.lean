/-! the law: its cases -/
/-- 21: L_join X5_join -/
def kdLc_21 : List mm_E := [(1024, .aload_n 1, 0), (1025, .aload_n 0, 0), (1026, .iload 4, 0), (1028, .iconst 1, 0), (1029, .iadd, 0), (1030, .iaload, 0), (1031, .aload_n 0, 0), (1032, .iload 4, 0), (1034, .iconst 2, 0), (1035, .iadd, 0), (1036, .iaload, 0), (1037, .aload_n 3, 0), (1038, .invokestatic 223, 0), (1041, .istore 5, 0), (1043, .aload_n 2, 0), (1044, .aload_n 0, 0), (1045, .iload 4, 0), (1047, .iconst 1, 0), (1048, .iadd, 0), (1049, .iaload, 0), (1050, .aload_n 0, 0), (1051, .iload 4, 0), (1053, .iconst 2, 0), (1054, .iadd, 0), (1055, .iaload, 0), (1056, .invokevirtual 225, 0), (1059, .istore 6, 0), (1061, .goto 974, 2035)]
theorem kkLc_21 : mm_chk code kdLc_21 = true := mm_fck 1024 (by decide +kernel)
def ctLc_21 : List (Nat × mm_Ca) := [(223, (1, 4, 0, sp_L_join, 2)), (225, (0, 3, 14, sp_X5_join, 0))]
theorem peLc_21 {l : Launch} (hl : l.stackTraces = false) : mm_PEs l RL (mm_rm 2048 84000 0) ctLc_21 := ⟨mm_pe (me_L_join hl) mwL_join (mm_t4 40 rfl rfl) (Nat.le_of_ble_eq_true rfl) (Nat.le_of_ble_eq_true rfl), mm_pe (me_X5_join hl) mwX5_join (mm_t7 104 rfl rfl) (Nat.le_of_ble_eq_true rfl) (Nat.le_of_ble_eq_true rfl), trivial⟩
set_option maxRecDepth 20000 in
theorem csL_21 {l : Launch} {SC : Nat → Option (Nat × (Nat → Int32))} {MU : Nat} {Z : Nat → mm_K} (hl : l.stackTraces = false) (hC : mm_CZ l SC MU Z) {b L n u : Nat} {xs : Nat → Int32} {i : Int} {M : mm_M} (hSC : SC b = some (L, xs)) (hL : L < 2147483648) (hi : 0 ≤ i ∧ i + 5 ≤ L) (hI : LI n M) (hn : n ≤ 1000) (hu : u + 100 ≤ MU) (fin : ∀ M' x5 x6 u', LI (n + 1) M' → u' ≤ u + 100 → Z 2035 [some (mm_X b), some (mm_R 1), some (mm_R 17), some (mm_R 23), some (mm_I i), x5, x6] [] M' [] u') (x5 x6 : Option mm_V) : Z 1024 [some (mm_X b), some (mm_R 1), some (mm_R 17), some (mm_R 23), some (mm_I i), x5, x6] [] M [] u := by
  have ha := hI.1
  have hA0 := hxI (xs (i + 1).toNat)
  obtain ⟨a0, ea0⟩ : ∃ a, (xs (i + 1).toNat).toInt = a := ⟨_, rfl⟩
  rw [ea0] at hA0
  have hA1 := hxI (xs (i + 2).toNat)
  obtain ⟨a1, ea1⟩ : ∃ a, (xs (i + 2).toNat).toInt = a := ⟨_, rfl⟩
  rw [ea1] at hA1
  have k3 : ∀ M2 (e r' : Int) u2, LI (n + 1) M2 → u2 ≤ u + 80 → Z 1059 [some (mm_X b), some (mm_R 1), some (mm_R 17), some (mm_R 23), some (mm_I i), some (mm_I e), x6] [mm_I r'] M2 [] u2 := by
    intro M2 e r' u2 hI2 hu2
    have fin2 := fun x5 x6 u' h => fin M2 x5 x6 u' hI2 h
    clear fin
    refine mm_wpZ_at (stop := [2035]) hC kkLc_21 (peLc_21 hl) 90 ?_
    repeat' (first | with_reducible assumption | with_reducible exact mm_i1 | with_reducible exact mm_i17 | with_reducible exact mm_i23 | ((with_reducible show mm_rv _ _ _ _ _); first | exact True.intro | exact mm_i1 | exact mm_i17 | exact mm_i23) | ((with_reducible show mm_bool _ _); first | exact True.intro | exact Or.inl rfl | exact Or.inr rfl | (show (_ : Int) = 0 ∨ _ = 1)) | refine And.intro ?_ ?_ | intro _ | with_reducible exact True.intro | exact rfl | with_reducible exact Or.inl rfl | with_reducible exact Or.inr rfl | exact Nat.le_of_ble_eq_true rfl)
    all_goals (try simp (disch := omega) only [InI, Int.toNat_natCast, Int.tmod_eq_emod_of_nonneg, Int.tdiv_eq_ediv_of_nonneg, true_implies, true_or, or_true, mm_l18, mm_l19, mm_l20, mm_l21, mm_l22] at *)
    all_goals first | omega | exact fin2 _ _ _ (by omega) | skip
  have k2 : ∀ M1 M2 e r u1, hlP M M1 M2 e r → C_join a0 a1 M M1 e r → u1 ≤ u + 60 → Z 1041 [some (mm_X b), some (mm_R 1), some (mm_R 17), some (mm_R 23), some (mm_I i), x5, x6] [mm_I e] M2 [] u1 := by
    intro  M1 M2 e r u1 hh hc  hu1
    have hx := hl_x hI hh.1 hh.2.2.1
    have q : ∀ M' (r' : Int) , xP M2 M' → C_join a0 a1 (vX M2) (vX M') (M' 17 0) r' → ∀ u2, u2 ≤ u + 80 → Z 1059 [some (mm_X b), some (mm_R 1), some (mm_R 17), some (mm_R 23), some (mm_I i), some (mm_I e), x6] [mm_I r'] M' [] u2 := by
      intro M' r' h3 h4  u2 hu2
      obtain ⟨p1, p2, p3⟩ := P_join hI hh.1 hh.2.2.1 hc h3 h4
      exact k3 M' e r' u2 p1 hu2
    clear k3 hh hc fin
    refine mm_wpZ_at (stop := [1059]) hC kkLc_21 (peLc_21 hl) 90 ?_
    repeat' (first | with_reducible assumption | with_reducible exact mm_i1 | with_reducible exact mm_i17 | with_reducible exact mm_i23 | ((with_reducible show mm_rv _ _ _ _ _); first | exact True.intro | exact mm_i1 | exact mm_i17 | exact mm_i23 | ((with_reducible show xA _); exact hx) | refine mm_sc hSC ?_ | ((with_reducible show InI _); exact hxI _)) | ((with_reducible show xA _); exact hx) | refine mm_sc hSC ?_ | ((with_reducible show InI _); exact hxI _) | ((with_reducible show mm_bool _ _); first | exact True.intro | exact Or.inl rfl | exact Or.inr rfl | (show (_ : Int) = 0 ∨ _ = 1)) | refine And.intro ?_ ?_ | intro _ | with_reducible exact True.intro | exact rfl | with_reducible exact Or.inl rfl | with_reducible exact Or.inr rfl | exact Nat.le_of_ble_eq_true rfl)
    all_goals (try simp (disch := omega) only [ea0, ea1, InI, Int.toNat_natCast, Int.tmod_eq_emod_of_nonneg, Int.tdiv_eq_ediv_of_nonneg, true_implies, true_or, or_true, mm_l18, mm_l19, mm_l20, mm_l21, mm_l22] at *)
    all_goals first | omega | exact q _ _ (by assumption) (by assumption) _ (by omega) | skip
  clear k3 fin
  refine mm_wpZ_at (stop := [1041]) hC kkLc_21 (peLc_21 hl) 90 ?_
  repeat' (first | with_reducible assumption | with_reducible exact mm_i1 | with_reducible exact mm_i17 | with_reducible exact mm_i23 | ((with_reducible show mm_rv _ _ _ _ _); first | exact True.intro | exact mm_i1 | exact mm_i17 | exact mm_i23 | ((with_reducible show wA _); exact ha) | refine mm_sc hSC ?_ | ((with_reducible show InI _); exact hxI _)) | ((with_reducible show wA _); exact ha) | refine mm_sc hSC ?_ | ((with_reducible show InI _); exact hxI _) | ((with_reducible show mm_bool _ _); first | exact True.intro | exact Or.inl rfl | exact Or.inr rfl | (show (_ : Int) = 0 ∨ _ = 1)) | refine And.intro ?_ ?_ | intro _ | with_reducible exact True.intro | exact rfl | with_reducible exact Or.inl rfl | with_reducible exact Or.inr rfl | exact Nat.le_of_ble_eq_true rfl)
  all_goals (try simp (disch := omega) only [ea0, ea1, InI, Int.toNat_natCast, Int.tmod_eq_emod_of_nonneg, Int.tdiv_eq_ediv_of_nonneg, true_implies, true_or, or_true, mm_l18, mm_l19, mm_l20, mm_l21, mm_l22] at *)
  all_goals first | omega | exact k2 _ _ _ _ _ (by assumption) (by assumption) (by omega) | skip
/-- 22: L_cut X5_cut -/
def kdLc_22 : List mm_E := [(1064, .aload_n 1, 0), (1065, .aload_n 0, 0), (1066, .iload 4, 0), (1068, .iconst 1, 0), (1069, .iadd, 0), (1070, .iaload, 0), (1071, .aload_n 0, 0), (1072, .iload 4, 0), (1074, .iconst 2, 0), (1075, .iadd, 0), (1076, .iaload, 0), (1077, .aload_n 0, 0), (1078, .iload 4, 0), (1080, .iconst 3, 0), (1081, .iadd, 0), (1082, .iaload, 0), (1083, .aload_n 0, 0), (1084, .iload 4, 0), (1086, .iconst 4, 0), (1087, .iadd, 0), (1088, .iaload, 0), (1089, .aload_n 3, 0), (1090, .invokestatic 226, 0), (1093, .istore 5, 0), (1095, .aload_n 2, 0), (1096, .aload_n 0, 0), (1097, .iload 4, 0), (1099, .iconst 1, 0), (1100, .iadd, 0), (1101, .iaload, 0), (1102, .aload_n 0, 0), (1103, .iload 4, 0), (1105, .iconst 2, 0), (1106, .iadd, 0), (1107, .iaload, 0), (1108, .aload_n 0, 0), (1109, .iload 4, 0), (1111, .iconst 3, 0), (1112, .iadd, 0), (1113, .iaload, 0), (1114, .aload_n 0, 0), (1115, .iload 4, 0), (1117, .iconst 4, 0), (1118, .iadd, 0), (1119, .iaload, 0), (1120, .invokevirtual 229, 0), (1123, .istore 6, 0), (1125, .goto 910, 2035)]
theorem kkLc_22 : mm_chk code kdLc_22 = true := mm_fck 1064 (by decide +kernel)
def ctLc_22 : List (Nat × mm_Ca) := [(226, (1, 6, 0, sp_L_cut, 4)), (229, (0, 5, 14, sp_X5_cut, 0))]
theorem peLc_22 {l : Launch} (hl : l.stackTraces = false) : mm_PEs l RL (mm_rm 2048 84000 0) ctLc_22 := ⟨mm_pe (me_L_cut hl) mwL_cut (mm_t4 60 rfl rfl) (Nat.le_of_ble_eq_true rfl) (Nat.le_of_ble_eq_true rfl), mm_pe (me_X5_cut hl) mwX5_cut (mm_t7 112 rfl rfl) (Nat.le_of_ble_eq_true rfl) (Nat.le_of_ble_eq_true rfl), trivial⟩
set_option maxRecDepth 20000 in
theorem csL_22 {l : Launch} {SC : Nat → Option (Nat × (Nat → Int32))} {MU : Nat} {Z : Nat → mm_K} (hl : l.stackTraces = false) (hC : mm_CZ l SC MU Z) {b L n u : Nat} {xs : Nat → Int32} {i : Int} {M : mm_M} (hSC : SC b = some (L, xs)) (hL : L < 2147483648) (hi : 0 ≤ i ∧ i + 5 ≤ L) (hI : LI n M) (hn : n ≤ 1000) (hu : u + 100 ≤ MU) (fin : ∀ M' x5 x6 u', LI (n + 1) M' → u' ≤ u + 100 → Z 2035 [some (mm_X b), some (mm_R 1), some (mm_R 17), some (mm_R 23), some (mm_I i), x5, x6] [] M' [] u') (x5 x6 : Option mm_V) : Z 1064 [some (mm_X b), some (mm_R 1), some (mm_R 17), some (mm_R 23), some (mm_I i), x5, x6] [] M [] u := by
  have ha := hI.1
  have hA0 := hxI (xs (i + 1).toNat)
  obtain ⟨a0, ea0⟩ : ∃ a, (xs (i + 1).toNat).toInt = a := ⟨_, rfl⟩
  rw [ea0] at hA0
  have hA1 := hxI (xs (i + 2).toNat)
  obtain ⟨a1, ea1⟩ : ∃ a, (xs (i + 2).toNat).toInt = a := ⟨_, rfl⟩
  rw [ea1] at hA1
  have hA2 := hxI (xs (i + 3).toNat)
  obtain ⟨a2, ea2⟩ : ∃ a, (xs (i + 3).toNat).toInt = a := ⟨_, rfl⟩
  rw [ea2] at hA2
  have hA3 := hxI (xs (i + 4).toNat)
  obtain ⟨a3, ea3⟩ : ∃ a, (xs (i + 4).toNat).toInt = a := ⟨_, rfl⟩
  rw [ea3] at hA3
  have k3 : ∀ M2 (e r' : Int) u2, LI (n + 1) M2 → u2 ≤ u + 80 → Z 1123 [some (mm_X b), some (mm_R 1), some (mm_R 17), some (mm_R 23), some (mm_I i), some (mm_I e), x6] [mm_I r'] M2 [] u2 := by
    intro M2 e r' u2 hI2 hu2
    have fin2 := fun x5 x6 u' h => fin M2 x5 x6 u' hI2 h
    clear fin
    refine mm_wpZ_at (stop := [2035]) hC kkLc_22 (peLc_22 hl) 90 ?_
    repeat' (first | with_reducible assumption | with_reducible exact mm_i1 | with_reducible exact mm_i17 | with_reducible exact mm_i23 | ((with_reducible show mm_rv _ _ _ _ _); first | exact True.intro | exact mm_i1 | exact mm_i17 | exact mm_i23) | ((with_reducible show mm_bool _ _); first | exact True.intro | exact Or.inl rfl | exact Or.inr rfl | (show (_ : Int) = 0 ∨ _ = 1)) | refine And.intro ?_ ?_ | intro _ | with_reducible exact True.intro | exact rfl | with_reducible exact Or.inl rfl | with_reducible exact Or.inr rfl | exact Nat.le_of_ble_eq_true rfl)
    all_goals (try simp (disch := omega) only [InI, Int.toNat_natCast, Int.tmod_eq_emod_of_nonneg, Int.tdiv_eq_ediv_of_nonneg, true_implies, true_or, or_true, mm_l18, mm_l19, mm_l20, mm_l21, mm_l22] at *)
    all_goals first | omega | exact fin2 _ _ _ (by omega) | skip
  have k2 : ∀ M1 M2 e r u1, hlP M M1 M2 e r → C_cut a0 a1 a2 a3 M M1 e r → u1 ≤ u + 60 → Z 1093 [some (mm_X b), some (mm_R 1), some (mm_R 17), some (mm_R 23), some (mm_I i), x5, x6] [mm_I e] M2 [] u1 := by
    intro  M1 M2 e r u1 hh hc  hu1
    have hx := hl_x hI hh.1 hh.2.2.1
    have q : ∀ M' (r' : Int) , xP M2 M' → C_cut a0 a1 a2 a3 (vX M2) (vX M') (M' 17 0) r' → ∀ u2, u2 ≤ u + 80 → Z 1123 [some (mm_X b), some (mm_R 1), some (mm_R 17), some (mm_R 23), some (mm_I i), some (mm_I e), x6] [mm_I r'] M' [] u2 := by
      intro M' r' h3 h4  u2 hu2
      obtain ⟨p1, p2, p3⟩ := P_cut hI hh.1 hh.2.2.1 hc h3 h4
      exact k3 M' e r' u2 p1 hu2
    clear k3 hh hc fin
    refine mm_wpZ_at (stop := [1123]) hC kkLc_22 (peLc_22 hl) 90 ?_
    repeat' (first | with_reducible assumption | with_reducible exact mm_i1 | with_reducible exact mm_i17 | with_reducible exact mm_i23 | ((with_reducible show mm_rv _ _ _ _ _); first | exact True.intro | exact mm_i1 | exact mm_i17 | exact mm_i23 | ((with_reducible show xA _); exact hx) | refine mm_sc hSC ?_ | ((with_reducible show InI _); exact hxI _)) | ((with_reducible show xA _); exact hx) | refine mm_sc hSC ?_ | ((with_reducible show InI _); exact hxI _) | ((with_reducible show mm_bool _ _); first | exact True.intro | exact Or.inl rfl | exact Or.inr rfl | (show (_ : Int) = 0 ∨ _ = 1)) | refine And.intro ?_ ?_ | intro _ | with_reducible exact True.intro | exact rfl | with_reducible exact Or.inl rfl | with_reducible exact Or.inr rfl | exact Nat.le_of_ble_eq_true rfl)
    all_goals (try simp (disch := omega) only [ea0, ea1, ea2, ea3, InI, Int.toNat_natCast, Int.tmod_eq_emod_of_nonneg, Int.tdiv_eq_ediv_of_nonneg, true_implies, true_or, or_true, mm_l18, mm_l19, mm_l20, mm_l21, mm_l22] at *)
    all_goals first | omega | exact q _ _ (by assumption) (by assumption) _ (by omega) | skip
  clear k3 fin
  refine mm_wpZ_at (stop := [1093]) hC kkLc_22 (peLc_22 hl) 90 ?_
  repeat' (first | with_reducible assumption | with_reducible exact mm_i1 | with_reducible exact mm_i17 | with_reducible exact mm_i23 | ((with_reducible show mm_rv _ _ _ _ _); first | exact True.intro | exact mm_i1 | exact mm_i17 | exact mm_i23 | ((with_reducible show wA _); exact ha) | refine mm_sc hSC ?_ | ((with_reducible show InI _); exact hxI _)) | ((with_reducible show wA _); exact ha) | refine mm_sc hSC ?_ | ((with_reducible show InI _); exact hxI _) | ((with_reducible show mm_bool _ _); first | exact True.intro | exact Or.inl rfl | exact Or.inr rfl | (show (_ : Int) = 0 ∨ _ = 1)) | refine And.intro ?_ ?_ | intro _ | with_reducible exact True.intro | exact rfl | with_reducible exact Or.inl rfl | with_reducible exact Or.inr rfl | exact Nat.le_of_ble_eq_true rfl)
  all_goals (try simp (disch := omega) only [ea0, ea1, ea2, ea3, InI, Int.toNat_natCast, Int.tmod_eq_emod_of_nonneg, Int.tdiv_eq_ediv_of_nonneg, true_implies, true_or, or_true, mm_l18, mm_l19, mm_l20, mm_l21, mm_l22] at *)
  all_goals first | omega | exact k2 _ _ _ _ _ (by assumption) (by assumption) (by omega) | skip
/-- 23: L_turnRound X5_turnRound -/
def kdLc_23 : List mm_E := [(1128, .aload_n 1, 0), (1129, .aload_n 0, 0), (1130, .iload 4, 0), (1132, .iconst 1, 0), (1133, .iadd, 0), (1134, .iaload, 0), (1135, .aload_n 3, 0), (1136, .invokestatic 230, 0), (1139, .istore 5, 0), (1141, .aload_n 2, 0), (1142, .aload_n 0, 0), (1143, .iload 4, 0), (1145, .iconst 1, 0), (1146, .iadd, 0), (1147, .iaload, 0), (1148, .invokevirtual 232, 0), (1151, .istore 6, 0), (1153, .goto 882, 2035)]
theorem kkLc_23 : mm_chk code kdLc_23 = true := mm_fck 1128 (by decide +kernel)
def ctLc_23 : List (Nat × mm_Ca) := [(230, (1, 3, 0, sp_L_turnRound, 1)), (232, (0, 2, 14, sp_X5_turnRound, 0))]
theorem peLc_23 {l : Launch} (hl : l.stackTraces = false) : mm_PEs l RL (mm_rm 2048 84000 0) ctLc_23 := ⟨mm_pe (me_L_turnRound hl) mwL_turnRound (mm_t4 72 rfl rfl) (Nat.le_of_ble_eq_true rfl) (Nat.le_of_ble_eq_true rfl), mm_pe (me_X5_turnRound hl) mwX5_turnRound (mm_t7 116 rfl rfl) (Nat.le_of_ble_eq_true rfl) (Nat.le_of_ble_eq_true rfl), trivial⟩
set_option maxRecDepth 20000 in
theorem csL_23 {l : Launch} {SC : Nat → Option (Nat × (Nat → Int32))} {MU : Nat} {Z : Nat → mm_K} (hl : l.stackTraces = false) (hC : mm_CZ l SC MU Z) {b L n u : Nat} {xs : Nat → Int32} {i : Int} {M : mm_M} (hSC : SC b = some (L, xs)) (hL : L < 2147483648) (hi : 0 ≤ i ∧ i + 5 ≤ L) (hI : LI n M) (hn : n ≤ 1000) (hu : u + 100 ≤ MU) (fin : ∀ M' x5 x6 u', LI (n + 1) M' → u' ≤ u + 100 → Z 2035 [some (mm_X b), some (mm_R 1), some (mm_R 17), some (mm_R 23), some (mm_I i), x5, x6] [] M' [] u') (x5 x6 : Option mm_V) : Z 1128 [some (mm_X b), some (mm_R 1), some (mm_R 17), some (mm_R 23), some (mm_I i), x5, x6] [] M [] u := by
  have ha := hI.1
  have hA0 := hxI (xs (i + 1).toNat)
  obtain ⟨a0, ea0⟩ : ∃ a, (xs (i + 1).toNat).toInt = a := ⟨_, rfl⟩
  rw [ea0] at hA0
  have k3 : ∀ M2 (e r' : Int) u2, LI (n + 1) M2 → u2 ≤ u + 80 → Z 1151 [some (mm_X b), some (mm_R 1), some (mm_R 17), some (mm_R 23), some (mm_I i), some (mm_I e), x6] [mm_I r'] M2 [] u2 := by
    intro M2 e r' u2 hI2 hu2
    have fin2 := fun x5 x6 u' h => fin M2 x5 x6 u' hI2 h
    clear fin
    refine mm_wpZ_at (stop := [2035]) hC kkLc_23 (peLc_23 hl) 90 ?_
    repeat' (first | with_reducible assumption | with_reducible exact mm_i1 | with_reducible exact mm_i17 | with_reducible exact mm_i23 | ((with_reducible show mm_rv _ _ _ _ _); first | exact True.intro | exact mm_i1 | exact mm_i17 | exact mm_i23) | ((with_reducible show mm_bool _ _); first | exact True.intro | exact Or.inl rfl | exact Or.inr rfl | (show (_ : Int) = 0 ∨ _ = 1)) | refine And.intro ?_ ?_ | intro _ | with_reducible exact True.intro | exact rfl | with_reducible exact Or.inl rfl | with_reducible exact Or.inr rfl | exact Nat.le_of_ble_eq_true rfl)
    all_goals (try simp (disch := omega) only [InI, Int.toNat_natCast, Int.tmod_eq_emod_of_nonneg, Int.tdiv_eq_ediv_of_nonneg, true_implies, true_or, or_true, mm_l18, mm_l19, mm_l20, mm_l21, mm_l22] at *)
    all_goals first | omega | exact fin2 _ _ _ (by omega) | skip
  have k2 : ∀ M1 M2 e r u1, hlP M M1 M2 e r → C_turnRound a0 M M1 e r → u1 ≤ u + 60 → Z 1139 [some (mm_X b), some (mm_R 1), some (mm_R 17), some (mm_R 23), some (mm_I i), x5, x6] [mm_I e] M2 [] u1 := by
    intro  M1 M2 e r u1 hh hc  hu1
    have hx := hl_x hI hh.1 hh.2.2.1
    have q : ∀ M' (r' : Int) , xP M2 M' → C_turnRound a0 (vX M2) (vX M') (M' 17 0) r' → ∀ u2, u2 ≤ u + 80 → Z 1151 [some (mm_X b), some (mm_R 1), some (mm_R 17), some (mm_R 23), some (mm_I i), some (mm_I e), x6] [mm_I r'] M' [] u2 := by
      intro M' r' h3 h4  u2 hu2
      obtain ⟨p1, p2, p3⟩ := P_turnRound hI hh.1 hh.2.2.1 hc h3 h4
      exact k3 M' e r' u2 p1 hu2
    clear k3 hh hc fin
    refine mm_wpZ_at (stop := [1151]) hC kkLc_23 (peLc_23 hl) 90 ?_
    repeat' (first | with_reducible assumption | with_reducible exact mm_i1 | with_reducible exact mm_i17 | with_reducible exact mm_i23 | ((with_reducible show mm_rv _ _ _ _ _); first | exact True.intro | exact mm_i1 | exact mm_i17 | exact mm_i23 | ((with_reducible show xA _); exact hx) | refine mm_sc hSC ?_ | ((with_reducible show InI _); exact hxI _)) | ((with_reducible show xA _); exact hx) | refine mm_sc hSC ?_ | ((with_reducible show InI _); exact hxI _) | ((with_reducible show mm_bool _ _); first | exact True.intro | exact Or.inl rfl | exact Or.inr rfl | (show (_ : Int) = 0 ∨ _ = 1)) | refine And.intro ?_ ?_ | intro _ | with_reducible exact True.intro | exact rfl | with_reducible exact Or.inl rfl | with_reducible exact Or.inr rfl | exact Nat.le_of_ble_eq_true rfl)
    all_goals (try simp (disch := omega) only [ea0, InI, Int.toNat_natCast, Int.tmod_eq_emod_of_nonneg, Int.tdiv_eq_ediv_of_nonneg, true_implies, true_or, or_true, mm_l18, mm_l19, mm_l20, mm_l21, mm_l22] at *)
    all_goals first | omega | exact q _ _ (by assumption) (by assumption) _ (by omega) | skip
  clear k3 fin
  refine mm_wpZ_at (stop := [1139]) hC kkLc_23 (peLc_23 hl) 90 ?_
  repeat' (first | with_reducible assumption | with_reducible exact mm_i1 | with_reducible exact mm_i17 | with_reducible exact mm_i23 | ((with_reducible show mm_rv _ _ _ _ _); first | exact True.intro | exact mm_i1 | exact mm_i17 | exact mm_i23 | ((with_reducible show wA _); exact ha) | refine mm_sc hSC ?_ | ((with_reducible show InI _); exact hxI _)) | ((with_reducible show wA _); exact ha) | refine mm_sc hSC ?_ | ((with_reducible show InI _); exact hxI _) | ((with_reducible show mm_bool _ _); first | exact True.intro | exact Or.inl rfl | exact Or.inr rfl | (show (_ : Int) = 0 ∨ _ = 1)) | refine And.intro ?_ ?_ | intro _ | with_reducible exact True.intro | exact rfl | with_reducible exact Or.inl rfl | with_reducible exact Or.inr rfl | exact Nat.le_of_ble_eq_true rfl)
  all_goals (try simp (disch := omega) only [ea0, InI, Int.toNat_natCast, Int.tmod_eq_emod_of_nonneg, Int.tdiv_eq_ediv_of_nonneg, true_implies, true_or, or_true, mm_l18, mm_l19, mm_l20, mm_l21, mm_l22] at *)
  all_goals first | omega | exact k2 _ _ _ _ _ (by assumption) (by assumption) (by omega) | skip
/-- 24: L_rotate X5_rotate -/
def kdLc_24 : List mm_E := [(1156, .aload_n 1, 0), (1157, .aload_n 0, 0), (1158, .iload 4, 0), (1160, .iconst 1, 0), (1161, .iadd, 0), (1162, .iaload, 0), (1163, .aload_n 0, 0), (1164, .iload 4, 0), (1166, .iconst 2, 0), (1167, .iadd, 0), (1168, .iaload, 0), (1169, .aload_n 3, 0), (1170, .invokestatic 233, 0), (1173, .istore 5, 0), (1175, .aload_n 2, 0), (1176, .aload_n 0, 0), (1177, .iload 4, 0), (1179, .iconst 1, 0), (1180, .iadd, 0), (1181, .iaload, 0), (1182, .aload_n 0, 0), (1183, .iload 4, 0), (1185, .iconst 2, 0), (1186, .iadd, 0), (1187, .iaload, 0), (1188, .invokevirtual 235, 0), (1191, .istore 6, 0), (1193, .goto 842, 2035)]
theorem kkLc_24 : mm_chk code kdLc_24 = true := mm_fck 1156 (by decide +kernel)
def ctLc_24 : List (Nat × mm_Ca) := [(233, (1, 4, 0, sp_L_rotate, 2)), (235, (0, 3, 14, sp_X5_rotate, 0))]
theorem peLc_24 {l : Launch} (hl : l.stackTraces = false) : mm_PEs l RL (mm_rm 2048 84000 0) ctLc_24 := ⟨mm_pe (me_L_rotate hl) mwL_rotate (mm_t4 84 rfl rfl) (Nat.le_of_ble_eq_true rfl) (Nat.le_of_ble_eq_true rfl), mm_pe (me_X5_rotate hl) mwX5_rotate (mm_t7 120 rfl rfl) (Nat.le_of_ble_eq_true rfl) (Nat.le_of_ble_eq_true rfl), trivial⟩
set_option maxRecDepth 20000 in
theorem csL_24 {l : Launch} {SC : Nat → Option (Nat × (Nat → Int32))} {MU : Nat} {Z : Nat → mm_K} (hl : l.stackTraces = false) (hC : mm_CZ l SC MU Z) {b L n u : Nat} {xs : Nat → Int32} {i : Int} {M : mm_M} (hSC : SC b = some (L, xs)) (hL : L < 2147483648) (hi : 0 ≤ i ∧ i + 5 ≤ L) (hI : LI n M) (hn : n ≤ 1000) (hu : u + 100 ≤ MU) (fin : ∀ M' x5 x6 u', LI (n + 1) M' → u' ≤ u + 100 → Z 2035 [some (mm_X b), some (mm_R 1), some (mm_R 17), some (mm_R 23), some (mm_I i), x5, x6] [] M' [] u') (x5 x6 : Option mm_V) : Z 1156 [some (mm_X b), some (mm_R 1), some (mm_R 17), some (mm_R 23), some (mm_I i), x5, x6] [] M [] u := by
  have ha := hI.1
  have hA0 := hxI (xs (i + 1).toNat)
  obtain ⟨a0, ea0⟩ : ∃ a, (xs (i + 1).toNat).toInt = a := ⟨_, rfl⟩
  rw [ea0] at hA0
  have hA1 := hxI (xs (i + 2).toNat)
  obtain ⟨a1, ea1⟩ : ∃ a, (xs (i + 2).toNat).toInt = a := ⟨_, rfl⟩
  rw [ea1] at hA1
  have k3 : ∀ M2 (e r' : Int) u2, LI (n + 1) M2 → u2 ≤ u + 80 → Z 1191 [some (mm_X b), some (mm_R 1), some (mm_R 17), some (mm_R 23), some (mm_I i), some (mm_I e), x6] [mm_I r'] M2 [] u2 := by
    intro M2 e r' u2 hI2 hu2
    have fin2 := fun x5 x6 u' h => fin M2 x5 x6 u' hI2 h
    clear fin
    refine mm_wpZ_at (stop := [2035]) hC kkLc_24 (peLc_24 hl) 90 ?_
    repeat' (first | with_reducible assumption | with_reducible exact mm_i1 | with_reducible exact mm_i17 | with_reducible exact mm_i23 | ((with_reducible show mm_rv _ _ _ _ _); first | exact True.intro | exact mm_i1 | exact mm_i17 | exact mm_i23) | ((with_reducible show mm_bool _ _); first | exact True.intro | exact Or.inl rfl | exact Or.inr rfl | (show (_ : Int) = 0 ∨ _ = 1)) | refine And.intro ?_ ?_ | intro _ | with_reducible exact True.intro | exact rfl | with_reducible exact Or.inl rfl | with_reducible exact Or.inr rfl | exact Nat.le_of_ble_eq_true rfl)
    all_goals (try simp (disch := omega) only [InI, Int.toNat_natCast, Int.tmod_eq_emod_of_nonneg, Int.tdiv_eq_ediv_of_nonneg, true_implies, true_or, or_true, mm_l18, mm_l19, mm_l20, mm_l21, mm_l22] at *)
    all_goals first | omega | exact fin2 _ _ _ (by omega) | skip
  have k2 : ∀ M1 M2 e r u1, hlP M M1 M2 e r → C_rotate a0 a1 M M1 e r → u1 ≤ u + 60 → Z 1173 [some (mm_X b), some (mm_R 1), some (mm_R 17), some (mm_R 23), some (mm_I i), x5, x6] [mm_I e] M2 [] u1 := by
    intro  M1 M2 e r u1 hh hc  hu1
    have hx := hl_x hI hh.1 hh.2.2.1
    have q : ∀ M' (r' : Int) , xP M2 M' → C_rotate a0 a1 (vX M2) (vX M') (M' 17 0) r' → ∀ u2, u2 ≤ u + 80 → Z 1191 [some (mm_X b), some (mm_R 1), some (mm_R 17), some (mm_R 23), some (mm_I i), some (mm_I e), x6] [mm_I r'] M' [] u2 := by
      intro M' r' h3 h4  u2 hu2
      obtain ⟨p1, p2, p3⟩ := P_rotate hI hh.1 hh.2.2.1 hc h3 h4
      exact k3 M' e r' u2 p1 hu2
    clear k3 hh hc fin
    refine mm_wpZ_at (stop := [1191]) hC kkLc_24 (peLc_24 hl) 90 ?_
    repeat' (first | with_reducible assumption | with_reducible exact mm_i1 | with_reducible exact mm_i17 | with_reducible exact mm_i23 | ((with_reducible show mm_rv _ _ _ _ _); first | exact True.intro | exact mm_i1 | exact mm_i17 | exact mm_i23 | ((with_reducible show xA _); exact hx) | refine mm_sc hSC ?_ | ((with_reducible show InI _); exact hxI _)) | ((with_reducible show xA _); exact hx) | refine mm_sc hSC ?_ | ((with_reducible show InI _); exact hxI _) | ((with_reducible show mm_bool _ _); first | exact True.intro | exact Or.inl rfl | exact Or.inr rfl | (show (_ : Int) = 0 ∨ _ = 1)) | refine And.intro ?_ ?_ | intro _ | with_reducible exact True.intro | exact rfl | with_reducible exact Or.inl rfl | with_reducible exact Or.inr rfl | exact Nat.le_of_ble_eq_true rfl)
    all_goals (try simp (disch := omega) only [ea0, ea1, InI, Int.toNat_natCast, Int.tmod_eq_emod_of_nonneg, Int.tdiv_eq_ediv_of_nonneg, true_implies, true_or, or_true, mm_l18, mm_l19, mm_l20, mm_l21, mm_l22] at *)
    all_goals first | omega | exact q _ _ (by assumption) (by assumption) _ (by omega) | skip
  clear k3 fin
  refine mm_wpZ_at (stop := [1173]) hC kkLc_24 (peLc_24 hl) 90 ?_
  repeat' (first | with_reducible assumption | with_reducible exact mm_i1 | with_reducible exact mm_i17 | with_reducible exact mm_i23 | ((with_reducible show mm_rv _ _ _ _ _); first | exact True.intro | exact mm_i1 | exact mm_i17 | exact mm_i23 | ((with_reducible show wA _); exact ha) | refine mm_sc hSC ?_ | ((with_reducible show InI _); exact hxI _)) | ((with_reducible show wA _); exact ha) | refine mm_sc hSC ?_ | ((with_reducible show InI _); exact hxI _) | ((with_reducible show mm_bool _ _); first | exact True.intro | exact Or.inl rfl | exact Or.inr rfl | (show (_ : Int) = 0 ∨ _ = 1)) | refine And.intro ?_ ?_ | intro _ | with_reducible exact True.intro | exact rfl | with_reducible exact Or.inl rfl | with_reducible exact Or.inr rfl | exact Nat.le_of_ble_eq_true rfl)
  all_goals (try simp (disch := omega) only [ea0, ea1, InI, Int.toNat_natCast, Int.tmod_eq_emod_of_nonneg, Int.tdiv_eq_ediv_of_nonneg, true_implies, true_or, or_true, mm_l18, mm_l19, mm_l20, mm_l21, mm_l22] at *)
  all_goals first | omega | exact k2 _ _ _ _ _ (by assumption) (by assumption) (by omega) | skip
/-- 25: L_first X5_first -/
def kdLc_25 : List mm_E := [(1196, .aload_n 1, 0), (1197, .aload_n 0, 0), (1198, .iload 4, 0), (1200, .iconst 1, 0), (1201, .iadd, 0), (1202, .iaload, 0), (1203, .aload_n 0, 0), (1204, .iload 4, 0), (1206, .iconst 2, 0), (1207, .iadd, 0), (1208, .iaload, 0), (1209, .aload_n 0, 0), (1210, .iload 4, 0), (1212, .iconst 3, 0), (1213, .iadd, 0), (1214, .iaload, 0), (1215, .ifCond .eq 7, 1222), (1218, .iconst 1, 0), (1219, .goto 4, 1223), (1222, .iconst 0, 0), (1223, .aload_n 3, 0), (1224, .invokestatic 236, 0), (1227, .istore 5, 0), (1229, .aload_n 2, 0), (1230, .aload_n 0, 0), (1231, .iload 4, 0), (1233, .iconst 1, 0), (1234, .iadd, 0), (1235, .iaload, 0), (1236, .aload_n 0, 0), (1237, .iload 4, 0), (1239, .iconst 2, 0), (1240, .iadd, 0), (1241, .iaload, 0), (1242, .aload_n 0, 0), (1243, .iload 4, 0), (1245, .iconst 3, 0), (1246, .iadd, 0), (1247, .iaload, 0), (1248, .ifCond .eq 7, 1255), (1251, .iconst 1, 0), (1252, .goto 4, 1256), (1255, .iconst 0, 0), (1256, .invokevirtual 238, 0), (1259, .istore 6, 0), (1261, .goto 774, 2035)]
theorem kkLc_25 : mm_chk code kdLc_25 = true := mm_fck 1196 (by decide +kernel)
def ctLc_25 : List (Nat × mm_Ca) := [(236, (1, 5, 0, sp_L_first, 2)), (238, (0, 4, 14, sp_X5_first, 0))]
theorem peLc_25 {l : Launch} (hl : l.stackTraces = false) : mm_PEs l RL (mm_rm 2048 84000 0) ctLc_25 := ⟨mm_pe (me_L_first hl) mwL_first (mm_t4 91 rfl rfl) (Nat.le_of_ble_eq_true rfl) (Nat.le_of_ble_eq_true rfl), mm_pe (me_X5_first hl) mwX5_first (mm_t7 124 rfl rfl) (Nat.le_of_ble_eq_true rfl) (Nat.le_of_ble_eq_true rfl), trivial⟩
set_option maxRecDepth 20000 in
theorem csL_25 {l : Launch} {SC : Nat → Option (Nat × (Nat → Int32))} {MU : Nat} {Z : Nat → mm_K} (hl : l.stackTraces = false) (hC : mm_CZ l SC MU Z) {b L n u : Nat} {xs : Nat → Int32} {i : Int} {M : mm_M} (hSC : SC b = some (L, xs)) (hL : L < 2147483648) (hi : 0 ≤ i ∧ i + 5 ≤ L) (hI : LI n M) (hn : n ≤ 1000) (hu : u + 100 ≤ MU) (fin : ∀ M' x5 x6 u', LI (n + 1) M' → u' ≤ u + 100 → Z 2035 [some (mm_X b), some (mm_R 1), some (mm_R 17), some (mm_R 23), some (mm_I i), x5, x6] [] M' [] u') (x5 x6 : Option mm_V) : Z 1196 [some (mm_X b), some (mm_R 1), some (mm_R 17), some (mm_R 23), some (mm_I i), x5, x6] [] M [] u := by
  have ha := hI.1
  have hA0 := hxI (xs (i + 1).toNat)
  obtain ⟨a0, ea0⟩ : ∃ a, (xs (i + 1).toNat).toInt = a := ⟨_, rfl⟩
  rw [ea0] at hA0
  have hA1 := hxI (xs (i + 2).toNat)
  obtain ⟨a1, ea1⟩ : ∃ a, (xs (i + 2).toNat).toInt = a := ⟨_, rfl⟩
  rw [ea1] at hA1
  have hA2 := hxI (xs (i + 3).toNat)
  obtain ⟨a2, ea2⟩ : ∃ a, (xs (i + 3).toNat).toInt = a := ⟨_, rfl⟩
  rw [ea2] at hA2
  have k3 : ∀ M2 (e r' : Int) u2, LI (n + 1) M2 → u2 ≤ u + 80 → Z 1259 [some (mm_X b), some (mm_R 1), some (mm_R 17), some (mm_R 23), some (mm_I i), some (mm_I e), x6] [mm_I r'] M2 [] u2 := by
    intro M2 e r' u2 hI2 hu2
    have fin2 := fun x5 x6 u' h => fin M2 x5 x6 u' hI2 h
    clear fin
    refine mm_wpZ_at (stop := [2035]) hC kkLc_25 (peLc_25 hl) 90 ?_
    repeat' (first | with_reducible assumption | with_reducible exact mm_i1 | with_reducible exact mm_i17 | with_reducible exact mm_i23 | ((with_reducible show mm_rv _ _ _ _ _); first | exact True.intro | exact mm_i1 | exact mm_i17 | exact mm_i23) | ((with_reducible show mm_bool _ _); first | exact True.intro | exact Or.inl rfl | exact Or.inr rfl | (show (_ : Int) = 0 ∨ _ = 1)) | refine And.intro ?_ ?_ | intro _ | with_reducible exact True.intro | exact rfl | with_reducible exact Or.inl rfl | with_reducible exact Or.inr rfl | exact Nat.le_of_ble_eq_true rfl)
    all_goals (try simp (disch := omega) only [InI, Int.toNat_natCast, Int.tmod_eq_emod_of_nonneg, Int.tdiv_eq_ediv_of_nonneg, true_implies, true_or, or_true, mm_l18, mm_l19, mm_l20, mm_l21, mm_l22] at *)
    all_goals first | omega | exact fin2 _ _ _ (by omega) | skip
  have k2 : ∀ (f2 : Int) M1 M2 e r u1, hlP M M1 M2 e r → C_first a0 a1 f2 M M1 e r → ((f2 = 0 ∧ a2 = 0) ∨ (f2 = 1 ∧ a2 ≠ 0)) → u1 ≤ u + 60 → Z 1227 [some (mm_X b), some (mm_R 1), some (mm_R 17), some (mm_R 23), some (mm_I i), x5, x6] [mm_I e] M2 [] u1 := by
    intro f2 M1 M2 e r u1 hh hc hb2 hu1
    have hf2 : f2 = 0 ∨ f2 = 1 := by omega
    have hx := hl_x hI hh.1 hh.2.2.1
    have q : ∀ M' (r' : Int) f2' , xP M2 M' → C_first a0 a1 f2' (vX M2) (vX M') (M' 17 0) r' → f2' = f2 → ∀ u2, u2 ≤ u + 80 → Z 1259 [some (mm_X b), some (mm_R 1), some (mm_R 17), some (mm_R 23), some (mm_I i), some (mm_I e), x6] [mm_I r'] M' [] u2 := by
      intro M' r' f2' h3 h4 e2 u2 hu2
      subst e2
      obtain ⟨p1, p2, p3⟩ := P_first hf2 hI hh.1 hh.2.2.1 hc h3 h4
      exact k3 M' e r' u2 p1 hu2
    clear k3 hh hc fin
    refine mm_wpZ_at (stop := [1259]) hC kkLc_25 (peLc_25 hl) 90 ?_
    repeat' (first | with_reducible assumption | with_reducible exact mm_i1 | with_reducible exact mm_i17 | with_reducible exact mm_i23 | ((with_reducible show mm_rv _ _ _ _ _); first | exact True.intro | exact mm_i1 | exact mm_i17 | exact mm_i23 | ((with_reducible show xA _); exact hx) | refine mm_sc hSC ?_ | ((with_reducible show InI _); exact hxI _)) | ((with_reducible show xA _); exact hx) | refine mm_sc hSC ?_ | ((with_reducible show InI _); exact hxI _) | ((with_reducible show mm_bool _ _); first | exact True.intro | exact Or.inl rfl | exact Or.inr rfl | (show (_ : Int) = 0 ∨ _ = 1)) | refine And.intro ?_ ?_ | intro _ | with_reducible exact True.intro | exact rfl | with_reducible exact Or.inl rfl | with_reducible exact Or.inr rfl | exact Nat.le_of_ble_eq_true rfl)
    all_goals (try simp (disch := omega) only [ea0, ea1, ea2, InI, Int.toNat_natCast, Int.tmod_eq_emod_of_nonneg, Int.tdiv_eq_ediv_of_nonneg, true_implies, true_or, or_true, mm_l18, mm_l19, mm_l20, mm_l21, mm_l22] at *)
    all_goals first | omega | exact q _ _ _ (by assumption) (by assumption) (by omega) _ (by omega) | skip
  clear k3 fin
  refine mm_wpZ_at (stop := [1227]) hC kkLc_25 (peLc_25 hl) 90 ?_
  repeat' (first | with_reducible assumption | with_reducible exact mm_i1 | with_reducible exact mm_i17 | with_reducible exact mm_i23 | ((with_reducible show mm_rv _ _ _ _ _); first | exact True.intro | exact mm_i1 | exact mm_i17 | exact mm_i23 | ((with_reducible show wA _); exact ha) | refine mm_sc hSC ?_ | ((with_reducible show InI _); exact hxI _)) | ((with_reducible show wA _); exact ha) | refine mm_sc hSC ?_ | ((with_reducible show InI _); exact hxI _) | ((with_reducible show mm_bool _ _); first | exact True.intro | exact Or.inl rfl | exact Or.inr rfl | (show (_ : Int) = 0 ∨ _ = 1)) | refine And.intro ?_ ?_ | intro _ | with_reducible exact True.intro | exact rfl | with_reducible exact Or.inl rfl | with_reducible exact Or.inr rfl | exact Nat.le_of_ble_eq_true rfl)
  all_goals (try simp (disch := omega) only [ea0, ea1, ea2, InI, Int.toNat_natCast, Int.tmod_eq_emod_of_nonneg, Int.tdiv_eq_ediv_of_nonneg, true_implies, true_or, or_true, mm_l18, mm_l19, mm_l20, mm_l21, mm_l22] at *)
  all_goals first | omega | exact k2 _ _ _ _ _ _ (by assumption) (by assumption) (by omega) (by omega) | skip
/-- 26: L_next X5_next -/
def kdLc_26 : List mm_E := [(1264, .aload_n 1, 0), (1265, .aload_n 0, 0), (1266, .iload 4, 0), (1268, .iconst 1, 0), (1269, .iadd, 0), (1270, .iaload, 0), (1271, .aload_n 0, 0), (1272, .iload 4, 0), (1274, .iconst 2, 0), (1275, .iadd, 0), (1276, .iaload, 0), (1277, .ifCond .eq 7, 1284), (1280, .iconst 1, 0), (1281, .goto 4, 1285), (1284, .iconst 0, 0), (1285, .aload_n 3, 0), (1286, .invokestatic 239, 0), (1289, .istore 5, 0), (1291, .aload_n 2, 0), (1292, .aload_n 0, 0), (1293, .iload 4, 0), (1295, .iconst 1, 0), (1296, .iadd, 0), (1297, .iaload, 0), (1298, .aload_n 0, 0), (1299, .iload 4, 0), (1301, .iconst 2, 0), (1302, .iadd, 0), (1303, .iaload, 0), (1304, .ifCond .eq 7, 1311), (1307, .iconst 1, 0), (1308, .goto 4, 1312), (1311, .iconst 0, 0), (1312, .invokevirtual 241, 0), (1315, .istore 6, 0), (1317, .goto 718, 2035)]
theorem kkLc_26 : mm_chk code kdLc_26 = true := mm_fck 1264 (by decide +kernel)
def ctLc_26 : List (Nat × mm_Ca) := [(239, (1, 4, 0, sp_L_next, 1)), (241, (0, 3, 14, sp_X5_next, 0))]
theorem peLc_26 {l : Launch} (hl : l.stackTraces = false) : mm_PEs l RL (mm_rm 2048 84000 0) ctLc_26 := ⟨mm_pe (me_L_next hl) mwL_next (mm_t4 106 rfl rfl) (Nat.le_of_ble_eq_true rfl) (Nat.le_of_ble_eq_true rfl), mm_pe (me_X5_next hl) mwX5_next (mm_t7 136 rfl rfl) (Nat.le_of_ble_eq_true rfl) (Nat.le_of_ble_eq_true rfl), trivial⟩
set_option maxRecDepth 20000 in
theorem csL_26 {l : Launch} {SC : Nat → Option (Nat × (Nat → Int32))} {MU : Nat} {Z : Nat → mm_K} (hl : l.stackTraces = false) (hC : mm_CZ l SC MU Z) {b L n u : Nat} {xs : Nat → Int32} {i : Int} {M : mm_M} (hSC : SC b = some (L, xs)) (hL : L < 2147483648) (hi : 0 ≤ i ∧ i + 5 ≤ L) (hI : LI n M) (hn : n ≤ 1000) (hu : u + 100 ≤ MU) (fin : ∀ M' x5 x6 u', LI (n + 1) M' → u' ≤ u + 100 → Z 2035 [some (mm_X b), some (mm_R 1), some (mm_R 17), some (mm_R 23), some (mm_I i), x5, x6] [] M' [] u') (x5 x6 : Option mm_V) : Z 1264 [some (mm_X b), some (mm_R 1), some (mm_R 17), some (mm_R 23), some (mm_I i), x5, x6] [] M [] u := by
  have ha := hI.1
  have hA0 := hxI (xs (i + 1).toNat)
  obtain ⟨a0, ea0⟩ : ∃ a, (xs (i + 1).toNat).toInt = a := ⟨_, rfl⟩
  rw [ea0] at hA0
  have hA1 := hxI (xs (i + 2).toNat)
  obtain ⟨a1, ea1⟩ : ∃ a, (xs (i + 2).toNat).toInt = a := ⟨_, rfl⟩
  rw [ea1] at hA1
  have k3 : ∀ M2 (e r' : Int) u2, LI (n + 1) M2 → u2 ≤ u + 80 → Z 1315 [some (mm_X b), some (mm_R 1), some (mm_R 17), some (mm_R 23), some (mm_I i), some (mm_I e), x6] [mm_I r'] M2 [] u2 := by
    intro M2 e r' u2 hI2 hu2
    have fin2 := fun x5 x6 u' h => fin M2 x5 x6 u' hI2 h
    clear fin
    refine mm_wpZ_at (stop := [2035]) hC kkLc_26 (peLc_26 hl) 90 ?_
    repeat' (first | with_reducible assumption | with_reducible exact mm_i1 | with_reducible exact mm_i17 | with_reducible exact mm_i23 | ((with_reducible show mm_rv _ _ _ _ _); first | exact True.intro | exact mm_i1 | exact mm_i17 | exact mm_i23) | ((with_reducible show mm_bool _ _); first | exact True.intro | exact Or.inl rfl | exact Or.inr rfl | (show (_ : Int) = 0 ∨ _ = 1)) | refine And.intro ?_ ?_ | intro _ | with_reducible exact True.intro | exact rfl | with_reducible exact Or.inl rfl | with_reducible exact Or.inr rfl | exact Nat.le_of_ble_eq_true rfl)
    all_goals (try simp (disch := omega) only [InI, Int.toNat_natCast, Int.tmod_eq_emod_of_nonneg, Int.tdiv_eq_ediv_of_nonneg, true_implies, true_or, or_true, mm_l18, mm_l19, mm_l20, mm_l21, mm_l22] at *)
    all_goals first | omega | exact fin2 _ _ _ (by omega) | skip
  have k2 : ∀ (f1 : Int) M1 M2 e r u1, hlP M M1 M2 e r → C_next a0 f1 M M1 e r → ((f1 = 0 ∧ a1 = 0) ∨ (f1 = 1 ∧ a1 ≠ 0)) → u1 ≤ u + 60 → Z 1289 [some (mm_X b), some (mm_R 1), some (mm_R 17), some (mm_R 23), some (mm_I i), x5, x6] [mm_I e] M2 [] u1 := by
    intro f1 M1 M2 e r u1 hh hc hb1 hu1
    have hf1 : f1 = 0 ∨ f1 = 1 := by omega
    have hx := hl_x hI hh.1 hh.2.2.1
    have q : ∀ M' (r' : Int) f1' , xP M2 M' → C_next a0 f1' (vX M2) (vX M') (M' 17 0) r' → f1' = f1 → ∀ u2, u2 ≤ u + 80 → Z 1315 [some (mm_X b), some (mm_R 1), some (mm_R 17), some (mm_R 23), some (mm_I i), some (mm_I e), x6] [mm_I r'] M' [] u2 := by
      intro M' r' f1' h3 h4 e1 u2 hu2
      subst e1
      obtain ⟨p1, p2, p3⟩ := P_next hf1 hI hh.1 hh.2.2.1 hc h3 h4
      exact k3 M' e r' u2 p1 hu2
    clear k3 hh hc fin
    refine mm_wpZ_at (stop := [1315]) hC kkLc_26 (peLc_26 hl) 90 ?_
    repeat' (first | with_reducible assumption | with_reducible exact mm_i1 | with_reducible exact mm_i17 | with_reducible exact mm_i23 | ((with_reducible show mm_rv _ _ _ _ _); first | exact True.intro | exact mm_i1 | exact mm_i17 | exact mm_i23 | ((with_reducible show xA _); exact hx) | refine mm_sc hSC ?_ | ((with_reducible show InI _); exact hxI _)) | ((with_reducible show xA _); exact hx) | refine mm_sc hSC ?_ | ((with_reducible show InI _); exact hxI _) | ((with_reducible show mm_bool _ _); first | exact True.intro | exact Or.inl rfl | exact Or.inr rfl | (show (_ : Int) = 0 ∨ _ = 1)) | refine And.intro ?_ ?_ | intro _ | with_reducible exact True.intro | exact rfl | with_reducible exact Or.inl rfl | with_reducible exact Or.inr rfl | exact Nat.le_of_ble_eq_true rfl)
    all_goals (try simp (disch := omega) only [ea0, ea1, InI, Int.toNat_natCast, Int.tmod_eq_emod_of_nonneg, Int.tdiv_eq_ediv_of_nonneg, true_implies, true_or, or_true, mm_l18, mm_l19, mm_l20, mm_l21, mm_l22] at *)
    all_goals first | omega | exact q _ _ _ (by assumption) (by assumption) (by omega) _ (by omega) | skip
  clear k3 fin
  refine mm_wpZ_at (stop := [1289]) hC kkLc_26 (peLc_26 hl) 90 ?_
  repeat' (first | with_reducible assumption | with_reducible exact mm_i1 | with_reducible exact mm_i17 | with_reducible exact mm_i23 | ((with_reducible show mm_rv _ _ _ _ _); first | exact True.intro | exact mm_i1 | exact mm_i17 | exact mm_i23 | ((with_reducible show wA _); exact ha) | refine mm_sc hSC ?_ | ((with_reducible show InI _); exact hxI _)) | ((with_reducible show wA _); exact ha) | refine mm_sc hSC ?_ | ((with_reducible show InI _); exact hxI _) | ((with_reducible show mm_bool _ _); first | exact True.intro | exact Or.inl rfl | exact Or.inr rfl | (show (_ : Int) = 0 ∨ _ = 1)) | refine And.intro ?_ ?_ | intro _ | with_reducible exact True.intro | exact rfl | with_reducible exact Or.inl rfl | with_reducible exact Or.inr rfl | exact Nat.le_of_ble_eq_true rfl)
  all_goals (try simp (disch := omega) only [ea0, ea1, InI, Int.toNat_natCast, Int.tmod_eq_emod_of_nonneg, Int.tdiv_eq_ediv_of_nonneg, true_implies, true_or, or_true, mm_l18, mm_l19, mm_l20, mm_l21, mm_l22] at *)
  all_goals first | omega | exact k2 _ _ _ _ _ _ (by assumption) (by assumption) (by omega) (by omega) | skip
/-- 27: L_copy X5_copy -/
def kdLc_27 : List mm_E := [(1320, .aload_n 1, 0), (1321, .aload_n 0, 0), (1322, .iload 4, 0), (1324, .iconst 1, 0), (1325, .iadd, 0), (1326, .iaload, 0), (1327, .aload_n 0, 0), (1328, .iload 4, 0), (1330, .iconst 2, 0), (1331, .iadd, 0), (1332, .iaload, 0), (1333, .aload_n 3, 0), (1334, .invokestatic 242, 0), (1337, .istore 5, 0), (1339, .aload_n 2, 0), (1340, .aload_n 0, 0), (1341, .iload 4, 0), (1343, .iconst 1, 0), (1344, .iadd, 0), (1345, .iaload, 0), (1346, .aload_n 0, 0), (1347, .iload 4, 0), (1349, .iconst 2, 0), (1350, .iadd, 0), (1351, .iaload, 0), (1352, .invokevirtual 244, 0), (1355, .istore 6, 0), (1357, .goto 678, 2035)]
theorem kkLc_27 : mm_chk code kdLc_27 = true := mm_fck 1320 (by decide +kernel)
def ctLc_27 : List (Nat × mm_Ca) := [(242, (1, 4, 0, sp_L_copy, 2)), (244, (0, 3, 14, sp_X5_copy, 0))]
theorem peLc_27 {l : Launch} (hl : l.stackTraces = false) : mm_PEs l RL (mm_rm 2048 84000 0) ctLc_27 := ⟨mm_pe (me_L_copy hl) mwL_copy (mm_t4 123 rfl rfl) (Nat.le_of_ble_eq_true rfl) (Nat.le_of_ble_eq_true rfl), mm_pe (me_X5_copy hl) mwX5_copy (mm_t7 148 rfl rfl) (Nat.le_of_ble_eq_true rfl) (Nat.le_of_ble_eq_true rfl), trivial⟩
set_option maxRecDepth 20000 in
theorem csL_27 {l : Launch} {SC : Nat → Option (Nat × (Nat → Int32))} {MU : Nat} {Z : Nat → mm_K} (hl : l.stackTraces = false) (hC : mm_CZ l SC MU Z) {b L n u : Nat} {xs : Nat → Int32} {i : Int} {M : mm_M} (hSC : SC b = some (L, xs)) (hL : L < 2147483648) (hi : 0 ≤ i ∧ i + 5 ≤ L) (hI : LI n M) (hn : n ≤ 1000) (hu : u + 100 ≤ MU) (fin : ∀ M' x5 x6 u', LI (n + 1) M' → u' ≤ u + 100 → Z 2035 [some (mm_X b), some (mm_R 1), some (mm_R 17), some (mm_R 23), some (mm_I i), x5, x6] [] M' [] u') (x5 x6 : Option mm_V) : Z 1320 [some (mm_X b), some (mm_R 1), some (mm_R 17), some (mm_R 23), some (mm_I i), x5, x6] [] M [] u := by
  have ha := hI.1
  have hA0 := hxI (xs (i + 1).toNat)
  obtain ⟨a0, ea0⟩ : ∃ a, (xs (i + 1).toNat).toInt = a := ⟨_, rfl⟩
  rw [ea0] at hA0
  have hA1 := hxI (xs (i + 2).toNat)
  obtain ⟨a1, ea1⟩ : ∃ a, (xs (i + 2).toNat).toInt = a := ⟨_, rfl⟩
  rw [ea1] at hA1
  have k3 : ∀ M2 (e r' : Int) u2, LI (n + 1) M2 → u2 ≤ u + 80 → Z 1355 [some (mm_X b), some (mm_R 1), some (mm_R 17), some (mm_R 23), some (mm_I i), some (mm_I e), x6] [mm_I r'] M2 [] u2 := by
    intro M2 e r' u2 hI2 hu2
    have fin2 := fun x5 x6 u' h => fin M2 x5 x6 u' hI2 h
    clear fin
    refine mm_wpZ_at (stop := [2035]) hC kkLc_27 (peLc_27 hl) 90 ?_
    repeat' (first | with_reducible assumption | with_reducible exact mm_i1 | with_reducible exact mm_i17 | with_reducible exact mm_i23 | ((with_reducible show mm_rv _ _ _ _ _); first | exact True.intro | exact mm_i1 | exact mm_i17 | exact mm_i23) | ((with_reducible show mm_bool _ _); first | exact True.intro | exact Or.inl rfl | exact Or.inr rfl | (show (_ : Int) = 0 ∨ _ = 1)) | refine And.intro ?_ ?_ | intro _ | with_reducible exact True.intro | exact rfl | with_reducible exact Or.inl rfl | with_reducible exact Or.inr rfl | exact Nat.le_of_ble_eq_true rfl)
    all_goals (try simp (disch := omega) only [InI, Int.toNat_natCast, Int.tmod_eq_emod_of_nonneg, Int.tdiv_eq_ediv_of_nonneg, true_implies, true_or, or_true, mm_l18, mm_l19, mm_l20, mm_l21, mm_l22] at *)
    all_goals first | omega | exact fin2 _ _ _ (by omega) | skip
  have k2 : ∀ M1 M2 e r u1, hlP M M1 M2 e r → C_copy a0 a1 M M1 e r → u1 ≤ u + 60 → Z 1337 [some (mm_X b), some (mm_R 1), some (mm_R 17), some (mm_R 23), some (mm_I i), x5, x6] [mm_I e] M2 [] u1 := by
    intro  M1 M2 e r u1 hh hc  hu1
    have hx := hl_x hI hh.1 hh.2.2.1
    have q : ∀ M' (r' : Int) , xP M2 M' → C_copy a0 a1 (vX M2) (vX M') (M' 17 0) r' → ∀ u2, u2 ≤ u + 80 → Z 1355 [some (mm_X b), some (mm_R 1), some (mm_R 17), some (mm_R 23), some (mm_I i), some (mm_I e), x6] [mm_I r'] M' [] u2 := by
      intro M' r' h3 h4  u2 hu2
      obtain ⟨p1, p2, p3⟩ := P_copy hI hh.1 hh.2.2.1 hc h3 h4
      exact k3 M' e r' u2 p1 hu2
    clear k3 hh hc fin
    refine mm_wpZ_at (stop := [1355]) hC kkLc_27 (peLc_27 hl) 90 ?_
    repeat' (first | with_reducible assumption | with_reducible exact mm_i1 | with_reducible exact mm_i17 | with_reducible exact mm_i23 | ((with_reducible show mm_rv _ _ _ _ _); first | exact True.intro | exact mm_i1 | exact mm_i17 | exact mm_i23 | ((with_reducible show xA _); exact hx) | refine mm_sc hSC ?_ | ((with_reducible show InI _); exact hxI _)) | ((with_reducible show xA _); exact hx) | refine mm_sc hSC ?_ | ((with_reducible show InI _); exact hxI _) | ((with_reducible show mm_bool _ _); first | exact True.intro | exact Or.inl rfl | exact Or.inr rfl | (show (_ : Int) = 0 ∨ _ = 1)) | refine And.intro ?_ ?_ | intro _ | with_reducible exact True.intro | exact rfl | with_reducible exact Or.inl rfl | with_reducible exact Or.inr rfl | exact Nat.le_of_ble_eq_true rfl)
    all_goals (try simp (disch := omega) only [ea0, ea1, InI, Int.toNat_natCast, Int.tmod_eq_emod_of_nonneg, Int.tdiv_eq_ediv_of_nonneg, true_implies, true_or, or_true, mm_l18, mm_l19, mm_l20, mm_l21, mm_l22] at *)
    all_goals first | omega | exact q _ _ (by assumption) (by assumption) _ (by omega) | skip
  clear k3 fin
  refine mm_wpZ_at (stop := [1337]) hC kkLc_27 (peLc_27 hl) 90 ?_
  repeat' (first | with_reducible assumption | with_reducible exact mm_i1 | with_reducible exact mm_i17 | with_reducible exact mm_i23 | ((with_reducible show mm_rv _ _ _ _ _); first | exact True.intro | exact mm_i1 | exact mm_i17 | exact mm_i23 | ((with_reducible show wA _); exact ha) | refine mm_sc hSC ?_ | ((with_reducible show InI _); exact hxI _)) | ((with_reducible show wA _); exact ha) | refine mm_sc hSC ?_ | ((with_reducible show InI _); exact hxI _) | ((with_reducible show mm_bool _ _); first | exact True.intro | exact Or.inl rfl | exact Or.inr rfl | (show (_ : Int) = 0 ∨ _ = 1)) | refine And.intro ?_ ?_ | intro _ | with_reducible exact True.intro | exact rfl | with_reducible exact Or.inl rfl | with_reducible exact Or.inr rfl | exact Nat.le_of_ble_eq_true rfl)
  all_goals (try simp (disch := omega) only [ea0, ea1, InI, Int.toNat_natCast, Int.tmod_eq_emod_of_nonneg, Int.tdiv_eq_ediv_of_nonneg, true_implies, true_or, or_true, mm_l18, mm_l19, mm_l20, mm_l21, mm_l22] at *)
  all_goals first | omega | exact k2 _ _ _ _ _ (by assumption) (by assumption) (by omega) | skip

