/-! the law: its cases -/
/-- 28: L_length X5_length -/
def kdLc_28 : List mm_E := [(1360, .aload_n 1, 0), (1361, .aload_n 0, 0), (1362, .iload 4, 0), (1364, .iconst 1, 0), (1365, .iadd, 0), (1366, .iaload, 0), (1367, .aload_n 3, 0), (1368, .invokestatic 245, 0), (1371, .istore 5, 0), (1373, .aload_n 2, 0), (1374, .aload_n 0, 0), (1375, .iload 4, 0), (1377, .iconst 1, 0), (1378, .iadd, 0), (1379, .iaload, 0), (1380, .invokevirtual 247, 0), (1383, .istore 6, 0), (1385, .goto 650, 2035)]
theorem kkLc_28 : mm_chk code kdLc_28 = true := mm_fck 1360 (by decide +kernel)
def ctLc_28 : List (Nat × mm_Ca) := [(245, (1, 3, 0, sp_L_length, 1)), (247, (0, 2, 14, sp_X5_length, 0))]
theorem peLc_28 {l : Launch} (hl : l.stackTraces = false) : mm_PEs l RL (mm_rm 2048 84000 0) ctLc_28 := ⟨mm_pe (me_L_length hl) mwL_length (mm_t4 130 rfl rfl) (Nat.le_of_ble_eq_true rfl) (Nat.le_of_ble_eq_true rfl), mm_pe (me_X5_length hl) mwX5_length (mm_t7 152 rfl rfl) (Nat.le_of_ble_eq_true rfl) (Nat.le_of_ble_eq_true rfl), trivial⟩
set_option maxRecDepth 20000 in
theorem csL_28 {l : Launch} {SC : Nat → Option (Nat × (Nat → Int32))} {MU : Nat} {Z : Nat → mm_K} (hl : l.stackTraces = false) (hC : mm_CZ l SC MU Z) {b L n u : Nat} {xs : Nat → Int32} {i : Int} {M : mm_M} (hSC : SC b = some (L, xs)) (hL : L < 2147483648) (hi : 0 ≤ i ∧ i + 5 ≤ L) (hI : LI n M) (hn : n ≤ 1000) (hu : u + 100 ≤ MU) (fin : ∀ M' x5 x6 u', LI (n + 1) M' → u' ≤ u + 100 → Z 2035 [some (mm_X b), some (mm_R 1), some (mm_R 17), some (mm_R 23), some (mm_I i), x5, x6] [] M' [] u') (x5 x6 : Option mm_V) : Z 1360 [some (mm_X b), some (mm_R 1), some (mm_R 17), some (mm_R 23), some (mm_I i), x5, x6] [] M [] u := by
  have ha := hI.1
  have hA0 := hxI (xs (i + 1).toNat)
  obtain ⟨a0, ea0⟩ : ∃ a, (xs (i + 1).toNat).toInt = a := ⟨_, rfl⟩
  rw [ea0] at hA0
  have k3 : ∀ M2 (e r' : Int) u2, LI (n + 1) M2 → u2 ≤ u + 80 → Z 1383 [some (mm_X b), some (mm_R 1), some (mm_R 17), some (mm_R 23), some (mm_I i), some (mm_I e), x6] [mm_I r'] M2 [] u2 := by
    intro M2 e r' u2 hI2 hu2
    have fin2 := fun x5 x6 u' h => fin M2 x5 x6 u' hI2 h
    clear fin
    refine mm_wpZ_at (stop := [2035]) hC kkLc_28 (peLc_28 hl) 90 ?_
    repeat' (first | with_reducible assumption | with_reducible exact mm_i1 | with_reducible exact mm_i17 | with_reducible exact mm_i23 | ((with_reducible show mm_rv _ _ _ _ _); first | exact True.intro | exact mm_i1 | exact mm_i17 | exact mm_i23) | ((with_reducible show mm_bool _ _); first | exact True.intro | exact Or.inl rfl | exact Or.inr rfl | (show (_ : Int) = 0 ∨ _ = 1)) | refine And.intro ?_ ?_ | intro _ | with_reducible exact True.intro | exact rfl | with_reducible exact Or.inl rfl | with_reducible exact Or.inr rfl | exact Nat.le_of_ble_eq_true rfl)
    all_goals (try simp (disch := omega) only [InI, Int.toNat_natCast, Int.tmod_eq_emod_of_nonneg, Int.tdiv_eq_ediv_of_nonneg, true_implies, true_or, or_true, mm_l18, mm_l19, mm_l20, mm_l21, mm_l22] at *)
    all_goals first | omega | exact fin2 _ _ _ (by omega) | skip
  have k2 : ∀ M1 M2 e r u1, hlP M M1 M2 e r → C_length a0 M M1 e r → u1 ≤ u + 60 → Z 1371 [some (mm_X b), some (mm_R 1), some (mm_R 17), some (mm_R 23), some (mm_I i), x5, x6] [mm_I e] M2 [] u1 := by
    intro  M1 M2 e r u1 hh hc  hu1
    have hx := hl_x hI hh.1 hh.2.2.1
    have q : ∀ M' (r' : Int) , xP M2 M' → C_length a0 (vX M2) (vX M') (M' 17 0) r' → ∀ u2, u2 ≤ u + 80 → Z 1383 [some (mm_X b), some (mm_R 1), some (mm_R 17), some (mm_R 23), some (mm_I i), some (mm_I e), x6] [mm_I r'] M' [] u2 := by
      intro M' r' h3 h4  u2 hu2
      obtain ⟨p1, p2, p3⟩ := P_length hI hh.1 hh.2.2.1 hc h3 h4
      exact k3 M' e r' u2 p1 hu2
    clear k3 hh hc fin
    refine mm_wpZ_at (stop := [1383]) hC kkLc_28 (peLc_28 hl) 90 ?_
    repeat' (first | with_reducible assumption | with_reducible exact mm_i1 | with_reducible exact mm_i17 | with_reducible exact mm_i23 | ((with_reducible show mm_rv _ _ _ _ _); first | exact True.intro | exact mm_i1 | exact mm_i17 | exact mm_i23 | ((with_reducible show xA _); exact hx) | refine mm_sc hSC ?_ | ((with_reducible show InI _); exact hxI _)) | ((with_reducible show xA _); exact hx) | refine mm_sc hSC ?_ | ((with_reducible show InI _); exact hxI _) | ((with_reducible show mm_bool _ _); first | exact True.intro | exact Or.inl rfl | exact Or.inr rfl | (show (_ : Int) = 0 ∨ _ = 1)) | refine And.intro ?_ ?_ | intro _ | with_reducible exact True.intro | exact rfl | with_reducible exact Or.inl rfl | with_reducible exact Or.inr rfl | exact Nat.le_of_ble_eq_true rfl)
    all_goals (try simp (disch := omega) only [ea0, InI, Int.toNat_natCast, Int.tmod_eq_emod_of_nonneg, Int.tdiv_eq_ediv_of_nonneg, true_implies, true_or, or_true, mm_l18, mm_l19, mm_l20, mm_l21, mm_l22] at *)
    all_goals first | omega | exact q _ _ (by assumption) (by assumption) _ (by omega) | skip
  clear k3 fin
  refine mm_wpZ_at (stop := [1371]) hC kkLc_28 (peLc_28 hl) 90 ?_
  repeat' (first | with_reducible assumption | with_reducible exact mm_i1 | with_reducible exact mm_i17 | with_reducible exact mm_i23 | ((with_reducible show mm_rv _ _ _ _ _); first | exact True.intro | exact mm_i1 | exact mm_i17 | exact mm_i23 | ((with_reducible show wA _); exact ha) | refine mm_sc hSC ?_ | ((with_reducible show InI _); exact hxI _)) | ((with_reducible show wA _); exact ha) | refine mm_sc hSC ?_ | ((with_reducible show InI _); exact hxI _) | ((with_reducible show mm_bool _ _); first | exact True.intro | exact Or.inl rfl | exact Or.inr rfl | (show (_ : Int) = 0 ∨ _ = 1)) | refine And.intro ?_ ?_ | intro _ | with_reducible exact True.intro | exact rfl | with_reducible exact Or.inl rfl | with_reducible exact Or.inr rfl | exact Nat.le_of_ble_eq_true rfl)
  all_goals (try simp (disch := omega) only [ea0, InI, Int.toNat_natCast, Int.tmod_eq_emod_of_nonneg, Int.tdiv_eq_ediv_of_nonneg, true_implies, true_or, or_true, mm_l18, mm_l19, mm_l20, mm_l21, mm_l22] at *)
  all_goals first | omega | exact k2 _ _ _ _ _ (by assumption) (by assumption) (by omega) | skip
/-- 29: L_cornerAt X5_cornerAt -/
def kdLc_29 : List mm_E := [(1388, .aload_n 1, 0), (1389, .aload_n 0, 0), (1390, .iload 4, 0), (1392, .iconst 1, 0), (1393, .iadd, 0), (1394, .iaload, 0), (1395, .aload_n 0, 0), (1396, .iload 4, 0), (1398, .iconst 2, 0), (1399, .iadd, 0), (1400, .iaload, 0), (1401, .aload_n 3, 0), (1402, .invokestatic 248, 0), (1405, .istore 5, 0), (1407, .aload_n 2, 0), (1408, .aload_n 0, 0), (1409, .iload 4, 0), (1411, .iconst 1, 0), (1412, .iadd, 0), (1413, .iaload, 0), (1414, .aload_n 0, 0), (1415, .iload 4, 0), (1417, .iconst 2, 0), (1418, .iadd, 0), (1419, .iaload, 0), (1420, .invokevirtual 250, 0), (1423, .istore 6, 0), (1425, .goto 610, 2035)]
theorem kkLc_29 : mm_chk code kdLc_29 = true := mm_fck 1388 (by decide +kernel)
def ctLc_29 : List (Nat × mm_Ca) := [(248, (1, 4, 0, sp_L_cornerAt, 2)), (250, (0, 3, 14, sp_X5_cornerAt, 0))]
theorem peLc_29 {l : Launch} (hl : l.stackTraces = false) : mm_PEs l RL (mm_rm 2048 84000 0) ctLc_29 := ⟨mm_pe (me_L_cornerAt hl) mwL_cornerAt (mm_t4 137 rfl rfl) (Nat.le_of_ble_eq_true rfl) (Nat.le_of_ble_eq_true rfl), mm_pe (me_X5_cornerAt hl) mwX5_cornerAt (mm_t7 156 rfl rfl) (Nat.le_of_ble_eq_true rfl) (Nat.le_of_ble_eq_true rfl), trivial⟩
set_option maxRecDepth 20000 in
theorem csL_29 {l : Launch} {SC : Nat → Option (Nat × (Nat → Int32))} {MU : Nat} {Z : Nat → mm_K} (hl : l.stackTraces = false) (hC : mm_CZ l SC MU Z) {b L n u : Nat} {xs : Nat → Int32} {i : Int} {M : mm_M} (hSC : SC b = some (L, xs)) (hL : L < 2147483648) (hi : 0 ≤ i ∧ i + 5 ≤ L) (hI : LI n M) (hn : n ≤ 1000) (hu : u + 100 ≤ MU) (fin : ∀ M' x5 x6 u', LI (n + 1) M' → u' ≤ u + 100 → Z 2035 [some (mm_X b), some (mm_R 1), some (mm_R 17), some (mm_R 23), some (mm_I i), x5, x6] [] M' [] u') (x5 x6 : Option mm_V) : Z 1388 [some (mm_X b), some (mm_R 1), some (mm_R 17), some (mm_R 23), some (mm_I i), x5, x6] [] M [] u := by
  have ha := hI.1
  have hA0 := hxI (xs (i + 1).toNat)
  obtain ⟨a0, ea0⟩ : ∃ a, (xs (i + 1).toNat).toInt = a := ⟨_, rfl⟩
  rw [ea0] at hA0
  have hA1 := hxI (xs (i + 2).toNat)
  obtain ⟨a1, ea1⟩ : ∃ a, (xs (i + 2).toNat).toInt = a := ⟨_, rfl⟩
  rw [ea1] at hA1
  have k3 : ∀ M2 (e r' : Int) u2, LI (n + 1) M2 → u2 ≤ u + 80 → Z 1423 [some (mm_X b), some (mm_R 1), some (mm_R 17), some (mm_R 23), some (mm_I i), some (mm_I e), x6] [mm_I r'] M2 [] u2 := by
    intro M2 e r' u2 hI2 hu2
    have fin2 := fun x5 x6 u' h => fin M2 x5 x6 u' hI2 h
    clear fin
    refine mm_wpZ_at (stop := [2035]) hC kkLc_29 (peLc_29 hl) 90 ?_
    repeat' (first | with_reducible assumption | with_reducible exact mm_i1 | with_reducible exact mm_i17 | with_reducible exact mm_i23 | ((with_reducible show mm_rv _ _ _ _ _); first | exact True.intro | exact mm_i1 | exact mm_i17 | exact mm_i23) | ((with_reducible show mm_bool _ _); first | exact True.intro | exact Or.inl rfl | exact Or.inr rfl | (show (_ : Int) = 0 ∨ _ = 1)) | refine And.intro ?_ ?_ | intro _ | with_reducible exact True.intro | exact rfl | with_reducible exact Or.inl rfl | with_reducible exact Or.inr rfl | exact Nat.le_of_ble_eq_true rfl)
    all_goals (try simp (disch := omega) only [InI, Int.toNat_natCast, Int.tmod_eq_emod_of_nonneg, Int.tdiv_eq_ediv_of_nonneg, true_implies, true_or, or_true, mm_l18, mm_l19, mm_l20, mm_l21, mm_l22] at *)
    all_goals first | omega | exact fin2 _ _ _ (by omega) | skip
  have k2 : ∀ M1 M2 e r u1, hlP M M1 M2 e r → C_cornerAt a0 a1 M M1 e r → u1 ≤ u + 60 → Z 1405 [some (mm_X b), some (mm_R 1), some (mm_R 17), some (mm_R 23), some (mm_I i), x5, x6] [mm_I e] M2 [] u1 := by
    intro  M1 M2 e r u1 hh hc  hu1
    have hx := hl_x hI hh.1 hh.2.2.1
    have q : ∀ M' (r' : Int) , xP M2 M' → C_cornerAt a0 a1 (vX M2) (vX M') (M' 17 0) r' → ∀ u2, u2 ≤ u + 80 → Z 1423 [some (mm_X b), some (mm_R 1), some (mm_R 17), some (mm_R 23), some (mm_I i), some (mm_I e), x6] [mm_I r'] M' [] u2 := by
      intro M' r' h3 h4  u2 hu2
      obtain ⟨p1, p2, p3⟩ := P_cornerAt hI hh.1 hh.2.2.1 hc h3 h4
      exact k3 M' e r' u2 p1 hu2
    clear k3 hh hc fin
    refine mm_wpZ_at (stop := [1423]) hC kkLc_29 (peLc_29 hl) 90 ?_
    repeat' (first | with_reducible assumption | with_reducible exact mm_i1 | with_reducible exact mm_i17 | with_reducible exact mm_i23 | ((with_reducible show mm_rv _ _ _ _ _); first | exact True.intro | exact mm_i1 | exact mm_i17 | exact mm_i23 | ((with_reducible show xA _); exact hx) | refine mm_sc hSC ?_ | ((with_reducible show InI _); exact hxI _)) | ((with_reducible show xA _); exact hx) | refine mm_sc hSC ?_ | ((with_reducible show InI _); exact hxI _) | ((with_reducible show mm_bool _ _); first | exact True.intro | exact Or.inl rfl | exact Or.inr rfl | (show (_ : Int) = 0 ∨ _ = 1)) | refine And.intro ?_ ?_ | intro _ | with_reducible exact True.intro | exact rfl | with_reducible exact Or.inl rfl | with_reducible exact Or.inr rfl | exact Nat.le_of_ble_eq_true rfl)
    all_goals (try simp (disch := omega) only [ea0, ea1, InI, Int.toNat_natCast, Int.tmod_eq_emod_of_nonneg, Int.tdiv_eq_ediv_of_nonneg, true_implies, true_or, or_true, mm_l18, mm_l19, mm_l20, mm_l21, mm_l22] at *)
    all_goals first | omega | exact q _ _ (by assumption) (by assumption) _ (by omega) | skip
  clear k3 fin
  refine mm_wpZ_at (stop := [1405]) hC kkLc_29 (peLc_29 hl) 90 ?_
  repeat' (first | with_reducible assumption | with_reducible exact mm_i1 | with_reducible exact mm_i17 | with_reducible exact mm_i23 | ((with_reducible show mm_rv _ _ _ _ _); first | exact True.intro | exact mm_i1 | exact mm_i17 | exact mm_i23 | ((with_reducible show wA _); exact ha) | refine mm_sc hSC ?_ | ((with_reducible show InI _); exact hxI _)) | ((with_reducible show wA _); exact ha) | refine mm_sc hSC ?_ | ((with_reducible show InI _); exact hxI _) | ((with_reducible show mm_bool _ _); first | exact True.intro | exact Or.inl rfl | exact Or.inr rfl | (show (_ : Int) = 0 ∨ _ = 1)) | refine And.intro ?_ ?_ | intro _ | with_reducible exact True.intro | exact rfl | with_reducible exact Or.inl rfl | with_reducible exact Or.inr rfl | exact Nat.le_of_ble_eq_true rfl)
  all_goals (try simp (disch := omega) only [ea0, ea1, InI, Int.toNat_natCast, Int.tmod_eq_emod_of_nonneg, Int.tdiv_eq_ediv_of_nonneg, true_implies, true_or, or_true, mm_l18, mm_l19, mm_l20, mm_l21, mm_l22] at *)
  all_goals first | omega | exact k2 _ _ _ _ _ (by assumption) (by assumption) (by omega) | skip
/-- 30: L_stepAt X5_stepAt -/
def kdLc_30 : List mm_E := [(1428, .aload_n 1, 0), (1429, .aload_n 0, 0), (1430, .iload 4, 0), (1432, .iconst 1, 0), (1433, .iadd, 0), (1434, .iaload, 0), (1435, .aload_n 0, 0), (1436, .iload 4, 0), (1438, .iconst 2, 0), (1439, .iadd, 0), (1440, .iaload, 0), (1441, .aload_n 3, 0), (1442, .invokestatic 251, 0), (1445, .istore 5, 0), (1447, .aload_n 2, 0), (1448, .aload_n 0, 0), (1449, .iload 4, 0), (1451, .iconst 1, 0), (1452, .iadd, 0), (1453, .iaload, 0), (1454, .aload_n 0, 0), (1455, .iload 4, 0), (1457, .iconst 2, 0), (1458, .iadd, 0), (1459, .iaload, 0), (1460, .invokevirtual 253, 0), (1463, .istore 6, 0), (1465, .goto 570, 2035)]
theorem kkLc_30 : mm_chk code kdLc_30 = true := mm_fck 1428 (by decide +kernel)
def ctLc_30 : List (Nat × mm_Ca) := [(251, (1, 4, 0, sp_L_stepAt, 2)), (253, (0, 3, 14, sp_X5_stepAt, 0))]
theorem peLc_30 {l : Launch} (hl : l.stackTraces = false) : mm_PEs l RL (mm_rm 2048 84000 0) ctLc_30 := ⟨mm_pe (me_L_stepAt hl) mwL_stepAt (mm_t4 144 rfl rfl) (Nat.le_of_ble_eq_true rfl) (Nat.le_of_ble_eq_true rfl), mm_pe (me_X5_stepAt hl) mwX5_stepAt (mm_t7 160 rfl rfl) (Nat.le_of_ble_eq_true rfl) (Nat.le_of_ble_eq_true rfl), trivial⟩
set_option maxRecDepth 20000 in
theorem csL_30 {l : Launch} {SC : Nat → Option (Nat × (Nat → Int32))} {MU : Nat} {Z : Nat → mm_K} (hl : l.stackTraces = false) (hC : mm_CZ l SC MU Z) {b L n u : Nat} {xs : Nat → Int32} {i : Int} {M : mm_M} (hSC : SC b = some (L, xs)) (hL : L < 2147483648) (hi : 0 ≤ i ∧ i + 5 ≤ L) (hI : LI n M) (hn : n ≤ 1000) (hu : u + 100 ≤ MU) (fin : ∀ M' x5 x6 u', LI (n + 1) M' → u' ≤ u + 100 → Z 2035 [some (mm_X b), some (mm_R 1), some (mm_R 17), some (mm_R 23), some (mm_I i), x5, x6] [] M' [] u') (x5 x6 : Option mm_V) : Z 1428 [some (mm_X b), some (mm_R 1), some (mm_R 17), some (mm_R 23), some (mm_I i), x5, x6] [] M [] u := by
  have ha := hI.1
  have hA0 := hxI (xs (i + 1).toNat)
  obtain ⟨a0, ea0⟩ : ∃ a, (xs (i + 1).toNat).toInt = a := ⟨_, rfl⟩
  rw [ea0] at hA0
  have hA1 := hxI (xs (i + 2).toNat)
  obtain ⟨a1, ea1⟩ : ∃ a, (xs (i + 2).toNat).toInt = a := ⟨_, rfl⟩
  rw [ea1] at hA1
  have k3 : ∀ M2 (e r' : Int) u2, LI (n + 1) M2 → u2 ≤ u + 80 → Z 1463 [some (mm_X b), some (mm_R 1), some (mm_R 17), some (mm_R 23), some (mm_I i), some (mm_I e), x6] [mm_I r'] M2 [] u2 := by
    intro M2 e r' u2 hI2 hu2
    have fin2 := fun x5 x6 u' h => fin M2 x5 x6 u' hI2 h
    clear fin
    refine mm_wpZ_at (stop := [2035]) hC kkLc_30 (peLc_30 hl) 90 ?_
    repeat' (first | with_reducible assumption | with_reducible exact mm_i1 | with_reducible exact mm_i17 | with_reducible exact mm_i23 | ((with_reducible show mm_rv _ _ _ _ _); first | exact True.intro | exact mm_i1 | exact mm_i17 | exact mm_i23) | ((with_reducible show mm_bool _ _); first | exact True.intro | exact Or.inl rfl | exact Or.inr rfl | (show (_ : Int) = 0 ∨ _ = 1)) | refine And.intro ?_ ?_ | intro _ | with_reducible exact True.intro | exact rfl | with_reducible exact Or.inl rfl | with_reducible exact Or.inr rfl | exact Nat.le_of_ble_eq_true rfl)
    all_goals (try simp (disch := omega) only [InI, Int.toNat_natCast, Int.tmod_eq_emod_of_nonneg, Int.tdiv_eq_ediv_of_nonneg, true_implies, true_or, or_true, mm_l18, mm_l19, mm_l20, mm_l21, mm_l22] at *)
    all_goals first | omega | exact fin2 _ _ _ (by omega) | skip
  have k2 : ∀ M1 M2 e r u1, hlP M M1 M2 e r → C_stepAt a0 a1 M M1 e r → u1 ≤ u + 60 → Z 1445 [some (mm_X b), some (mm_R 1), some (mm_R 17), some (mm_R 23), some (mm_I i), x5, x6] [mm_I e] M2 [] u1 := by
    intro  M1 M2 e r u1 hh hc  hu1
    have hx := hl_x hI hh.1 hh.2.2.1
    have q : ∀ M' (r' : Int) , xP M2 M' → C_stepAt a0 a1 (vX M2) (vX M') (M' 17 0) r' → ∀ u2, u2 ≤ u + 80 → Z 1463 [some (mm_X b), some (mm_R 1), some (mm_R 17), some (mm_R 23), some (mm_I i), some (mm_I e), x6] [mm_I r'] M' [] u2 := by
      intro M' r' h3 h4  u2 hu2
      obtain ⟨p1, p2, p3⟩ := P_stepAt hI hh.1 hh.2.2.1 hc h3 h4
      exact k3 M' e r' u2 p1 hu2
    clear k3 hh hc fin
    refine mm_wpZ_at (stop := [1463]) hC kkLc_30 (peLc_30 hl) 90 ?_
    repeat' (first | with_reducible assumption | with_reducible exact mm_i1 | with_reducible exact mm_i17 | with_reducible exact mm_i23 | ((with_reducible show mm_rv _ _ _ _ _); first | exact True.intro | exact mm_i1 | exact mm_i17 | exact mm_i23 | ((with_reducible show xA _); exact hx) | refine mm_sc hSC ?_ | ((with_reducible show InI _); exact hxI _)) | ((with_reducible show xA _); exact hx) | refine mm_sc hSC ?_ | ((with_reducible show InI _); exact hxI _) | ((with_reducible show mm_bool _ _); first | exact True.intro | exact Or.inl rfl | exact Or.inr rfl | (show (_ : Int) = 0 ∨ _ = 1)) | refine And.intro ?_ ?_ | intro _ | with_reducible exact True.intro | exact rfl | with_reducible exact Or.inl rfl | with_reducible exact Or.inr rfl | exact Nat.le_of_ble_eq_true rfl)
    all_goals (try simp (disch := omega) only [ea0, ea1, InI, Int.toNat_natCast, Int.tmod_eq_emod_of_nonneg, Int.tdiv_eq_ediv_of_nonneg, true_implies, true_or, or_true, mm_l18, mm_l19, mm_l20, mm_l21, mm_l22] at *)
    all_goals first | omega | exact q _ _ (by assumption) (by assumption) _ (by omega) | skip
  clear k3 fin
  refine mm_wpZ_at (stop := [1445]) hC kkLc_30 (peLc_30 hl) 90 ?_
  repeat' (first | with_reducible assumption | with_reducible exact mm_i1 | with_reducible exact mm_i17 | with_reducible exact mm_i23 | ((with_reducible show mm_rv _ _ _ _ _); first | exact True.intro | exact mm_i1 | exact mm_i17 | exact mm_i23 | ((with_reducible show wA _); exact ha) | refine mm_sc hSC ?_ | ((with_reducible show InI _); exact hxI _)) | ((with_reducible show wA _); exact ha) | refine mm_sc hSC ?_ | ((with_reducible show InI _); exact hxI _) | ((with_reducible show mm_bool _ _); first | exact True.intro | exact Or.inl rfl | exact Or.inr rfl | (show (_ : Int) = 0 ∨ _ = 1)) | refine And.intro ?_ ?_ | intro _ | with_reducible exact True.intro | exact rfl | with_reducible exact Or.inl rfl | with_reducible exact Or.inr rfl | exact Nat.le_of_ble_eq_true rfl)
  all_goals (try simp (disch := omega) only [ea0, ea1, InI, Int.toNat_natCast, Int.tmod_eq_emod_of_nonneg, Int.tdiv_eq_ediv_of_nonneg, true_implies, true_or, or_true, mm_l18, mm_l19, mm_l20, mm_l21, mm_l22] at *)
  all_goals first | omega | exact k2 _ _ _ _ _ (by assumption) (by assumption) (by omega) | skip
/-- 31: L_find X5_find -/
def kdLc_31 : List mm_E := [(1468, .aload_n 1, 0), (1469, .aload_n 0, 0), (1470, .iload 4, 0), (1472, .iconst 1, 0), (1473, .iadd, 0), (1474, .iaload, 0), (1475, .aload_n 0, 0), (1476, .iload 4, 0), (1478, .iconst 2, 0), (1479, .iadd, 0), (1480, .iaload, 0), (1481, .aload_n 3, 0), (1482, .invokestatic 254, 0), (1485, .istore 5, 0), (1487, .aload_n 2, 0), (1488, .aload_n 0, 0), (1489, .iload 4, 0), (1491, .iconst 1, 0), (1492, .iadd, 0), (1493, .iaload, 0), (1494, .aload_n 0, 0), (1495, .iload 4, 0), (1497, .iconst 2, 0), (1498, .iadd, 0), (1499, .iaload, 0), (1500, .invokevirtual 256, 0), (1503, .istore 6, 0), (1505, .goto 530, 2035)]
theorem kkLc_31 : mm_chk code kdLc_31 = true := mm_fck 1468 (by decide +kernel)
def ctLc_31 : List (Nat × mm_Ca) := [(254, (1, 4, 0, sp_L_find, 2)), (256, (0, 3, 14, sp_X5_find, 0))]
theorem peLc_31 {l : Launch} (hl : l.stackTraces = false) : mm_PEs l RL (mm_rm 2048 84000 0) ctLc_31 := ⟨mm_pe (me_L_find hl) mwL_find (mm_t4 151 rfl rfl) (Nat.le_of_ble_eq_true rfl) (Nat.le_of_ble_eq_true rfl), mm_pe (me_X5_find hl) mwX5_find (mm_t7 164 rfl rfl) (Nat.le_of_ble_eq_true rfl) (Nat.le_of_ble_eq_true rfl), trivial⟩
set_option maxRecDepth 20000 in
theorem csL_31 {l : Launch} {SC : Nat → Option (Nat × (Nat → Int32))} {MU : Nat} {Z : Nat → mm_K} (hl : l.stackTraces = false) (hC : mm_CZ l SC MU Z) {b L n u : Nat} {xs : Nat → Int32} {i : Int} {M : mm_M} (hSC : SC b = some (L, xs)) (hL : L < 2147483648) (hi : 0 ≤ i ∧ i + 5 ≤ L) (hI : LI n M) (hn : n ≤ 1000) (hu : u + 100 ≤ MU) (fin : ∀ M' x5 x6 u', LI (n + 1) M' → u' ≤ u + 100 → Z 2035 [some (mm_X b), some (mm_R 1), some (mm_R 17), some (mm_R 23), some (mm_I i), x5, x6] [] M' [] u') (x5 x6 : Option mm_V) : Z 1468 [some (mm_X b), some (mm_R 1), some (mm_R 17), some (mm_R 23), some (mm_I i), x5, x6] [] M [] u := by
  have ha := hI.1
  have hA0 := hxI (xs (i + 1).toNat)
  obtain ⟨a0, ea0⟩ : ∃ a, (xs (i + 1).toNat).toInt = a := ⟨_, rfl⟩
  rw [ea0] at hA0
  have hA1 := hxI (xs (i + 2).toNat)
  obtain ⟨a1, ea1⟩ : ∃ a, (xs (i + 2).toNat).toInt = a := ⟨_, rfl⟩
  rw [ea1] at hA1
  have k3 : ∀ M2 (e r' : Int) u2, LI (n + 1) M2 → u2 ≤ u + 80 → Z 1503 [some (mm_X b), some (mm_R 1), some (mm_R 17), some (mm_R 23), some (mm_I i), some (mm_I e), x6] [mm_I r'] M2 [] u2 := by
    intro M2 e r' u2 hI2 hu2
    have fin2 := fun x5 x6 u' h => fin M2 x5 x6 u' hI2 h
    clear fin
    refine mm_wpZ_at (stop := [2035]) hC kkLc_31 (peLc_31 hl) 90 ?_
    repeat' (first | with_reducible assumption | with_reducible exact mm_i1 | with_reducible exact mm_i17 | with_reducible exact mm_i23 | ((with_reducible show mm_rv _ _ _ _ _); first | exact True.intro | exact mm_i1 | exact mm_i17 | exact mm_i23) | ((with_reducible show mm_bool _ _); first | exact True.intro | exact Or.inl rfl | exact Or.inr rfl | (show (_ : Int) = 0 ∨ _ = 1)) | refine And.intro ?_ ?_ | intro _ | with_reducible exact True.intro | exact rfl | with_reducible exact Or.inl rfl | with_reducible exact Or.inr rfl | exact Nat.le_of_ble_eq_true rfl)
    all_goals (try simp (disch := omega) only [InI, Int.toNat_natCast, Int.tmod_eq_emod_of_nonneg, Int.tdiv_eq_ediv_of_nonneg, true_implies, true_or, or_true, mm_l18, mm_l19, mm_l20, mm_l21, mm_l22] at *)
    all_goals first | omega | exact fin2 _ _ _ (by omega) | skip
  have k2 : ∀ M1 M2 e r u1, hlP M M1 M2 e r → C_find a0 a1 M M1 e r → u1 ≤ u + 60 → Z 1485 [some (mm_X b), some (mm_R 1), some (mm_R 17), some (mm_R 23), some (mm_I i), x5, x6] [mm_I e] M2 [] u1 := by
    intro  M1 M2 e r u1 hh hc  hu1
    have hx := hl_x hI hh.1 hh.2.2.1
    have q : ∀ M' (r' : Int) , xP M2 M' → C_find a0 a1 (vX M2) (vX M') (M' 17 0) r' → ∀ u2, u2 ≤ u + 80 → Z 1503 [some (mm_X b), some (mm_R 1), some (mm_R 17), some (mm_R 23), some (mm_I i), some (mm_I e), x6] [mm_I r'] M' [] u2 := by
      intro M' r' h3 h4  u2 hu2
      obtain ⟨p1, p2, p3⟩ := P_find hI hh.1 hh.2.2.1 hc h3 h4
      exact k3 M' e r' u2 p1 hu2
    clear k3 hh hc fin
    refine mm_wpZ_at (stop := [1503]) hC kkLc_31 (peLc_31 hl) 90 ?_
    repeat' (first | with_reducible assumption | with_reducible exact mm_i1 | with_reducible exact mm_i17 | with_reducible exact mm_i23 | ((with_reducible show mm_rv _ _ _ _ _); first | exact True.intro | exact mm_i1 | exact mm_i17 | exact mm_i23 | ((with_reducible show xA _); exact hx) | refine mm_sc hSC ?_ | ((with_reducible show InI _); exact hxI _)) | ((with_reducible show xA _); exact hx) | refine mm_sc hSC ?_ | ((with_reducible show InI _); exact hxI _) | ((with_reducible show mm_bool _ _); first | exact True.intro | exact Or.inl rfl | exact Or.inr rfl | (show (_ : Int) = 0 ∨ _ = 1)) | refine And.intro ?_ ?_ | intro _ | with_reducible exact True.intro | exact rfl | with_reducible exact Or.inl rfl | with_reducible exact Or.inr rfl | exact Nat.le_of_ble_eq_true rfl)
    all_goals (try simp (disch := omega) only [ea0, ea1, InI, Int.toNat_natCast, Int.tmod_eq_emod_of_nonneg, Int.tdiv_eq_ediv_of_nonneg, true_implies, true_or, or_true, mm_l18, mm_l19, mm_l20, mm_l21, mm_l22] at *)
    all_goals first | omega | exact q _ _ (by assumption) (by assumption) _ (by omega) | skip
  clear k3 fin
  refine mm_wpZ_at (stop := [1485]) hC kkLc_31 (peLc_31 hl) 90 ?_
  repeat' (first | with_reducible assumption | with_reducible exact mm_i1 | with_reducible exact mm_i17 | with_reducible exact mm_i23 | ((with_reducible show mm_rv _ _ _ _ _); first | exact True.intro | exact mm_i1 | exact mm_i17 | exact mm_i23 | ((with_reducible show wA _); exact ha) | refine mm_sc hSC ?_ | ((with_reducible show InI _); exact hxI _)) | ((with_reducible show wA _); exact ha) | refine mm_sc hSC ?_ | ((with_reducible show InI _); exact hxI _) | ((with_reducible show mm_bool _ _); first | exact True.intro | exact Or.inl rfl | exact Or.inr rfl | (show (_ : Int) = 0 ∨ _ = 1)) | refine And.intro ?_ ?_ | intro _ | with_reducible exact True.intro | exact rfl | with_reducible exact Or.inl rfl | with_reducible exact Or.inr rfl | exact Nat.le_of_ble_eq_true rfl)
  all_goals (try simp (disch := omega) only [ea0, ea1, InI, Int.toNat_natCast, Int.tmod_eq_emod_of_nonneg, Int.tdiv_eq_ediv_of_nonneg, true_implies, true_or, or_true, mm_l18, mm_l19, mm_l20, mm_l21, mm_l22] at *)
  all_goals first | omega | exact k2 _ _ _ _ _ (by assumption) (by assumption) (by omega) | skip
/-- 32: L_is X5_is -/
def kdLc_32 : List mm_E := [(1508, .aload_n 1, 0), (1509, .aload_n 0, 0), (1510, .iload 4, 0), (1512, .iconst 1, 0), (1513, .iadd, 0), (1514, .iaload, 0), (1515, .aload_n 0, 0), (1516, .iload 4, 0), (1518, .iconst 2, 0), (1519, .iadd, 0), (1520, .iaload, 0), (1521, .ifCond .eq 7, 1528), (1524, .iconst 1, 0), (1525, .goto 4, 1529), (1528, .iconst 0, 0), (1529, .aload_n 3, 0), (1530, .invokestatic 257, 0), (1533, .istore 5, 0), (1535, .aload_n 2, 0), (1536, .aload_n 0, 0), (1537, .iload 4, 0), (1539, .iconst 1, 0), (1540, .iadd, 0), (1541, .iaload, 0), (1542, .aload_n 0, 0), (1543, .iload 4, 0), (1545, .iconst 2, 0), (1546, .iadd, 0), (1547, .iaload, 0), (1548, .ifCond .eq 7, 1555), (1551, .iconst 1, 0), (1552, .goto 4, 1556), (1555, .iconst 0, 0), (1556, .invokevirtual 259, 0), (1559, .istore 6, 0), (1561, .goto 474, 2035)]
theorem kkLc_32 : mm_chk code kdLc_32 = true := mm_fck 1508 (by decide +kernel)
def ctLc_32 : List (Nat × mm_Ca) := [(257, (1, 4, 0, sp_L_is, 1)), (259, (0, 3, 14, sp_X5_is, 0))]
theorem peLc_32 {l : Launch} (hl : l.stackTraces = false) : mm_PEs l RL (mm_rm 2048 84000 0) ctLc_32 := ⟨mm_pe (me_L_is hl) mwL_is (mm_t4 158 rfl rfl) (Nat.le_of_ble_eq_true rfl) (Nat.le_of_ble_eq_true rfl), mm_pe (me_X5_is hl) mwX5_is (mm_t7 168 rfl rfl) (Nat.le_of_ble_eq_true rfl) (Nat.le_of_ble_eq_true rfl), trivial⟩
set_option maxRecDepth 20000 in
theorem csL_32 {l : Launch} {SC : Nat → Option (Nat × (Nat → Int32))} {MU : Nat} {Z : Nat → mm_K} (hl : l.stackTraces = false) (hC : mm_CZ l SC MU Z) {b L n u : Nat} {xs : Nat → Int32} {i : Int} {M : mm_M} (hSC : SC b = some (L, xs)) (hL : L < 2147483648) (hi : 0 ≤ i ∧ i + 5 ≤ L) (hI : LI n M) (hn : n ≤ 1000) (hu : u + 100 ≤ MU) (fin : ∀ M' x5 x6 u', LI (n + 1) M' → u' ≤ u + 100 → Z 2035 [some (mm_X b), some (mm_R 1), some (mm_R 17), some (mm_R 23), some (mm_I i), x5, x6] [] M' [] u') (x5 x6 : Option mm_V) : Z 1508 [some (mm_X b), some (mm_R 1), some (mm_R 17), some (mm_R 23), some (mm_I i), x5, x6] [] M [] u := by
  have ha := hI.1
  have hA0 := hxI (xs (i + 1).toNat)
  obtain ⟨a0, ea0⟩ : ∃ a, (xs (i + 1).toNat).toInt = a := ⟨_, rfl⟩
  rw [ea0] at hA0
  have hA1 := hxI (xs (i + 2).toNat)
  obtain ⟨a1, ea1⟩ : ∃ a, (xs (i + 2).toNat).toInt = a := ⟨_, rfl⟩
  rw [ea1] at hA1
  have k3 : ∀ M2 (e r' : Int) u2, LI (n + 1) M2 → u2 ≤ u + 80 → Z 1559 [some (mm_X b), some (mm_R 1), some (mm_R 17), some (mm_R 23), some (mm_I i), some (mm_I e), x6] [mm_I r'] M2 [] u2 := by
    intro M2 e r' u2 hI2 hu2
    have fin2 := fun x5 x6 u' h => fin M2 x5 x6 u' hI2 h
    clear fin
    refine mm_wpZ_at (stop := [2035]) hC kkLc_32 (peLc_32 hl) 90 ?_
    repeat' (first | with_reducible assumption | with_reducible exact mm_i1 | with_reducible exact mm_i17 | with_reducible exact mm_i23 | ((with_reducible show mm_rv _ _ _ _ _); first | exact True.intro | exact mm_i1 | exact mm_i17 | exact mm_i23) | ((with_reducible show mm_bool _ _); first | exact True.intro | exact Or.inl rfl | exact Or.inr rfl | (show (_ : Int) = 0 ∨ _ = 1)) | refine And.intro ?_ ?_ | intro _ | with_reducible exact True.intro | exact rfl | with_reducible exact Or.inl rfl | with_reducible exact Or.inr rfl | exact Nat.le_of_ble_eq_true rfl)
    all_goals (try simp (disch := omega) only [InI, Int.toNat_natCast, Int.tmod_eq_emod_of_nonneg, Int.tdiv_eq_ediv_of_nonneg, true_implies, true_or, or_true, mm_l18, mm_l19, mm_l20, mm_l21, mm_l22] at *)
    all_goals first | omega | exact fin2 _ _ _ (by omega) | skip
  have k2 : ∀ (f1 : Int) M1 M2 e r u1, hlP M M1 M2 e r → C_is a0 f1 M M1 e r → ((f1 = 0 ∧ a1 = 0) ∨ (f1 = 1 ∧ a1 ≠ 0)) → u1 ≤ u + 60 → Z 1533 [some (mm_X b), some (mm_R 1), some (mm_R 17), some (mm_R 23), some (mm_I i), x5, x6] [mm_I e] M2 [] u1 := by
    intro f1 M1 M2 e r u1 hh hc hb1 hu1
    have hf1 : f1 = 0 ∨ f1 = 1 := by omega
    have hx := hl_x hI hh.1 hh.2.2.1
    have q : ∀ M' (r' : Int) f1' , xP M2 M' → C_is a0 f1' (vX M2) (vX M') (M' 17 0) r' → f1' = f1 → ∀ u2, u2 ≤ u + 80 → Z 1559 [some (mm_X b), some (mm_R 1), some (mm_R 17), some (mm_R 23), some (mm_I i), some (mm_I e), x6] [mm_I r'] M' [] u2 := by
      intro M' r' f1' h3 h4 e1 u2 hu2
      subst e1
      obtain ⟨p1, p2, p3⟩ := P_is hf1 hI hh.1 hh.2.2.1 hc h3 h4
      exact k3 M' e r' u2 p1 hu2
    clear k3 hh hc fin
    refine mm_wpZ_at (stop := [1559]) hC kkLc_32 (peLc_32 hl) 90 ?_
    repeat' (first | with_reducible assumption | with_reducible exact mm_i1 | with_reducible exact mm_i17 | with_reducible exact mm_i23 | ((with_reducible show mm_rv _ _ _ _ _); first | exact True.intro | exact mm_i1 | exact mm_i17 | exact mm_i23 | ((with_reducible show xA _); exact hx) | refine mm_sc hSC ?_ | ((with_reducible show InI _); exact hxI _)) | ((with_reducible show xA _); exact hx) | refine mm_sc hSC ?_ | ((with_reducible show InI _); exact hxI _) | ((with_reducible show mm_bool _ _); first | exact True.intro | exact Or.inl rfl | exact Or.inr rfl | (show (_ : Int) = 0 ∨ _ = 1)) | refine And.intro ?_ ?_ | intro _ | with_reducible exact True.intro | exact rfl | with_reducible exact Or.inl rfl | with_reducible exact Or.inr rfl | exact Nat.le_of_ble_eq_true rfl)
    all_goals (try simp (disch := omega) only [ea0, ea1, InI, Int.toNat_natCast, Int.tmod_eq_emod_of_nonneg, Int.tdiv_eq_ediv_of_nonneg, true_implies, true_or, or_true, mm_l18, mm_l19, mm_l20, mm_l21, mm_l22] at *)
    all_goals first | omega | exact q _ _ _ (by assumption) (by assumption) (by omega) _ (by omega) | skip
  clear k3 fin
  refine mm_wpZ_at (stop := [1533]) hC kkLc_32 (peLc_32 hl) 90 ?_
  repeat' (first | with_reducible assumption | with_reducible exact mm_i1 | with_reducible exact mm_i17 | with_reducible exact mm_i23 | ((with_reducible show mm_rv _ _ _ _ _); first | exact True.intro | exact mm_i1 | exact mm_i17 | exact mm_i23 | ((with_reducible show wA _); exact ha) | refine mm_sc hSC ?_ | ((with_reducible show InI _); exact hxI _)) | ((with_reducible show wA _); exact ha) | refine mm_sc hSC ?_ | ((with_reducible show InI _); exact hxI _) | ((with_reducible show mm_bool _ _); first | exact True.intro | exact Or.inl rfl | exact Or.inr rfl | (show (_ : Int) = 0 ∨ _ = 1)) | refine And.intro ?_ ?_ | intro _ | with_reducible exact True.intro | exact rfl | with_reducible exact Or.inl rfl | with_reducible exact Or.inr rfl | exact Nat.le_of_ble_eq_true rfl)
  all_goals (try simp (disch := omega) only [ea0, ea1, InI, Int.toNat_natCast, Int.tmod_eq_emod_of_nonneg, Int.tdiv_eq_ediv_of_nonneg, true_implies, true_or, or_true, mm_l18, mm_l19, mm_l20, mm_l21, mm_l22] at *)
  all_goals first | omega | exact k2 _ _ _ _ _ _ (by assumption) (by assumption) (by omega) (by omega) | skip
/-- 33: L_same X5_same -/
def kdLc_33 : List mm_E := [(1564, .aload_n 1, 0), (1565, .aload_n 0, 0), (1566, .iload 4, 0), (1568, .iconst 1, 0), (1569, .iadd, 0), (1570, .iaload, 0), (1571, .aload_n 0, 0), (1572, .iload 4, 0), (1574, .iconst 2, 0), (1575, .iadd, 0), (1576, .iaload, 0), (1577, .aload_n 3, 0), (1578, .invokestatic 260, 0), (1581, .istore 5, 0), (1583, .aload_n 2, 0), (1584, .aload_n 0, 0), (1585, .iload 4, 0), (1587, .iconst 1, 0), (1588, .iadd, 0), (1589, .iaload, 0), (1590, .aload_n 0, 0), (1591, .iload 4, 0), (1593, .iconst 2, 0), (1594, .iadd, 0), (1595, .iaload, 0), (1596, .invokevirtual 262, 0), (1599, .istore 6, 0), (1601, .goto 434, 2035)]
theorem kkLc_33 : mm_chk code kdLc_33 = true := mm_fck 1564 (by decide +kernel)
def ctLc_33 : List (Nat × mm_Ca) := [(260, (1, 4, 0, sp_L_same, 2)), (262, (0, 3, 14, sp_X5_same, 0))]
theorem peLc_33 {l : Launch} (hl : l.stackTraces = false) : mm_PEs l RL (mm_rm 2048 84000 0) ctLc_33 := ⟨mm_pe (me_L_same hl) mwL_same (mm_t4 165 rfl rfl) (Nat.le_of_ble_eq_true rfl) (Nat.le_of_ble_eq_true rfl), mm_pe (me_X5_same hl) mwX5_same (mm_t7 172 rfl rfl) (Nat.le_of_ble_eq_true rfl) (Nat.le_of_ble_eq_true rfl), trivial⟩
set_option maxRecDepth 20000 in
theorem csL_33 {l : Launch} {SC : Nat → Option (Nat × (Nat → Int32))} {MU : Nat} {Z : Nat → mm_K} (hl : l.stackTraces = false) (hC : mm_CZ l SC MU Z) {b L n u : Nat} {xs : Nat → Int32} {i : Int} {M : mm_M} (hSC : SC b = some (L, xs)) (hL : L < 2147483648) (hi : 0 ≤ i ∧ i + 5 ≤ L) (hI : LI n M) (hn : n ≤ 1000) (hu : u + 100 ≤ MU) (fin : ∀ M' x5 x6 u', LI (n + 1) M' → u' ≤ u + 100 → Z 2035 [some (mm_X b), some (mm_R 1), some (mm_R 17), some (mm_R 23), some (mm_I i), x5, x6] [] M' [] u') (x5 x6 : Option mm_V) : Z 1564 [some (mm_X b), some (mm_R 1), some (mm_R 17), some (mm_R 23), some (mm_I i), x5, x6] [] M [] u := by
  have ha := hI.1
  have hA0 := hxI (xs (i + 1).toNat)
  obtain ⟨a0, ea0⟩ : ∃ a, (xs (i + 1).toNat).toInt = a := ⟨_, rfl⟩
  rw [ea0] at hA0
  have hA1 := hxI (xs (i + 2).toNat)
  obtain ⟨a1, ea1⟩ : ∃ a, (xs (i + 2).toNat).toInt = a := ⟨_, rfl⟩
  rw [ea1] at hA1
  have k3 : ∀ M2 (e r' : Int) u2, LI (n + 1) M2 → u2 ≤ u + 80 → Z 1599 [some (mm_X b), some (mm_R 1), some (mm_R 17), some (mm_R 23), some (mm_I i), some (mm_I e), x6] [mm_I r'] M2 [] u2 := by
    intro M2 e r' u2 hI2 hu2
    have fin2 := fun x5 x6 u' h => fin M2 x5 x6 u' hI2 h
    clear fin
    refine mm_wpZ_at (stop := [2035]) hC kkLc_33 (peLc_33 hl) 90 ?_
    repeat' (first | with_reducible assumption | with_reducible exact mm_i1 | with_reducible exact mm_i17 | with_reducible exact mm_i23 | ((with_reducible show mm_rv _ _ _ _ _); first | exact True.intro | exact mm_i1 | exact mm_i17 | exact mm_i23) | ((with_reducible show mm_bool _ _); first | exact True.intro | exact Or.inl rfl | exact Or.inr rfl | (show (_ : Int) = 0 ∨ _ = 1)) | refine And.intro ?_ ?_ | intro _ | with_reducible exact True.intro | exact rfl | with_reducible exact Or.inl rfl | with_reducible exact Or.inr rfl | exact Nat.le_of_ble_eq_true rfl)
    all_goals (try simp (disch := omega) only [InI, Int.toNat_natCast, Int.tmod_eq_emod_of_nonneg, Int.tdiv_eq_ediv_of_nonneg, true_implies, true_or, or_true, mm_l18, mm_l19, mm_l20, mm_l21, mm_l22] at *)
    all_goals first | omega | exact fin2 _ _ _ (by omega) | skip
  have k2 : ∀ M1 M2 e r u1, hlP M M1 M2 e r → C_same a0 a1 M M1 e r → u1 ≤ u + 60 → Z 1581 [some (mm_X b), some (mm_R 1), some (mm_R 17), some (mm_R 23), some (mm_I i), x5, x6] [mm_I e] M2 [] u1 := by
    intro  M1 M2 e r u1 hh hc  hu1
    have hx := hl_x hI hh.1 hh.2.2.1
    have q : ∀ M' (r' : Int) , xP M2 M' → C_same a0 a1 (vX M2) (vX M') (M' 17 0) r' → ∀ u2, u2 ≤ u + 80 → Z 1599 [some (mm_X b), some (mm_R 1), some (mm_R 17), some (mm_R 23), some (mm_I i), some (mm_I e), x6] [mm_I r'] M' [] u2 := by
      intro M' r' h3 h4  u2 hu2
      obtain ⟨p1, p2, p3⟩ := P_same hI hh.1 hh.2.2.1 hc h3 h4
      exact k3 M' e r' u2 p1 hu2
    clear k3 hh hc fin
    refine mm_wpZ_at (stop := [1599]) hC kkLc_33 (peLc_33 hl) 90 ?_
    repeat' (first | with_reducible assumption | with_reducible exact mm_i1 | with_reducible exact mm_i17 | with_reducible exact mm_i23 | ((with_reducible show mm_rv _ _ _ _ _); first | exact True.intro | exact mm_i1 | exact mm_i17 | exact mm_i23 | ((with_reducible show xA _); exact hx) | refine mm_sc hSC ?_ | ((with_reducible show InI _); exact hxI _)) | ((with_reducible show xA _); exact hx) | refine mm_sc hSC ?_ | ((with_reducible show InI _); exact hxI _) | ((with_reducible show mm_bool _ _); first | exact True.intro | exact Or.inl rfl | exact Or.inr rfl | (show (_ : Int) = 0 ∨ _ = 1)) | refine And.intro ?_ ?_ | intro _ | with_reducible exact True.intro | exact rfl | with_reducible exact Or.inl rfl | with_reducible exact Or.inr rfl | exact Nat.le_of_ble_eq_true rfl)
    all_goals (try simp (disch := omega) only [ea0, ea1, InI, Int.toNat_natCast, Int.tmod_eq_emod_of_nonneg, Int.tdiv_eq_ediv_of_nonneg, true_implies, true_or, or_true, mm_l18, mm_l19, mm_l20, mm_l21, mm_l22] at *)
    all_goals first | omega | exact q _ _ (by assumption) (by assumption) _ (by omega) | skip
  clear k3 fin
  refine mm_wpZ_at (stop := [1581]) hC kkLc_33 (peLc_33 hl) 90 ?_
  repeat' (first | with_reducible assumption | with_reducible exact mm_i1 | with_reducible exact mm_i17 | with_reducible exact mm_i23 | ((with_reducible show mm_rv _ _ _ _ _); first | exact True.intro | exact mm_i1 | exact mm_i17 | exact mm_i23 | ((with_reducible show wA _); exact ha) | refine mm_sc hSC ?_ | ((with_reducible show InI _); exact hxI _)) | ((with_reducible show wA _); exact ha) | refine mm_sc hSC ?_ | ((with_reducible show InI _); exact hxI _) | ((with_reducible show mm_bool _ _); first | exact True.intro | exact Or.inl rfl | exact Or.inr rfl | (show (_ : Int) = 0 ∨ _ = 1)) | refine And.intro ?_ ?_ | intro _ | with_reducible exact True.intro | exact rfl | with_reducible exact Or.inl rfl | with_reducible exact Or.inr rfl | exact Nat.le_of_ble_eq_true rfl)
  all_goals (try simp (disch := omega) only [ea0, ea1, InI, Int.toNat_natCast, Int.tmod_eq_emod_of_nonneg, Int.tdiv_eq_ediv_of_nonneg, true_implies, true_or, or_true, mm_l18, mm_l19, mm_l20, mm_l21, mm_l22] at *)
  all_goals first | omega | exact k2 _ _ _ _ _ (by assumption) (by assumption) (by omega) | skip
/-- 34: L_turnOf X5_turnOf -/
def kdLc_34 : List mm_E := [(1604, .aload_n 1, 0), (1605, .aload_n 0, 0), (1606, .iload 4, 0), (1608, .iconst 1, 0), (1609, .iadd, 0), (1610, .iaload, 0), (1611, .aload_n 0, 0), (1612, .iload 4, 0), (1614, .iconst 2, 0), (1615, .iadd, 0), (1616, .iaload, 0), (1617, .aload_n 3, 0), (1618, .invokestatic 263, 0), (1621, .istore 5, 0), (1623, .aload_n 2, 0), (1624, .aload_n 0, 0), (1625, .iload 4, 0), (1627, .iconst 1, 0), (1628, .iadd, 0), (1629, .iaload, 0), (1630, .aload_n 0, 0), (1631, .iload 4, 0), (1633, .iconst 2, 0), (1634, .iadd, 0), (1635, .iaload, 0), (1636, .invokevirtual 265, 0), (1639, .istore 6, 0), (1641, .goto 394, 2035)]
theorem kkLc_34 : mm_chk code kdLc_34 = true := mm_fck 1604 (by decide +kernel)
def ctLc_34 : List (Nat × mm_Ca) := [(263, (1, 4, 0, sp_L_turnOf, 2)), (265, (0, 3, 14, sp_X5_turnOf, 0))]
theorem peLc_34 {l : Launch} (hl : l.stackTraces = false) : mm_PEs l RL (mm_rm 2048 84000 0) ctLc_34 := ⟨mm_pe (me_L_turnOf hl) mwL_turnOf (mm_t4 173 rfl rfl) (Nat.le_of_ble_eq_true rfl) (Nat.le_of_ble_eq_true rfl), mm_pe (me_X5_turnOf hl) mwX5_turnOf (mm_t7 180 rfl rfl) (Nat.le_of_ble_eq_true rfl) (Nat.le_of_ble_eq_true rfl), trivial⟩
set_option maxRecDepth 20000 in
theorem csL_34 {l : Launch} {SC : Nat → Option (Nat × (Nat → Int32))} {MU : Nat} {Z : Nat → mm_K} (hl : l.stackTraces = false) (hC : mm_CZ l SC MU Z) {b L n u : Nat} {xs : Nat → Int32} {i : Int} {M : mm_M} (hSC : SC b = some (L, xs)) (hL : L < 2147483648) (hi : 0 ≤ i ∧ i + 5 ≤ L) (hI : LI n M) (hn : n ≤ 1000) (hu : u + 100 ≤ MU) (fin : ∀ M' x5 x6 u', LI (n + 1) M' → u' ≤ u + 100 → Z 2035 [some (mm_X b), some (mm_R 1), some (mm_R 17), some (mm_R 23), some (mm_I i), x5, x6] [] M' [] u') (x5 x6 : Option mm_V) : Z 1604 [some (mm_X b), some (mm_R 1), some (mm_R 17), some (mm_R 23), some (mm_I i), x5, x6] [] M [] u := by
  have ha := hI.1
  have hA0 := hxI (xs (i + 1).toNat)
  obtain ⟨a0, ea0⟩ : ∃ a, (xs (i + 1).toNat).toInt = a := ⟨_, rfl⟩
  rw [ea0] at hA0
  have hA1 := hxI (xs (i + 2).toNat)
  obtain ⟨a1, ea1⟩ : ∃ a, (xs (i + 2).toNat).toInt = a := ⟨_, rfl⟩
  rw [ea1] at hA1
  have k3 : ∀ M2 (e r' : Int) u2, LI (n + 1) M2 → u2 ≤ u + 80 → Z 1639 [some (mm_X b), some (mm_R 1), some (mm_R 17), some (mm_R 23), some (mm_I i), some (mm_I e), x6] [mm_I r'] M2 [] u2 := by
    intro M2 e r' u2 hI2 hu2
    have fin2 := fun x5 x6 u' h => fin M2 x5 x6 u' hI2 h
    clear fin
    refine mm_wpZ_at (stop := [2035]) hC kkLc_34 (peLc_34 hl) 90 ?_
    repeat' (first | with_reducible assumption | with_reducible exact mm_i1 | with_reducible exact mm_i17 | with_reducible exact mm_i23 | ((with_reducible show mm_rv _ _ _ _ _); first | exact True.intro | exact mm_i1 | exact mm_i17 | exact mm_i23) | ((with_reducible show mm_bool _ _); first | exact True.intro | exact Or.inl rfl | exact Or.inr rfl | (show (_ : Int) = 0 ∨ _ = 1)) | refine And.intro ?_ ?_ | intro _ | with_reducible exact True.intro | exact rfl | with_reducible exact Or.inl rfl | with_reducible exact Or.inr rfl | exact Nat.le_of_ble_eq_true rfl)
    all_goals (try simp (disch := omega) only [InI, Int.toNat_natCast, Int.tmod_eq_emod_of_nonneg, Int.tdiv_eq_ediv_of_nonneg, true_implies, true_or, or_true, mm_l18, mm_l19, mm_l20, mm_l21, mm_l22] at *)
    all_goals first | omega | exact fin2 _ _ _ (by omega) | skip
  have k2 : ∀ M1 M2 e r u1, hlP M M1 M2 e r → C_turnOf a0 a1 M M1 e r → u1 ≤ u + 60 → Z 1621 [some (mm_X b), some (mm_R 1), some (mm_R 17), some (mm_R 23), some (mm_I i), x5, x6] [mm_I e] M2 [] u1 := by
    intro  M1 M2 e r u1 hh hc  hu1
    have hx := hl_x hI hh.1 hh.2.2.1
    have q : ∀ M' (r' : Int) , xP M2 M' → C_turnOf a0 a1 (vX M2) (vX M') (M' 17 0) r' → ∀ u2, u2 ≤ u + 80 → Z 1639 [some (mm_X b), some (mm_R 1), some (mm_R 17), some (mm_R 23), some (mm_I i), some (mm_I e), x6] [mm_I r'] M' [] u2 := by
      intro M' r' h3 h4  u2 hu2
      obtain ⟨p1, p2, p3⟩ := P_turnOf hI hh.1 hh.2.2.1 hc h3 h4
      exact k3 M' e r' u2 p1 hu2
    clear k3 hh hc fin
    refine mm_wpZ_at (stop := [1639]) hC kkLc_34 (peLc_34 hl) 90 ?_
    repeat' (first | with_reducible assumption | with_reducible exact mm_i1 | with_reducible exact mm_i17 | with_reducible exact mm_i23 | ((with_reducible show mm_rv _ _ _ _ _); first | exact True.intro | exact mm_i1 | exact mm_i17 | exact mm_i23 | ((with_reducible show xA _); exact hx) | refine mm_sc hSC ?_ | ((with_reducible show InI _); exact hxI _)) | ((with_reducible show xA _); exact hx) | refine mm_sc hSC ?_ | ((with_reducible show InI _); exact hxI _) | ((with_reducible show mm_bool _ _); first | exact True.intro | exact Or.inl rfl | exact Or.inr rfl | (show (_ : Int) = 0 ∨ _ = 1)) | refine And.intro ?_ ?_ | intro _ | with_reducible exact True.intro | exact rfl | with_reducible exact Or.inl rfl | with_reducible exact Or.inr rfl | exact Nat.le_of_ble_eq_true rfl)
    all_goals (try simp (disch := omega) only [ea0, ea1, InI, Int.toNat_natCast, Int.tmod_eq_emod_of_nonneg, Int.tdiv_eq_ediv_of_nonneg, true_implies, true_or, or_true, mm_l18, mm_l19, mm_l20, mm_l21, mm_l22] at *)
    all_goals first | omega | exact q _ _ (by assumption) (by assumption) _ (by omega) | skip
  clear k3 fin
  refine mm_wpZ_at (stop := [1621]) hC kkLc_34 (peLc_34 hl) 90 ?_
  repeat' (first | with_reducible assumption | with_reducible exact mm_i1 | with_reducible exact mm_i17 | with_reducible exact mm_i23 | ((with_reducible show mm_rv _ _ _ _ _); first | exact True.intro | exact mm_i1 | exact mm_i17 | exact mm_i23 | ((with_reducible show wA _); exact ha) | refine mm_sc hSC ?_ | ((with_reducible show InI _); exact hxI _)) | ((with_reducible show wA _); exact ha) | refine mm_sc hSC ?_ | ((with_reducible show InI _); exact hxI _) | ((with_reducible show mm_bool _ _); first | exact True.intro | exact Or.inl rfl | exact Or.inr rfl | (show (_ : Int) = 0 ∨ _ = 1)) | refine And.intro ?_ ?_ | intro _ | with_reducible exact True.intro | exact rfl | with_reducible exact Or.inl rfl | with_reducible exact Or.inr rfl | exact Nat.le_of_ble_eq_true rfl)
  all_goals (try simp (disch := omega) only [ea0, ea1, InI, Int.toNat_natCast, Int.tmod_eq_emod_of_nonneg, Int.tdiv_eq_ediv_of_nonneg, true_implies, true_or, or_true, mm_l18, mm_l19, mm_l20, mm_l21, mm_l22] at *)
  all_goals first | omega | exact k2 _ _ _ _ _ (by assumption) (by assumption) (by omega) | skip

