/-! the law: its cases -/
/-- 42: X3_cursorCan X5_cursorCan -/
def kdLc_42 : List mm_E := [(1857, .aload_n 1, 0), (1858, .aload_n 0, 0), (1859, .iload 4, 0), (1861, .iconst 1, 0), (1862, .iadd, 0), (1863, .iaload, 0), (1864, .ifCond .eq 7, 1871), (1867, .iconst 1, 0), (1868, .goto 4, 1872), (1871, .iconst 0, 0), (1872, .invokevirtual 286, 0), (1875, .pop, 0), (1876, .aload_n 2, 0), (1877, .aload_n 0, 0), (1878, .iload 4, 0), (1880, .iconst 1, 0), (1881, .iadd, 0), (1882, .iaload, 0), (1883, .ifCond .eq 7, 1890), (1886, .iconst 1, 0), (1887, .goto 4, 1891), (1890, .iconst 0, 0), (1891, .invokevirtual 290, 0), (1894, .pop, 0), (1895, .goto 111, 2006)]
theorem kkLc_42 : mm_chk code kdLc_42 = true := by decide +kernel
def ctLc_42 : List (Nat × mm_Ca) := [(286, (0, 2, 10, sp_X3_cursorCan, 0)), (290, (0, 2, 14, sp_X5_cursorCan, 0))]
theorem peLc_42 {l : Launch} (hl : l.stackTraces = false) : mm_PEs l RL (mm_rm 2048 84000 0) ctLc_42 := ⟨mm_pe (me_X3_cursorCan hl) mwX3_cursorCan (mm_t2 76 rfl rfl) (Nat.le_of_ble_eq_true rfl) (Nat.le_of_ble_eq_true rfl), mm_pe (me_X5_cursorCan hl) mwX5_cursorCan (mm_t8 3 rfl rfl) (Nat.le_of_ble_eq_true rfl) (Nat.le_of_ble_eq_true rfl), trivial⟩
set_option maxRecDepth 20000 in
theorem csL_42 {l : Launch} {SC : Nat → Option (Nat × (Nat → Int32))} {MU : Nat} {Z : Nat → mm_K} (hl : l.stackTraces = false) (hC : mm_CZ l SC MU Z) {b L n u : Nat} {xs : Nat → Int32} {i : Int} {M : mm_M} (hSC : SC b = some (L, xs)) (hL : L < 2147483648) (hi : 0 ≤ i ∧ i + 5 ≤ L) (hI : LI n M) (hn : n ≤ 1000) (hu : u + 100 ≤ MU) (fin : ∀ M' x5 x6 u', LI (n + 1) M' → u' ≤ u + 100 → Z 2006 [some (mm_X b), some (mm_R 1), some (mm_R 17), some (mm_R 23), some (mm_I i), x5, x6] [] M' [] u') (x5 x6 : Option mm_V) : Z 1857 [some (mm_X b), some (mm_R 1), some (mm_R 17), some (mm_R 23), some (mm_I i), x5, x6] [] M [] u := by
  have ha := hI.1
  have hA0 := hxI (xs (i + 1).toNat)
  obtain ⟨a0, ea0⟩ : ∃ a, (xs (i + 1).toNat).toInt = a := ⟨_, rfl⟩
  rw [ea0] at hA0
  have k3 : ∀ M2 (r r' : Int) u2, LI (n + 1) M2 → r = r' → InI r → u2 ≤ u + 80 → Z 1894 [some (mm_X b), some (mm_R 1), some (mm_R 17), some (mm_R 23), some (mm_I i), x5, x6] [mm_I r'] M2 [] u2 := by
    intro M2 r r' u2 hI2 hr hir hu2
    have fin2 := fun x5 x6 u' h => fin M2 x5 x6 u' hI2 h
    clear fin
    refine mm_wpZ_at (stop := [2006]) hC kkLc_42 (peLc_42 hl) 90 ?_
    repeat' (first | with_reducible assumption | with_reducible exact True.intro | with_reducible exact mm_i1 | with_reducible exact mm_i17 | with_reducible exact mm_i23 | ((with_reducible show mm_rv _ _ _ _ _); first | exact True.intro | exact mm_i1 | exact mm_i17 | exact mm_i23) | ((with_reducible show mm_bool _ _); first | exact True.intro | exact Or.inl rfl | exact Or.inr rfl | (show (_ : Int) = 0 ∨ _ = 1)) | rfl | with_reducible exact Or.inl rfl | with_reducible exact Or.inr rfl | exact Nat.le_of_ble_eq_true rfl | refine And.intro ?_ ?_ | intro _)
    all_goals (try simp (disch := omega) only [InI, Int.toNat_natCast, Int.tmod_eq_emod_of_nonneg, Int.tdiv_eq_ediv_of_nonneg, true_implies, true_or, or_true, mm_l18, mm_l19, mm_l20, mm_l21, mm_l22] at *)
    all_goals first | omega | exact fin2 _ _ _ (by omega) | skip
  have k2 : ∀ (f0 : Int) M1 r u1, ((f0 = 0 ∧ a0 = 0) ∨ (f0 = 1 ∧ a0 ≠ 0)) → cP M M1 → InI r → C_cursorCan f0 M M1 0 r → u1 ≤ u + 60 → Z 1875 [some (mm_X b), some (mm_R 1), some (mm_R 17), some (mm_R 23), some (mm_I i), x5, x6] [mm_I r] M1 [] u1 := by
    intro f0 M1 r u1 hb0 hP hir hc hu1
    have hf0 : f0 = 0 ∨ f0 = 1 := by omega
    have hx := hl_x hI hP (fun _ _ => rfl)
    have q : ∀ M' (r' : Int) f0' , xP M1 M' → C_cursorCan f0' (vX M1) (vX M') (M' 17 0) r' → f0' = f0 → ∀ u2, u2 ≤ u + 80 → Z 1894 [some (mm_X b), some (mm_R 1), some (mm_R 17), some (mm_R 23), some (mm_I i), x5, x6] [mm_I r'] M' [] u2 := by
      intro M' r' f0' h3 h4 e0 u2 hu2
      subst e0
      obtain ⟨p1, p2, p3⟩ := P_cursorCan hf0 hI hP (fun _ _ => rfl) hc h3 h4
      exact k3 M' r r' u2 p1 (p3 rfl) hir hu2
    clear k3 hP hc fin
    refine mm_wpZ_at (stop := [1894]) hC kkLc_42 (peLc_42 hl) 90 ?_
    repeat' (first | with_reducible assumption | with_reducible exact True.intro | with_reducible exact mm_i1 | with_reducible exact mm_i17 | with_reducible exact mm_i23 | ((with_reducible show mm_rv _ _ _ _ _); first | exact True.intro | exact mm_i1 | exact mm_i17 | exact mm_i23 | ((with_reducible show xA _); exact hx) | refine mm_sc hSC ?_ | ((with_reducible show InI _); exact hxI _)) | ((with_reducible show xA _); exact hx) | refine mm_sc hSC ?_ | ((with_reducible show InI _); exact hxI _) | ((with_reducible show mm_bool _ _); first | exact True.intro | exact Or.inl rfl | exact Or.inr rfl | (show (_ : Int) = 0 ∨ _ = 1)) | rfl | with_reducible exact Or.inl rfl | with_reducible exact Or.inr rfl | exact Nat.le_of_ble_eq_true rfl | refine And.intro ?_ ?_ | intro _)
    all_goals (try simp (disch := omega) only [ea0, InI, Int.toNat_natCast, Int.tmod_eq_emod_of_nonneg, Int.tdiv_eq_ediv_of_nonneg, true_implies, true_or, or_true, mm_l18, mm_l19, mm_l20, mm_l21, mm_l22] at *)
    all_goals first | omega | exact q _ _ _ (by assumption) (by assumption) (by omega) _ (by omega) | skip
  clear k3 fin
  have kA := fun f r u1 (h : (r = 0 ∨ r = 1) ∧ C_cursorCan f M M 0 r) (hf : (f = 0 ∧ a0 = 0) ∨ (f = 1 ∧ a0 ≠ 0)) => k2 f M r u1 hf ha.rf (in012 h.1) h.2
  clear k2
  refine mm_wpZ_at (stop := [1875]) hC kkLc_42 (peLc_42 hl) 90 ?_
  repeat' (first | with_reducible assumption | with_reducible exact True.intro | with_reducible exact mm_i1 | with_reducible exact mm_i17 | with_reducible exact mm_i23 | ((with_reducible show mm_rv _ _ _ _ _); first | exact True.intro | exact mm_i1 | exact mm_i17 | exact mm_i23 | ((with_reducible show wA _); exact ha) | refine mm_sc hSC ?_ | ((with_reducible show InI _); exact hxI _)) | ((with_reducible show wA _); exact ha) | refine mm_sc hSC ?_ | ((with_reducible show InI _); exact hxI _) | ((with_reducible show mm_bool _ _); first | exact True.intro | exact Or.inl rfl | exact Or.inr rfl | (show (_ : Int) = 0 ∨ _ = 1)) | rfl | with_reducible exact Or.inl rfl | with_reducible exact Or.inr rfl | exact Nat.le_of_ble_eq_true rfl | refine And.intro ?_ ?_ | intro _)
  all_goals (try simp (disch := omega) only [ea0, InI, Int.toNat_natCast, Int.tmod_eq_emod_of_nonneg, Int.tdiv_eq_ediv_of_nonneg, true_implies, true_or, or_true, mm_l18, mm_l19, mm_l20, mm_l21, mm_l22] at *)
  all_goals first | omega | exact kA _ _ _ (by assumption) (by omega) (by omega) | skip
/-- 43: X3_cursorPlace X5_cursorPlace -/
def kdLc_43 : List mm_E := [(1898, .aload_n 1, 0), (1899, .aload_n 0, 0), (1900, .iload 4, 0), (1902, .iconst 1, 0), (1903, .iadd, 0), (1904, .iaload, 0), (1905, .ifCond .eq 7, 1912), (1908, .iconst 1, 0), (1909, .goto 4, 1913), (1912, .iconst 0, 0), (1913, .invokevirtual 291, 0), (1916, .pop, 0), (1917, .aload_n 2, 0), (1918, .aload_n 0, 0), (1919, .iload 4, 0), (1921, .iconst 1, 0), (1922, .iadd, 0), (1923, .iaload, 0), (1924, .ifCond .eq 7, 1931), (1927, .iconst 1, 0), (1928, .goto 4, 1932), (1931, .iconst 0, 0), (1932, .invokevirtual 294, 0), (1935, .pop, 0), (1936, .goto 70, 2006)]
theorem kkLc_43 : mm_chk code kdLc_43 = true := by decide +kernel
def ctLc_43 : List (Nat × mm_Ca) := [(291, (0, 2, 10, sp_X3_cursorPlace, 0)), (294, (0, 2, 14, sp_X5_cursorPlace, 0))]
theorem peLc_43 {l : Launch} (hl : l.stackTraces = false) : mm_PEs l RL (mm_rm 2048 84000 0) ctLc_43 := ⟨mm_pe (me_X3_cursorPlace hl) mwX3_cursorPlace (mm_t2 81 rfl rfl) (Nat.le_of_ble_eq_true rfl) (Nat.le_of_ble_eq_true rfl), mm_pe (me_X5_cursorPlace hl) mwX5_cursorPlace (mm_t8 7 rfl rfl) (Nat.le_of_ble_eq_true rfl) (Nat.le_of_ble_eq_true rfl), trivial⟩
set_option maxRecDepth 20000 in
theorem csL_43 {l : Launch} {SC : Nat → Option (Nat × (Nat → Int32))} {MU : Nat} {Z : Nat → mm_K} (hl : l.stackTraces = false) (hC : mm_CZ l SC MU Z) {b L n u : Nat} {xs : Nat → Int32} {i : Int} {M : mm_M} (hSC : SC b = some (L, xs)) (hL : L < 2147483648) (hi : 0 ≤ i ∧ i + 5 ≤ L) (hI : LI n M) (hn : n ≤ 1000) (hu : u + 100 ≤ MU) (fin : ∀ M' x5 x6 u', LI (n + 1) M' → u' ≤ u + 100 → Z 2006 [some (mm_X b), some (mm_R 1), some (mm_R 17), some (mm_R 23), some (mm_I i), x5, x6] [] M' [] u') (x5 x6 : Option mm_V) : Z 1898 [some (mm_X b), some (mm_R 1), some (mm_R 17), some (mm_R 23), some (mm_I i), x5, x6] [] M [] u := by
  have ha := hI.1
  have hA0 := hxI (xs (i + 1).toNat)
  obtain ⟨a0, ea0⟩ : ∃ a, (xs (i + 1).toNat).toInt = a := ⟨_, rfl⟩
  rw [ea0] at hA0
  have k3 : ∀ M2 (r r' : Int) u2, LI (n + 1) M2 → r = r' → InI r → u2 ≤ u + 80 → Z 1935 [some (mm_X b), some (mm_R 1), some (mm_R 17), some (mm_R 23), some (mm_I i), x5, x6] [mm_I r'] M2 [] u2 := by
    intro M2 r r' u2 hI2 hr hir hu2
    have fin2 := fun x5 x6 u' h => fin M2 x5 x6 u' hI2 h
    clear fin
    refine mm_wpZ_at (stop := [2006]) hC kkLc_43 (peLc_43 hl) 90 ?_
    repeat' (first | with_reducible assumption | with_reducible exact True.intro | with_reducible exact mm_i1 | with_reducible exact mm_i17 | with_reducible exact mm_i23 | ((with_reducible show mm_rv _ _ _ _ _); first | exact True.intro | exact mm_i1 | exact mm_i17 | exact mm_i23) | ((with_reducible show mm_bool _ _); first | exact True.intro | exact Or.inl rfl | exact Or.inr rfl | (show (_ : Int) = 0 ∨ _ = 1)) | rfl | with_reducible exact Or.inl rfl | with_reducible exact Or.inr rfl | exact Nat.le_of_ble_eq_true rfl | refine And.intro ?_ ?_ | intro _)
    all_goals (try simp (disch := omega) only [InI, Int.toNat_natCast, Int.tmod_eq_emod_of_nonneg, Int.tdiv_eq_ediv_of_nonneg, true_implies, true_or, or_true, mm_l18, mm_l19, mm_l20, mm_l21, mm_l22] at *)
    all_goals first | omega | exact fin2 _ _ _ (by omega) | skip
  have k2 : ∀ (f0 : Int) M1 r u1, ((f0 = 0 ∧ a0 = 0) ∨ (f0 = 1 ∧ a0 ≠ 0)) → cP M M1 → InI r → C_cursorPlace f0 M M1 0 r → u1 ≤ u + 60 → Z 1916 [some (mm_X b), some (mm_R 1), some (mm_R 17), some (mm_R 23), some (mm_I i), x5, x6] [mm_I r] M1 [] u1 := by
    intro f0 M1 r u1 hb0 hP hir hc hu1
    have hf0 : f0 = 0 ∨ f0 = 1 := by omega
    have hx := hl_x hI hP (fun _ _ => rfl)
    have q : ∀ M' (r' : Int) f0' , xP M1 M' → C_cursorPlace f0' (vX M1) (vX M') (M' 17 0) r' → f0' = f0 → ∀ u2, u2 ≤ u + 80 → Z 1935 [some (mm_X b), some (mm_R 1), some (mm_R 17), some (mm_R 23), some (mm_I i), x5, x6] [mm_I r'] M' [] u2 := by
      intro M' r' f0' h3 h4 e0 u2 hu2
      subst e0
      obtain ⟨p1, p2, p3⟩ := P_cursorPlace hf0 hI hP (fun _ _ => rfl) hc h3 h4
      exact k3 M' r r' u2 p1 (p3 rfl) hir hu2
    clear k3 hP hc fin
    refine mm_wpZ_at (stop := [1935]) hC kkLc_43 (peLc_43 hl) 90 ?_
    repeat' (first | with_reducible assumption | with_reducible exact True.intro | with_reducible exact mm_i1 | with_reducible exact mm_i17 | with_reducible exact mm_i23 | ((with_reducible show mm_rv _ _ _ _ _); first | exact True.intro | exact mm_i1 | exact mm_i17 | exact mm_i23 | ((with_reducible show xA _); exact hx) | refine mm_sc hSC ?_ | ((with_reducible show InI _); exact hxI _)) | ((with_reducible show xA _); exact hx) | refine mm_sc hSC ?_ | ((with_reducible show InI _); exact hxI _) | ((with_reducible show mm_bool _ _); first | exact True.intro | exact Or.inl rfl | exact Or.inr rfl | (show (_ : Int) = 0 ∨ _ = 1)) | rfl | with_reducible exact Or.inl rfl | with_reducible exact Or.inr rfl | exact Nat.le_of_ble_eq_true rfl | refine And.intro ?_ ?_ | intro _)
    all_goals (try simp (disch := omega) only [ea0, InI, Int.toNat_natCast, Int.tmod_eq_emod_of_nonneg, Int.tdiv_eq_ediv_of_nonneg, true_implies, true_or, or_true, mm_l18, mm_l19, mm_l20, mm_l21, mm_l22] at *)
    all_goals first | omega | exact q _ _ _ (by assumption) (by assumption) (by omega) _ (by omega) | skip
  clear k3 fin
  have kA := fun f r u1 (h : InI r ∧ C_cursorPlace f M M 0 r) (hf : (f = 0 ∧ a0 = 0) ∨ (f = 1 ∧ a0 ≠ 0)) => k2 f M r u1 hf ha.rf h.1 h.2
  clear k2
  refine mm_wpZ_at (stop := [1916]) hC kkLc_43 (peLc_43 hl) 90 ?_
  repeat' (first | with_reducible assumption | with_reducible exact True.intro | with_reducible exact mm_i1 | with_reducible exact mm_i17 | with_reducible exact mm_i23 | ((with_reducible show mm_rv _ _ _ _ _); first | exact True.intro | exact mm_i1 | exact mm_i17 | exact mm_i23 | ((with_reducible show wA _); exact ha) | refine mm_sc hSC ?_ | ((with_reducible show InI _); exact hxI _)) | ((with_reducible show wA _); exact ha) | refine mm_sc hSC ?_ | ((with_reducible show InI _); exact hxI _) | ((with_reducible show mm_bool _ _); first | exact True.intro | exact Or.inl rfl | exact Or.inr rfl | (show (_ : Int) = 0 ∨ _ = 1)) | rfl | with_reducible exact Or.inl rfl | with_reducible exact Or.inr rfl | exact Nat.le_of_ble_eq_true rfl | refine And.intro ?_ ?_ | intro _)
  all_goals (try simp (disch := omega) only [ea0, InI, Int.toNat_natCast, Int.tmod_eq_emod_of_nonneg, Int.tdiv_eq_ediv_of_nonneg, true_implies, true_or, or_true, mm_l18, mm_l19, mm_l20, mm_l21, mm_l22] at *)
  all_goals first | omega | exact kA _ _ _ (by assumption) (by omega) (by omega) | skip
/-- 44: L_house X5_house -/
def kdLc_44 : List mm_E := [(1939, .aload_n 1, 0), (1940, .aload_n 0, 0), (1941, .iload 4, 0), (1943, .iconst 1, 0), (1944, .iadd, 0), (1945, .iaload, 0), (1946, .aload_n 3, 0), (1947, .invokestatic 295, 0), (1950, .istore 5, 0), (1952, .aload_n 2, 0), (1953, .aload_n 0, 0), (1954, .iload 4, 0), (1956, .iconst 1, 0), (1957, .iadd, 0), (1958, .iaload, 0), (1959, .invokevirtual 297, 0), (1962, .istore 6, 0), (1964, .goto 42, 2006)]
theorem kkLc_44 : mm_chk code kdLc_44 = true := by decide +kernel
def ctLc_44 : List (Nat × mm_Ca) := [(295, (1, 3, 0, sp_L_house, 1)), (297, (0, 2, 14, sp_X5_house, 0))]
theorem peLc_44 {l : Launch} (hl : l.stackTraces = false) : mm_PEs l RL (mm_rm 2048 84000 0) ctLc_44 := ⟨mm_pe (me_L_house hl) mwL_house (mm_t6 34 rfl rfl) (Nat.le_of_ble_eq_true rfl) (Nat.le_of_ble_eq_true rfl), mm_pe (me_X5_house hl) mwX5_house (mm_t8 15 rfl rfl) (Nat.le_of_ble_eq_true rfl) (Nat.le_of_ble_eq_true rfl), trivial⟩
set_option maxRecDepth 20000 in
theorem csL_44 {l : Launch} {SC : Nat → Option (Nat × (Nat → Int32))} {MU : Nat} {Z : Nat → mm_K} (hl : l.stackTraces = false) (hC : mm_CZ l SC MU Z) {b L n u : Nat} {xs : Nat → Int32} {i : Int} {M : mm_M} (hSC : SC b = some (L, xs)) (hL : L < 2147483648) (hi : 0 ≤ i ∧ i + 5 ≤ L) (hI : LI n M) (hn : n ≤ 1000) (hu : u + 100 ≤ MU) (fin : ∀ M' x5 x6 u', LI (n + 1) M' → u' ≤ u + 100 → Z 2006 [some (mm_X b), some (mm_R 1), some (mm_R 17), some (mm_R 23), some (mm_I i), x5, x6] [] M' [] u') (x5 x6 : Option mm_V) : Z 1939 [some (mm_X b), some (mm_R 1), some (mm_R 17), some (mm_R 23), some (mm_I i), x5, x6] [] M [] u := by
  have ha := hI.1
  have hA0 := hxI (xs (i + 1).toNat)
  obtain ⟨a0, ea0⟩ : ∃ a, (xs (i + 1).toNat).toInt = a := ⟨_, rfl⟩
  rw [ea0] at hA0
  have k3 : ∀ M2 (e r' : Int) u2, LI (n + 1) M2 → u2 ≤ u + 80 → Z 1962 [some (mm_X b), some (mm_R 1), some (mm_R 17), some (mm_R 23), some (mm_I i), some (mm_I e), x6] [mm_I r'] M2 [] u2 := by
    intro M2 e r' u2 hI2 hu2
    have fin2 := fun x5 x6 u' h => fin M2 x5 x6 u' hI2 h
    clear fin
    refine mm_wpZ_at (stop := [2006]) hC kkLc_44 (peLc_44 hl) 90 ?_
    repeat' (first | with_reducible assumption | with_reducible exact True.intro | with_reducible exact mm_i1 | with_reducible exact mm_i17 | with_reducible exact mm_i23 | ((with_reducible show mm_rv _ _ _ _ _); first | exact True.intro | exact mm_i1 | exact mm_i17 | exact mm_i23) | ((with_reducible show mm_bool _ _); first | exact True.intro | exact Or.inl rfl | exact Or.inr rfl | (show (_ : Int) = 0 ∨ _ = 1)) | rfl | with_reducible exact Or.inl rfl | with_reducible exact Or.inr rfl | exact Nat.le_of_ble_eq_true rfl | refine And.intro ?_ ?_ | intro _)
    all_goals (try simp (disch := omega) only [InI, Int.toNat_natCast, Int.tmod_eq_emod_of_nonneg, Int.tdiv_eq_ediv_of_nonneg, true_implies, true_or, or_true, mm_l18, mm_l19, mm_l20, mm_l21, mm_l22] at *)
    all_goals first | omega | exact fin2 _ _ _ (by omega) | skip
  have k2 : ∀ M1 M2 e r u1, hlP M M1 M2 e r → C_house a0 M M1 e r → u1 ≤ u + 60 → Z 1950 [some (mm_X b), some (mm_R 1), some (mm_R 17), some (mm_R 23), some (mm_I i), x5, x6] [mm_I e] M2 [] u1 := by
    intro  M1 M2 e r u1 hh hc  hu1
    have hx := hl_x hI hh.1 hh.2.2.1
    have q : ∀ M' (r' : Int) , xP M2 M' → C_house a0 (vX M2) (vX M') (M' 17 0) r' → ∀ u2, u2 ≤ u + 80 → Z 1962 [some (mm_X b), some (mm_R 1), some (mm_R 17), some (mm_R 23), some (mm_I i), some (mm_I e), x6] [mm_I r'] M' [] u2 := by
      intro M' r' h3 h4  u2 hu2
      obtain ⟨p1, p2, p3⟩ := P_house hI hh.1 hh.2.2.1 hc h3 h4
      exact k3 M' e r' u2 p1 hu2
    clear k3 hh hc fin
    refine mm_wpZ_at (stop := [1962]) hC kkLc_44 (peLc_44 hl) 90 ?_
    repeat' (first | with_reducible assumption | with_reducible exact True.intro | with_reducible exact mm_i1 | with_reducible exact mm_i17 | with_reducible exact mm_i23 | ((with_reducible show mm_rv _ _ _ _ _); first | exact True.intro | exact mm_i1 | exact mm_i17 | exact mm_i23 | ((with_reducible show xA _); exact hx) | refine mm_sc hSC ?_ | ((with_reducible show InI _); exact hxI _)) | ((with_reducible show xA _); exact hx) | refine mm_sc hSC ?_ | ((with_reducible show InI _); exact hxI _) | ((with_reducible show mm_bool _ _); first | exact True.intro | exact Or.inl rfl | exact Or.inr rfl | (show (_ : Int) = 0 ∨ _ = 1)) | rfl | with_reducible exact Or.inl rfl | with_reducible exact Or.inr rfl | exact Nat.le_of_ble_eq_true rfl | refine And.intro ?_ ?_ | intro _)
    all_goals (try simp (disch := omega) only [ea0, InI, Int.toNat_natCast, Int.tmod_eq_emod_of_nonneg, Int.tdiv_eq_ediv_of_nonneg, true_implies, true_or, or_true, mm_l18, mm_l19, mm_l20, mm_l21, mm_l22] at *)
    all_goals first | omega | exact q _ _ (by assumption) (by assumption) _ (by omega) | skip
  clear k3 fin
  refine mm_wpZ_at (stop := [1950]) hC kkLc_44 (peLc_44 hl) 90 ?_
  repeat' (first | with_reducible assumption | with_reducible exact True.intro | with_reducible exact mm_i1 | with_reducible exact mm_i17 | with_reducible exact mm_i23 | ((with_reducible show mm_rv _ _ _ _ _); first | exact True.intro | exact mm_i1 | exact mm_i17 | exact mm_i23 | ((with_reducible show wA _); exact ha) | refine mm_sc hSC ?_ | ((with_reducible show InI _); exact hxI _)) | ((with_reducible show wA _); exact ha) | refine mm_sc hSC ?_ | ((with_reducible show InI _); exact hxI _) | ((with_reducible show mm_bool _ _); first | exact True.intro | exact Or.inl rfl | exact Or.inr rfl | (show (_ : Int) = 0 ∨ _ = 1)) | rfl | with_reducible exact Or.inl rfl | with_reducible exact Or.inr rfl | exact Nat.le_of_ble_eq_true rfl | refine And.intro ?_ ?_ | intro _)
  all_goals (try simp (disch := omega) only [ea0, InI, Int.toNat_natCast, Int.tmod_eq_emod_of_nonneg, Int.tdiv_eq_ediv_of_nonneg, true_implies, true_or, or_true, mm_l18, mm_l19, mm_l20, mm_l21, mm_l22] at *)
  all_goals first | omega | exact k2 _ _ _ _ _ (by assumption) (by assumption) (by omega) | skip
/-- 45: X3_knock X5_knock -/
def kdLc_45 : List mm_E := [(1967, .aload_n 1, 0), (1968, .invokevirtual 298, 0), (1971, .pop, 0), (1972, .aload_n 2, 0), (1973, .invokevirtual 301, 0), (1976, .pop, 0), (1977, .goto 29, 2006)]
theorem kkLc_45 : mm_chk code kdLc_45 = true := by decide +kernel
def ctLc_45 : List (Nat × mm_Ca) := [(298, (0, 1, 10, sp_X3_knock, 0)), (301, (0, 1, 14, sp_X5_knock, 0))]
theorem peLc_45 {l : Launch} (hl : l.stackTraces = false) : mm_PEs l RL (mm_rm 2048 84000 0) ctLc_45 := ⟨mm_pe (me_X3_knock hl) mwX3_knock (mm_t2 86 rfl rfl) (Nat.le_of_ble_eq_true rfl) (Nat.le_of_ble_eq_true rfl), mm_pe (me_X5_knock hl) mwX5_knock (mm_t8 23 rfl rfl) (Nat.le_of_ble_eq_true rfl) (Nat.le_of_ble_eq_true rfl), trivial⟩
set_option maxRecDepth 20000 in
theorem csL_45 {l : Launch} {SC : Nat → Option (Nat × (Nat → Int32))} {MU : Nat} {Z : Nat → mm_K} (hl : l.stackTraces = false) (hC : mm_CZ l SC MU Z) {b L n u : Nat} {xs : Nat → Int32} {i : Int} {M : mm_M} (hSC : SC b = some (L, xs)) (hL : L < 2147483648) (hi : 0 ≤ i ∧ i + 5 ≤ L) (hI : LI n M) (hn : n ≤ 1000) (hu : u + 100 ≤ MU) (fin : ∀ M' x5 x6 u', LI (n + 1) M' → u' ≤ u + 100 → Z 2006 [some (mm_X b), some (mm_R 1), some (mm_R 17), some (mm_R 23), some (mm_I i), x5, x6] [] M' [] u') (x5 x6 : Option mm_V) : Z 1967 [some (mm_X b), some (mm_R 1), some (mm_R 17), some (mm_R 23), some (mm_I i), x5, x6] [] M [] u := by
  have ha := hI.1
  have fin2 := fun (M1 : mm_M) (h : wA M1 ∧ cF M M1 ∧ M1 1 6 = M 1 6 + 1 ∧ C_knock M M1 0 (M 1 6 + 1)) (u' : Nat) (hu : u' ≤ u + 100) => fin _ x5 x6 u' (hI.knock h.1 h.2.1 h.2.2.1 h.2.2.2).2 hu
  have e17 := fun (M1 : mm_M) (h : wA M1 ∧ cF M M1 ∧ M1 1 6 = M 1 6 + 1 ∧ C_knock M M1 0 (M 1 6 + 1)) => (hI.knock h.1 h.2.1 h.2.2.1 h.2.2.2).1
  obtain ⟨z1, z2⟩ := hI.2.2.2
  clear fin
  refine mm_wpZ_at (stop := [2006]) hC kkLc_45 (peLc_45 hl) 90 ?_
  repeat' (first | with_reducible assumption | with_reducible exact True.intro | with_reducible exact mm_i1 | with_reducible exact mm_i17 | with_reducible exact mm_i23 | ((with_reducible show mm_rv _ _ _ _ _); first | exact True.intro | exact mm_i1 | exact mm_i17 | exact mm_i23 | ((with_reducible show wA _); exact ha)) | ((with_reducible show wA _); exact ha) | ((with_reducible show mm_bool _ _); first | exact True.intro | exact Or.inl rfl | exact Or.inr rfl | (show (_ : Int) = 0 ∨ _ = 1)) | rfl | with_reducible exact Or.inl rfl | with_reducible exact Or.inr rfl | exact Nat.le_of_ble_eq_true rfl | refine And.intro ?_ ?_ | intro _)
  all_goals (try simp (disch := omega) only [InI, Int.toNat_natCast, Int.tmod_eq_emod_of_nonneg, Int.tdiv_eq_ediv_of_nonneg, true_implies, true_or, or_true, mm_l18, mm_l19, mm_l20, mm_l21, mm_l22] at *)
  all_goals first | omega | exact fin2 _ (by assumption) _ (by omega) | (have := e17 _ (by assumption); omega) | skip
/-- 46: X3_isSound X5_isSound -/
def kdLc_46 : List mm_E := [(1980, .aload_n 1, 0), (1981, .invokevirtual 302, 0), (1984, .pop, 0), (1985, .aload_n 2, 0), (1986, .invokevirtual 305, 0), (1989, .pop, 0), (1990, .goto 16, 2006)]
theorem kkLc_46 : mm_chk code kdLc_46 = true := by decide +kernel
def ctLc_46 : List (Nat × mm_Ca) := [(302, (0, 1, 10, sp_X3_isSound, 0)), (305, (0, 1, 14, sp_X5_isSound, 0))]
theorem peLc_46 {l : Launch} (hl : l.stackTraces = false) : mm_PEs l RL (mm_rm 2048 84000 0) ctLc_46 := ⟨mm_pe (me_X3_isSound hl) mwX3_isSound (mm_t2 90 rfl rfl) (Nat.le_of_ble_eq_true rfl) (Nat.le_of_ble_eq_true rfl), mm_pe (me_X5_isSound hl) mwX5_isSound (mm_t8 27 rfl rfl) (Nat.le_of_ble_eq_true rfl) (Nat.le_of_ble_eq_true rfl), trivial⟩
set_option maxRecDepth 20000 in
theorem csL_46 {l : Launch} {SC : Nat → Option (Nat × (Nat → Int32))} {MU : Nat} {Z : Nat → mm_K} (hl : l.stackTraces = false) (hC : mm_CZ l SC MU Z) {b L n u : Nat} {xs : Nat → Int32} {i : Int} {M : mm_M} (hSC : SC b = some (L, xs)) (hL : L < 2147483648) (hi : 0 ≤ i ∧ i + 5 ≤ L) (hI : LI n M) (hn : n ≤ 1000) (hu : u + 100 ≤ MU) (fin : ∀ M' x5 x6 u', LI (n + 1) M' → u' ≤ u + 100 → Z 2006 [some (mm_X b), some (mm_R 1), some (mm_R 17), some (mm_R 23), some (mm_I i), x5, x6] [] M' [] u') (x5 x6 : Option mm_V) : Z 1980 [some (mm_X b), some (mm_R 1), some (mm_R 17), some (mm_R 23), some (mm_I i), x5, x6] [] M [] u := by
  have ha := hI.1
  have fin2 : ∀ M1 M', qP M M1 → xQ M1 M' → ∀ u', u' ≤ u + 100 → Z 2006 [some (mm_X b), some (mm_R 1), some (mm_R 17), some (mm_R 23), some (mm_I i), x5, x6] [] M' [] u' := fun M1 M' h h1 u' hu => fin M' x5 x6 u' (hI.q h.c (fun _ _ => rfl) h1.1 h.se h1.se) hu
  have k2 : ∀ M1 r u1, qP M M1 → u1 ≤ u + 60 → Z 1984 [some (mm_X b), some (mm_R 1), some (mm_R 17), some (mm_R 23), some (mm_I i), x5, x6] [mm_I r] M1 [] u1 := by
    intro M1 r u1 h hu1
    have hx := hl_x hI h.c (fun _ _ => rfl)
    have fin3 := fun M' h1 => fin2 M1 M' h h1
    clear fin2 fin
    refine mm_wpZ_at (stop := [2006]) hC kkLc_46 (peLc_46 hl) 90 ?_
    repeat' (first | with_reducible assumption | with_reducible exact True.intro | with_reducible exact mm_i1 | with_reducible exact mm_i17 | with_reducible exact mm_i23 | ((with_reducible show mm_rv _ _ _ _ _); first | exact True.intro | exact mm_i1 | exact mm_i17 | exact mm_i23 | ((with_reducible show xA _); exact hx)) | ((with_reducible show xA _); exact hx) | ((with_reducible show mm_bool _ _); first | exact True.intro | exact Or.inl rfl | exact Or.inr rfl | (show (_ : Int) = 0 ∨ _ = 1)) | rfl | with_reducible exact Or.inl rfl | with_reducible exact Or.inr rfl | exact Nat.le_of_ble_eq_true rfl | refine And.intro ?_ ?_ | intro _)
    all_goals (try simp (disch := omega) only [InI, Int.toNat_natCast, Int.tmod_eq_emod_of_nonneg, Int.tdiv_eq_ediv_of_nonneg, true_implies, true_or, or_true, mm_l18, mm_l19, mm_l20, mm_l21, mm_l22] at *)
    all_goals first | omega | exact fin3 _ (by assumption) _ (by omega) | skip
  clear fin fin2
  refine mm_wpZ_at (stop := [1984]) hC kkLc_46 (peLc_46 hl) 90 ?_
  repeat' (first | with_reducible assumption | with_reducible exact True.intro | with_reducible exact mm_i1 | with_reducible exact mm_i17 | with_reducible exact mm_i23 | ((with_reducible show mm_rv _ _ _ _ _); first | exact True.intro | exact mm_i1 | exact mm_i17 | exact mm_i23 | ((with_reducible show wA _); exact ha)) | ((with_reducible show wA _); exact ha) | ((with_reducible show mm_bool _ _); first | exact True.intro | exact Or.inl rfl | exact Or.inr rfl | (show (_ : Int) = 0 ∨ _ = 1)) | rfl | with_reducible exact Or.inl rfl | with_reducible exact Or.inr rfl | exact Nat.le_of_ble_eq_true rfl | refine And.intro ?_ ?_ | intro _)
  all_goals (try simp (disch := omega) only [InI, Int.toNat_natCast, Int.tmod_eq_emod_of_nonneg, Int.tdiv_eq_ediv_of_nonneg, true_implies, true_or, or_true, mm_l18, mm_l19, mm_l20, mm_l21, mm_l22] at *)
  all_goals first | omega | exact k2 _ _ _ (by assumption) (by omega) | exact k2 _ _ _ (And.left (by assumption)) (by omega) | skip
/-- 47: X3_digest X5_digest -/
def kdLc_47 : List mm_E := [(1993, .aload_n 1, 0), (1994, .invokevirtual 306, 0), (1997, .pop2, 0), (1998, .aload_n 2, 0), (1999, .invokevirtual 310, 0), (2002, .pop2, 0), (2003, .goto 3, 2006)]
theorem kkLc_47 : mm_chk code kdLc_47 = true := by decide +kernel
def ctLc_47 : List (Nat × mm_Ca) := [(306, (0, 1, 10, sp_X3_digest, 6)), (310, (0, 1, 14, sp_X5_digest, 0))]
theorem peLc_47 {l : Launch} (hl : l.stackTraces = false) : mm_PEs l RL (mm_rm 2048 84000 0) ctLc_47 := ⟨mm_pe (me_X3_digest hl) mwX3_digest (mm_t2 176 rfl rfl) (Nat.le_of_ble_eq_true rfl) (Nat.le_of_ble_eq_true rfl), mm_pe (me_X5_digest hl) mwX5_digest (mm_t8 47 rfl rfl) (Nat.le_of_ble_eq_true rfl) (Nat.le_of_ble_eq_true rfl), trivial⟩
set_option maxRecDepth 20000 in
theorem csL_47 {l : Launch} {SC : Nat → Option (Nat × (Nat → Int32))} {MU : Nat} {Z : Nat → mm_K} (hl : l.stackTraces = false) (hC : mm_CZ l SC MU Z) {b L n u : Nat} {xs : Nat → Int32} {i : Int} {M : mm_M} (hSC : SC b = some (L, xs)) (hL : L < 2147483648) (hi : 0 ≤ i ∧ i + 5 ≤ L) (hI : LI n M) (hn : n ≤ 1000) (hu : u + 100 ≤ MU) (fin : ∀ M' x5 x6 u', LI (n + 1) M' → u' ≤ u + 100 → Z 2006 [some (mm_X b), some (mm_R 1), some (mm_R 17), some (mm_R 23), some (mm_I i), x5, x6] [] M' [] u') (x5 x6 : Option mm_V) : Z 1993 [some (mm_X b), some (mm_R 1), some (mm_R 17), some (mm_R 23), some (mm_I i), x5, x6] [] M [] u := by
  have ha := hI.1
  have fin2 : ∀ M1 M', qP M M1 → xQ M1 M' → ∀ u', u' ≤ u + 100 → Z 2006 [some (mm_X b), some (mm_R 1), some (mm_R 17), some (mm_R 23), some (mm_I i), x5, x6] [] M' [] u' := fun M1 M' h h1 u' hu => fin M' x5 x6 u' (hI.q h.c (fun _ _ => rfl) h1.1 h.se h1.se) hu
  have k2 : ∀ M1 r u1, qP M M1 → u1 ≤ u + 60 → Z 1997 [some (mm_X b), some (mm_R 1), some (mm_R 17), some (mm_R 23), some (mm_I i), x5, x6] [mm_L r] M1 [] u1 := by
    intro M1 r u1 h hu1
    have hx := hl_x hI h.c (fun _ _ => rfl)
    have fin3 := fun M' h1 => fin2 M1 M' h h1
    clear fin2 fin
    refine mm_wpZ_at (stop := [2006]) hC kkLc_47 (peLc_47 hl) 90 ?_
    repeat' (first | with_reducible assumption | with_reducible exact True.intro | with_reducible exact mm_i1 | with_reducible exact mm_i17 | with_reducible exact mm_i23 | ((with_reducible show mm_rv _ _ _ _ _); first | exact True.intro | exact mm_i1 | exact mm_i17 | exact mm_i23 | ((with_reducible show xA _); exact hx)) | ((with_reducible show xA _); exact hx) | ((with_reducible show mm_bool _ _); first | exact True.intro | exact Or.inl rfl | exact Or.inr rfl | (show (_ : Int) = 0 ∨ _ = 1)) | rfl | with_reducible exact Or.inl rfl | with_reducible exact Or.inr rfl | exact Nat.le_of_ble_eq_true rfl | refine And.intro ?_ ?_ | intro _)
    all_goals (try simp (disch := omega) only [InI, Int.toNat_natCast, Int.tmod_eq_emod_of_nonneg, Int.tdiv_eq_ediv_of_nonneg, true_implies, true_or, or_true, mm_l18, mm_l19, mm_l20, mm_l21, mm_l22] at *)
    all_goals first | omega | exact fin3 _ (by assumption) _ (by omega) | skip
  clear fin fin2
  refine mm_wpZ_at (stop := [1997]) hC kkLc_47 (peLc_47 hl) 90 ?_
  repeat' (first | with_reducible assumption | with_reducible exact True.intro | with_reducible exact mm_i1 | with_reducible exact mm_i17 | with_reducible exact mm_i23 | ((with_reducible show mm_rv _ _ _ _ _); first | exact True.intro | exact mm_i1 | exact mm_i17 | exact mm_i23 | ((with_reducible show wA _); exact ha)) | ((with_reducible show wA _); exact ha) | ((with_reducible show mm_bool _ _); first | exact True.intro | exact Or.inl rfl | exact Or.inr rfl | (show (_ : Int) = 0 ∨ _ = 1)) | rfl | with_reducible exact Or.inl rfl | with_reducible exact Or.inr rfl | exact Nat.le_of_ble_eq_true rfl | refine And.intro ?_ ?_ | intro _)
  all_goals (try simp (disch := omega) only [InI, Int.toNat_natCast, Int.tmod_eq_emod_of_nonneg, Int.tdiv_eq_ediv_of_nonneg, true_implies, true_or, or_true, mm_l18, mm_l19, mm_l20, mm_l21, mm_l22] at *)
  all_goals first | omega | exact k2 _ _ _ (by assumption) (by omega) | exact k2 _ _ _ (And.left (by assumption)) (by omega) | skip

