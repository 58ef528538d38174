section
/-! the law: its cases -/
/-- 42: X3_cursorCan X5_cursorCan -/
def kdLc_42 : List mm_E := [(1857, .aload_n 1, 0), (1858, .aload_n 0, 0), (1859, .iload 4, 0), (1861, .iconst 1, 0), (1862, .iadd, 0), (1863, .iaload, 0), (1864, .ifCond .eq 7, 1871), (1867, .iconst 1, 0), (1868, .goto 4, 1872), (1871, .iconst 0, 0), (1872, .invokevirtual 286, 0), (1875, .pop, 0), (1876, .aload_n 2, 0), (1877, .aload_n 0, 0), (1878, .iload 4, 0), (1880, .iconst 1, 0), (1881, .iadd, 0), (1882, .iaload, 0), (1883, .ifCond .eq 7, 1890), (1886, .iconst 1, 0), (1887, .goto 4, 1891), (1890, .iconst 0, 0), (1891, .invokevirtual 290, 0), (1894, .pop, 0), (1895, .goto 111, 2006)]
theorem kkLc_42 : mm_chk code kdLc_42 = true := mm_fck 1857 (by decide +kernel)
def ctLc_42 : List (Nat × mm_Ca) := [(286, (0, 2, 10, sp_X3_cursorCan, 0)), (290, (0, 2, 14, sp_X5_cursorCan, 0))]
theorem peLc_42 {l : Launch} (hl : l.stackTraces = false) : mm_PEs l RL (mm_rm 2048 84000 0) ctLc_42 := ⟨mm_pe (me_X3_cursorCan hl) mwX3_cursorCan (mm_t2 76 rfl rfl) (Nat.le_of_ble_eq_true rfl) (Nat.le_of_ble_eq_true rfl), mm_pe (me_X5_cursorCan hl) mwX5_cursorCan (mm_t8 3 rfl rfl) (Nat.le_of_ble_eq_true rfl) (Nat.le_of_ble_eq_true rfl), trivial⟩
set_option maxRecDepth 20000 in
theorem csL_42 {l : Launch} {SC : Nat → Option (Nat × (Nat → Int32))} {MU : Nat} {Z : Nat → mm_K} (hl : l.stackTraces = false) (hC : mm_CZ l SC MU Z) {b L n u : Nat} {xs : Nat → Int32} {i : Int} {M : mm_M} (hSC : SC b = some (L, xs)) (hL : L < 2147483648) (hi : 0 ≤ i ∧ i + 5 ≤ L) (hI : LI n M) (hn : n ≤ 1000) (hu : u + 100 ≤ MU) (fin : ∀ M' x5 x6 u', LI (n + 1) M' → u' ≤ u + 100 → Z 2006 [some (mm_X b), some (mm_R 1), some (mm_R 17), some (mm_R 23), some (mm_I i), x5, x6] [] M' [] u') (x5 x6 : Option mm_V) : Z 1857 [some (mm_X b), some (mm_R 1), some (mm_R 17), some (mm_R 23), some (mm_I i), x5, x6] [] M [] u := by
  have ha := hI.1
  have hA0 := hxI (xs (i + 1).toNat)
  obtain ⟨a0, ea0⟩ : ∃ a, (xs (i + 1).toNat).toInt = a := ⟨_, rfl⟩
  rw [ea0] at hA0
  have k3 : ∀ M2 (r r' : Int) u2, LI (n + 1) M2 → r = r' → InI r → u2 ≤ u + 80 → Z 1894 [some (mm_X b), some (mm_R 1), some (mm_R 17), some (mm_R 23), some (mm_I i), x5, x6] [mm_I r'] M2 [] u2 := by
    intro M2 r r' u2 hI2 hr hir hu2
    have fin2 := fun x5 x6 u' h => fin M2 x5 x6 u' hI2 h
    clear fin
    refine mm_wpZ_at (stop := [2006]) hC kkLc_42 (peLc_42 hl) 90 ?_
    repeat' (first | with_reducible assumption | with_reducible exact mm_i1 | with_reducible exact mm_i17 | with_reducible exact mm_i23 | ((with_reducible show mm_rv _ _ _ _ _); first | exact True.intro | exact mm_i1 | exact mm_i17 | exact mm_i23) | ((with_reducible show mm_bool _ _); first | exact True.intro | exact Or.inl rfl | exact Or.inr rfl | (show (_ : Int) = 0 ∨ _ = 1)) | refine And.intro ?_ ?_ | intro _ | with_reducible exact True.intro | exact rfl | with_reducible exact Or.inl rfl | with_reducible exact Or.inr rfl | exact Nat.le_of_ble_eq_true rfl)
    all_goals (try simp (disch := omega) only [InI, Int.toNat_natCast, Int.tmod_eq_emod_of_nonneg, Int.tdiv_eq_ediv_of_nonneg, true_implies, true_or, or_true, mm_l18, mm_l19, mm_l20, mm_l21, mm_l22] at *)
    all_goals first | omega | exact fin2 _ _ _ (by omega) | skip
  have k2 : ∀ (f0 : Int) M1 r u1, ((f0 = 0 ∧ a0 = 0) ∨ (f0 = 1 ∧ a0 ≠ 0)) → cP M M1 → InI r → C_cursorCan f0 M M1 0 r → u1 ≤ u + 60 → Z 1875 [some (mm_X b), some (mm_R 1), some (mm_R 17), some (mm_R 23), some (mm_I i), x5, x6] [mm_I r] M1 [] u1 := by
    intro f0 M1 r u1 hb0 hP hir hc hu1
    have hf0 : f0 = 0 ∨ f0 = 1 := by omega
    have hx := hl_x hI hP (fun _ _ => rfl)
    have q : ∀ M' (r' : Int) f0' , xP M1 M' → C_cursorCan f0' (vX M1) (vX M') (M' 17 0) r' → f0' = f0 → ∀ u2, u2 ≤ u + 80 → Z 1894 [some (mm_X b), some (mm_R 1), some (mm_R 17), some (mm_R 23), some (mm_I i), x5, x6] [mm_I r'] M' [] u2 := by
      intro M' r' f0' h3 h4 e0 u2 hu2
      subst e0
      obtain ⟨p1, p2, p3⟩ := P_cursorCan hf0 hI hP (fun _ _ => rfl) hc h3 h4
      exact k3 M' r r' u2 p1 (p3 rfl) hir hu2
    clear k3 hP hc fin
    refine mm_wpZ_at (stop := [1894]) hC kkLc_42 (peLc_42 hl) 90 ?_
    repeat' (first | with_reducible assumption | with_reducible exact mm_i1 | with_reducible exact mm_i17 | with_reducible exact mm_i23 | ((with_reducible show mm_rv _ _ _ _ _); first | exact True.intro | exact mm_i1 | exact mm_i17 | exact mm_i23 | ((with_reducible show xA _); exact hx) | refine mm_sc hSC ?_ | ((with_reducible show InI _); exact hxI _)) | ((with_reducible show xA _); exact hx) | refine mm_sc hSC ?_ | ((with_reducible show InI _); exact hxI _) | ((with_reducible show mm_bool _ _); first | exact True.intro | exact Or.inl rfl | exact Or.inr rfl | (show (_ : Int) = 0 ∨ _ = 1)) | refine And.intro ?_ ?_ | intro _ | with_reducible exact True.intro | exact rfl | with_reducible exact Or.inl rfl | with_reducible exact Or.inr rfl | exact Nat.le_of_ble_eq_true rfl)
    all_goals (try simp (disch := omega) only [ea0, InI, Int.toNat_natCast, Int.tmod_eq_emod_of_nonneg, Int.tdiv_eq_ediv_of_nonneg, true_implies, true_or, or_true, mm_l18, mm_l19, mm_l20, mm_l21, mm_l22] at *)
    all_goals first | omega | exact q _ _ _ (by assumption) (by assumption) (by omega) _ (by omega) | skip
  clear k3 fin
  have kA := fun f r u1 (h : (r = 0 ∨ r = 1) ∧ C_cursorCan f M M 0 r) (hf : (f = 0 ∧ a0 = 0) ∨ (f = 1 ∧ a0 ≠ 0)) => k2 f M r u1 hf ha.rf (in012 h.1) h.2
  clear k2
  refine mm_wpZ_at (stop := [1875]) hC kkLc_42 (peLc_42 hl) 90 ?_
  repeat' (first | with_reducible assumption | with_reducible exact mm_i1 | with_reducible exact mm_i17 | with_reducible exact mm_i23 | ((with_reducible show mm_rv _ _ _ _ _); first | exact True.intro | exact mm_i1 | exact mm_i17 | exact mm_i23 | ((with_reducible show wA _); exact ha) | refine mm_sc hSC ?_ | ((with_reducible show InI _); exact hxI _)) | ((with_reducible show wA _); exact ha) | refine mm_sc hSC ?_ | ((with_reducible show InI _); exact hxI _) | ((with_reducible show mm_bool _ _); first | exact True.intro | exact Or.inl rfl | exact Or.inr rfl | (show (_ : Int) = 0 ∨ _ = 1)) | refine And.intro ?_ ?_ | intro _ | with_reducible exact True.intro | exact rfl | with_reducible exact Or.inl rfl | with_reducible exact Or.inr rfl | exact Nat.le_of_ble_eq_true rfl)
  all_goals (try simp (disch := omega) only [ea0, InI, Int.toNat_natCast, Int.tmod_eq_emod_of_nonneg, Int.tdiv_eq_ediv_of_nonneg, true_implies, true_or, or_true, mm_l18, mm_l19, mm_l20, mm_l21, mm_l22] at *)
  all_goals first | omega | exact kA _ _ _ (by assumption) (by omega) (by omega) | skip
/-- 43: X3_cursorPlace X5_cursorPlace -/
def kdLc_43 : List mm_E := [(1898, .aload_n 1, 0), (1899, .aload_n 0, 0), (1900, .iload 4, 0), (1902, .iconst 1, 0), (1903, .iadd, 0), (1904, .iaload, 0), (1905, .ifCond .eq 7, 1912), (1908, .iconst 1, 0), (1909, .goto 4, 1913), (1912, .iconst 0, 0), (1913, .invokevirtual 291, 0), (1916, .pop, 0), (1917, .aload_n 2, 0), (1918, .aload_n 0, 0), (1919, .iload 4, 0), (1921, .iconst 1, 0), (1922, .iadd, 0), (1923, .iaload, 0), (1924, .ifCond .eq 7, 1931), (1927, .iconst 1, 0), (1928, .goto 4, 1932), (1931, .iconst 0, 0), (1932, .invokevirtual 294, 0), (1935, .pop, 0), (1936, .goto 70, 2006)]
theorem kkLc_43 : mm_chk code kdLc_43 = true := mm_fck 1898 (by decide +kernel)
def ctLc_43 : List (Nat × mm_Ca) := [(291, (0, 2, 10, sp_X3_cursorPlace, 0)), (294, (0, 2, 14, sp_X5_cursorPlace, 0))]
theorem peLc_43 {l : Launch} (hl : l.stackTraces = false) : mm_PEs l RL (mm_rm 2048 84000 0) ctLc_43 := ⟨mm_pe (me_X3_cursorPlace hl) mwX3_cursorPlace (mm_t2 81 rfl rfl) (Nat.le_of_ble_eq_true rfl) (Nat.le_of_ble_eq_true rfl), mm_pe (me_X5_cursorPlace hl) mwX5_cursorPlace (mm_t8 7 rfl rfl) (Nat.le_of_ble_eq_true rfl) (Nat.le_of_ble_eq_true rfl), trivial⟩
set_option maxRecDepth 20000 in
theorem csL_43 {l : Launch} {SC : Nat → Option (Nat × (Nat → Int32))} {MU : Nat} {Z : Nat → mm_K} (hl : l.stackTraces = false) (hC : mm_CZ l SC MU Z) {b L n u : Nat} {xs : Nat → Int32} {i : Int} {M : mm_M} (hSC : SC b = some (L, xs)) (hL : L < 2147483648) (hi : 0 ≤ i ∧ i + 5 ≤ L) (hI : LI n M) (hn : n ≤ 1000) (hu : u + 100 ≤ MU) (fin : ∀ M' x5 x6 u', LI (n + 1) M' → u' ≤ u + 100 → Z 2006 [some (mm_X b), some (mm_R 1), some (mm_R 17), some (mm_R 23), some (mm_I i), x5, x6] [] M' [] u') (x5 x6 : Option mm_V) : Z 1898 [some (mm_X b), some (mm_R 1), some (mm_R 17), some (mm_R 23), some (mm_I i), x5, x6] [] M [] u := by
  have ha := hI.1
  have hA0 := hxI (xs (i + 1).toNat)
  obtain ⟨a0, ea0⟩ : ∃ a, (xs (i + 1).toNat).toInt = a := ⟨_, rfl⟩
  rw [ea0] at hA0
  have k3 : ∀ M2 (r r' : Int) u2, LI (n + 1) M2 → r = r' → InI r → u2 ≤ u + 80 → Z 1935 [some (mm_X b), some (mm_R 1), some (mm_R 17), some (mm_R 23), some (mm_I i), x5, x6] [mm_I r'] M2 [] u2 := by
    intro M2 r r' u2 hI2 hr hir hu2
    have fin2 := fun x5 x6 u' h => fin M2 x5 x6 u' hI2 h
    clear fin
    refine mm_wpZ_at (stop := [2006]) hC kkLc_43 (peLc_43 hl) 90 ?_
    repeat' (first | with_reducible assumption | with_reducible exact mm_i1 | with_reducible exact mm_i17 | with_reducible exact mm_i23 | ((with_reducible show mm_rv _ _ _ _ _); first | exact True.intro | exact mm_i1 | exact mm_i17 | exact mm_i23) | ((with_reducible show mm_bool _ _); first | exact True.intro | exact Or.inl rfl | exact Or.inr rfl | (show (_ : Int) = 0 ∨ _ = 1)) | refine And.intro ?_ ?_ | intro _ | with_reducible exact True.intro | exact rfl | with_reducible exact Or.inl rfl | with_reducible exact Or.inr rfl | exact Nat.le_of_ble_eq_true rfl)
    all_goals (try simp (disch := omega) only [InI, Int.toNat_natCast, Int.tmod_eq_emod_of_nonneg, Int.tdiv_eq_ediv_of_nonneg, true_implies, true_or, or_true, mm_l18, mm_l19, mm_l20, mm_l21, mm_l22] at *)
    all_goals first | omega | exact fin2 _ _ _ (by omega) | skip
  have k2 : ∀ (f0 : Int) M1 r u1, ((f0 = 0 ∧ a0 = 0) ∨ (f0 = 1 ∧ a0 ≠ 0)) → cP M M1 → InI r → C_cursorPlace f0 M M1 0 r → u1 ≤ u + 60 → Z 1916 [some (mm_X b), some (mm_R 1), some (mm_R 17), some (mm_R 23), some (mm_I i), x5, x6] [mm_I r] M1 [] u1 := by
    intro f0 M1 r u1 hb0 hP hir hc hu1
    have hf0 : f0 = 0 ∨ f0 = 1 := by omega
    have hx := hl_x hI hP (fun _ _ => rfl)
    have q : ∀ M' (r' : Int) f0' , xP M1 M' → C_cursorPlace f0' (vX M1) (vX M') (M' 17 0) r' → f0' = f0 → ∀ u2, u2 ≤ u + 80 → Z 1935 [some (mm_X b), some (mm_R 1), some (mm_R 17), some (mm_R 23), some (mm_I i), x5, x6] [mm_I r'] M' [] u2 := by
      intro M' r' f0' h3 h4 e0 u2 hu2
      subst e0
      obtain ⟨p1, p2, p3⟩ := P_cursorPlace hf0 hI hP (fun _ _ => rfl) hc h3 h4
      exact k3 M' r r' u2 p1 (p3 rfl) hir hu2
    clear k3 hP hc fin
    refine mm_wpZ_at (stop := [1935]) hC kkLc_43 (peLc_43 hl) 90 ?_
    repeat' (first | with_reducible assumption | with_reducible exact mm_i1 | with_reducible exact mm_i17 | with_reducible exact mm_i23 | ((with_reducible show mm_rv _ _ _ _ _); first | exact True.intro | exact mm_i1 | exact mm_i17 | exact mm_i23 | ((with_reducible show xA _); exact hx) | refine mm_sc hSC ?_ | ((with_reducible show InI _); exact hxI _)) | ((with_reducible show xA _); exact hx) | refine mm_sc hSC ?_ | ((with_reducible show InI _); exact hxI _) | ((with_reducible show mm_bool _ _); first | exact True.intro | exact Or.inl rfl | exact Or.inr rfl | (show (_ : Int) = 0 ∨ _ = 1)) | refine And.intro ?_ ?_ | intro _ | with_reducible exact True.intro | exact rfl | with_reducible exact Or.inl rfl | with_reducible exact Or.inr rfl | exact Nat.le_of_ble_eq_true rfl)
    all_goals (try simp (disch := omega) only [ea0, InI, Int.toNat_natCast, Int.tmod_eq_emod_of_nonneg, Int.tdiv_eq_ediv_of_nonneg, true_implies, true_or, or_true, mm_l18, mm_l19, mm_l20, mm_l21, mm_l22] at *)
    all_goals first | omega | exact q _ _ _ (by assumption) (by assumption) (by omega) _ (by omega) | skip
  clear k3 fin
  have kA := fun f r u1 (h : InI r ∧ C_cursorPlace f M M 0 r) (hf : (f = 0 ∧ a0 = 0) ∨ (f = 1 ∧ a0 ≠ 0)) => k2 f M r u1 hf ha.rf h.1 h.2
  clear k2
  refine mm_wpZ_at (stop := [1916]) hC kkLc_43 (peLc_43 hl) 90 ?_
  repeat' (first | with_reducible assumption | with_reducible exact mm_i1 | with_reducible exact mm_i17 | with_reducible exact mm_i23 | ((with_reducible show mm_rv _ _ _ _ _); first | exact True.intro | exact mm_i1 | exact mm_i17 | exact mm_i23 | ((with_reducible show wA _); exact ha) | refine mm_sc hSC ?_ | ((with_reducible show InI _); exact hxI _)) | ((with_reducible show wA _); exact ha) | refine mm_sc hSC ?_ | ((with_reducible show InI _); exact hxI _) | ((with_reducible show mm_bool _ _); first | exact True.intro | exact Or.inl rfl | exact Or.inr rfl | (show (_ : Int) = 0 ∨ _ = 1)) | refine And.intro ?_ ?_ | intro _ | with_reducible exact True.intro | exact rfl | with_reducible exact Or.inl rfl | with_reducible exact Or.inr rfl | exact Nat.le_of_ble_eq_true rfl)
  all_goals (try simp (disch := omega) only [ea0, InI, Int.toNat_natCast, Int.tmod_eq_emod_of_nonneg, Int.tdiv_eq_ediv_of_nonneg, true_implies, true_or, or_true, mm_l18, mm_l19, mm_l20, mm_l21, mm_l22] at *)
  all_goals first | omega | exact kA _ _ _ (by assumption) (by omega) (by omega) | skip
/-- 44: L_house X5_house -/
def kdLc_44 : List mm_E := [(1939, .aload_n 1, 0), (1940, .aload_n 0, 0), (1941, .iload 4, 0), (1943, .iconst 1, 0), (1944, .iadd, 0), (1945, .iaload, 0), (1946, .aload_n 3, 0), (1947, .invokestatic 295, 0), (1950, .istore 5, 0), (1952, .aload_n 2, 0), (1953, .aload_n 0, 0), (1954, .iload 4, 0), (1956, .iconst 1, 0), (1957, .iadd, 0), (1958, .iaload, 0), (1959, .invokevirtual 297, 0), (1962, .istore 6, 0), (1964, .goto 42, 2006)]
theorem kkLc_44 : mm_chk code kdLc_44 = true := mm_fck 1939 (by decide +kernel)
def ctLc_44 : List (Nat × mm_Ca) := [(295, (1, 3, 0, sp_L_house, 1)), (297, (0, 2, 14, sp_X5_house, 0))]
theorem peLc_44 {l : Launch} (hl : l.stackTraces = false) : mm_PEs l RL (mm_rm 2048 84000 0) ctLc_44 := ⟨mm_pe (me_L_house hl) mwL_house (mm_t6 34 rfl rfl) (Nat.le_of_ble_eq_true rfl) (Nat.le_of_ble_eq_true rfl), mm_pe (me_X5_house hl) mwX5_house (mm_t8 15 rfl rfl) (Nat.le_of_ble_eq_true rfl) (Nat.le_of_ble_eq_true rfl), trivial⟩
set_option maxRecDepth 20000 in
theorem csL_44 {l : Launch} {SC : Nat → Option (Nat × (Nat → Int32))} {MU : Nat} {Z : Nat → mm_K} (hl : l.stackTraces = false) (hC : mm_CZ l SC MU Z) {b L n u : Nat} {xs : Nat → Int32} {i : Int} {M : mm_M} (hSC : SC b = some (L, xs)) (hL : L < 2147483648) (hi : 0 ≤ i ∧ i + 5 ≤ L) (hI : LI n M) (hn : n ≤ 1000) (hu : u + 100 ≤ MU) (fin : ∀ M' x5 x6 u', LI (n + 1) M' → u' ≤ u + 100 → Z 2006 [some (mm_X b), some (mm_R 1), some (mm_R 17), some (mm_R 23), some (mm_I i), x5, x6] [] M' [] u') (x5 x6 : Option mm_V) : Z 1939 [some (mm_X b), some (mm_R 1), some (mm_R 17), some (mm_R 23), some (mm_I i), x5, x6] [] M [] u := by
  have ha := hI.1
  have hA0 := hxI (xs (i + 1).toNat)
  obtain ⟨a0, ea0⟩ : ∃ a, (xs (i + 1).toNat).toInt = a := ⟨_, rfl⟩
  rw [ea0] at hA0
  have k3 : ∀ M2 (e r' : Int) u2, LI (n + 1) M2 → u2 ≤ u + 80 → Z 1962 [some (mm_X b), some (mm_R 1), some (mm_R 17), some (mm_R 23), some (mm_I i), some (mm_I e), x6] [mm_I r'] M2 [] u2 := by
    intro M2 e r' u2 hI2 hu2
    have fin2 := fun x5 x6 u' h => fin M2 x5 x6 u' hI2 h
    clear fin
    refine mm_wpZ_at (stop := [2006]) hC kkLc_44 (peLc_44 hl) 90 ?_
    repeat' (first | with_reducible assumption | with_reducible exact mm_i1 | with_reducible exact mm_i17 | with_reducible exact mm_i23 | ((with_reducible show mm_rv _ _ _ _ _); first | exact True.intro | exact mm_i1 | exact mm_i17 | exact mm_i23) | ((with_reducible show mm_bool _ _); first | exact True.intro | exact Or.inl rfl | exact Or.inr rfl | (show (_ : Int) = 0 ∨ _ = 1)) | refine And.intro ?_ ?_ | intro _ | with_reducible exact True.intro | exact rfl | with_reducible exact Or.inl rfl | with_reducible exact Or.inr rfl | exact Nat.le_of_ble_eq_true rfl)
    all_goals (try simp (disch := omega) only [InI, Int.toNat_natCast, Int.tmod_eq_emod_of_nonneg, Int.tdiv_eq_ediv_of_nonneg, true_implies, true_or, or_true, mm_l18, mm_l19, mm_l20, mm_l21, mm_l22] at *)
    all_goals first | omega | exact fin2 _ _ _ (by omega) | skip
  have k2 : ∀ M1 M2 e r u1, hlP M M1 M2 e r → C_house a0 M M1 e r → u1 ≤ u + 60 → Z 1950 [some (mm_X b), some (mm_R 1), some (mm_R 17), some (mm_R 23), some (mm_I i), x5, x6] [mm_I e] M2 [] u1 := by
    intro  M1 M2 e r u1 hh hc  hu1
    have hx := hl_x hI hh.1 hh.2.2.1
    have q : ∀ M' (r' : Int) , xP M2 M' → C_house a0 (vX M2) (vX M') (M' 17 0) r' → ∀ u2, u2 ≤ u + 80 → Z 1962 [some (mm_X b), some (mm_R 1), some (mm_R 17), some (mm_R 23), some (mm_I i), some (mm_I e), x6] [mm_I r'] M' [] u2 := by
      intro M' r' h3 h4  u2 hu2
      obtain ⟨p1, p2, p3⟩ := P_house hI hh.1 hh.2.2.1 hc h3 h4
      exact k3 M' e r' u2 p1 hu2
    clear k3 hh hc fin
    refine mm_wpZ_at (stop := [1962]) hC kkLc_44 (peLc_44 hl) 90 ?_
    repeat' (first | with_reducible assumption | with_reducible exact mm_i1 | with_reducible exact mm_i17 | with_reducible exact mm_i23 | ((with_reducible show mm_rv _ _ _ _ _); first | exact True.intro | exact mm_i1 | exact mm_i17 | exact mm_i23 | ((with_reducible show xA _); exact hx) | refine mm_sc hSC ?_ | ((with_reducible show InI _); exact hxI _)) | ((with_reducible show xA _); exact hx) | refine mm_sc hSC ?_ | ((with_reducible show InI _); exact hxI _) | ((with_reducible show mm_bool _ _); first | exact True.intro | exact Or.inl rfl | exact Or.inr rfl | (show (_ : Int) = 0 ∨ _ = 1)) | refine And.intro ?_ ?_ | intro _ | with_reducible exact True.intro | exact rfl | with_reducible exact Or.inl rfl | with_reducible exact Or.inr rfl | exact Nat.le_of_ble_eq_true rfl)
    all_goals (try simp (disch := omega) only [ea0, InI, Int.toNat_natCast, Int.tmod_eq_emod_of_nonneg, Int.tdiv_eq_ediv_of_nonneg, true_implies, true_or, or_true, mm_l18, mm_l19, mm_l20, mm_l21, mm_l22] at *)
    all_goals first | omega | exact q _ _ (by assumption) (by assumption) _ (by omega) | skip
  clear k3 fin
  refine mm_wpZ_at (stop := [1950]) hC kkLc_44 (peLc_44 hl) 90 ?_
  repeat' (first | with_reducible assumption | with_reducible exact mm_i1 | with_reducible exact mm_i17 | with_reducible exact mm_i23 | ((with_reducible show mm_rv _ _ _ _ _); first | exact True.intro | exact mm_i1 | exact mm_i17 | exact mm_i23 | ((with_reducible show wA _); exact ha) | refine mm_sc hSC ?_ | ((with_reducible show InI _); exact hxI _)) | ((with_reducible show wA _); exact ha) | refine mm_sc hSC ?_ | ((with_reducible show InI _); exact hxI _) | ((with_reducible show mm_bool _ _); first | exact True.intro | exact Or.inl rfl | exact Or.inr rfl | (show (_ : Int) = 0 ∨ _ = 1)) | refine And.intro ?_ ?_ | intro _ | with_reducible exact True.intro | exact rfl | with_reducible exact Or.inl rfl | with_reducible exact Or.inr rfl | exact Nat.le_of_ble_eq_true rfl)
  all_goals (try simp (disch := omega) only [ea0, InI, Int.toNat_natCast, Int.tmod_eq_emod_of_nonneg, Int.tdiv_eq_ediv_of_nonneg, true_implies, true_or, or_true, mm_l18, mm_l19, mm_l20, mm_l21, mm_l22] at *)
  all_goals first | omega | exact k2 _ _ _ _ _ (by assumption) (by assumption) (by omega) | skip
/-- 45: X3_knock X5_knock -/
def kdLc_45 : List mm_E := [(1967, .aload_n 1, 0), (1968, .invokevirtual 298, 0), (1971, .pop, 0), (1972, .aload_n 2, 0), (1973, .invokevirtual 301, 0), (1976, .pop, 0), (1977, .goto 29, 2006)]
theorem kkLc_45 : mm_chk code kdLc_45 = true := mm_fck 1967 (by decide +kernel)
def ctLc_45 : List (Nat × mm_Ca) := [(298, (0, 1, 10, sp_X3_knock, 0)), (301, (0, 1, 14, sp_X5_knock, 0))]
theorem peLc_45 {l : Launch} (hl : l.stackTraces = false) : mm_PEs l RL (mm_rm 2048 84000 0) ctLc_45 := ⟨mm_pe (me_X3_knock hl) mwX3_knock (mm_t2 86 rfl rfl) (Nat.le_of_ble_eq_true rfl) (Nat.le_of_ble_eq_true rfl), mm_pe (me_X5_knock hl) mwX5_knock (mm_t8 23 rfl rfl) (Nat.le_of_ble_eq_true rfl) (Nat.le_of_ble_eq_true rfl), trivial⟩
set_option maxRecDepth 20000 in
theorem csL_45 {l : Launch} {SC : Nat → Option (Nat × (Nat → Int32))} {MU : Nat} {Z : Nat → mm_K} (hl : l.stackTraces = false) (hC : mm_CZ l SC MU Z) {b L n u : Nat} {xs : Nat → Int32} {i : Int} {M : mm_M} (hSC : SC b = some (L, xs)) (hL : L < 2147483648) (hi : 0 ≤ i ∧ i + 5 ≤ L) (hI : LI n M) (hn : n ≤ 1000) (hu : u + 100 ≤ MU) (fin : ∀ M' x5 x6 u', LI (n + 1) M' → u' ≤ u + 100 → Z 2006 [some (mm_X b), some (mm_R 1), some (mm_R 17), some (mm_R 23), some (mm_I i), x5, x6] [] M' [] u') (x5 x6 : Option mm_V) : Z 1967 [some (mm_X b), some (mm_R 1), some (mm_R 17), some (mm_R 23), some (mm_I i), x5, x6] [] M [] u := by
  have ha := hI.1
  have fin2 := fun (M1 : mm_M) (h : wA M1 ∧ cF M M1 ∧ M1 1 6 = M 1 6 + 1 ∧ C_knock M M1 0 (M 1 6 + 1)) (u' : Nat) (hu : u' ≤ u + 100) => fin _ x5 x6 u' (hI.knock h.1 h.2.1 h.2.2.1 h.2.2.2).2 hu
  have e17 := fun (M1 : mm_M) (h : wA M1 ∧ cF M M1 ∧ M1 1 6 = M 1 6 + 1 ∧ C_knock M M1 0 (M 1 6 + 1)) => (hI.knock h.1 h.2.1 h.2.2.1 h.2.2.2).1
  obtain ⟨z1, z2⟩ := hI.2.2.2
  clear fin
  refine mm_wpZ_at (stop := [2006]) hC kkLc_45 (peLc_45 hl) 90 ?_
  repeat' (first | with_reducible assumption | with_reducible exact mm_i1 | with_reducible exact mm_i17 | with_reducible exact mm_i23 | ((with_reducible show mm_rv _ _ _ _ _); first | exact True.intro | exact mm_i1 | exact mm_i17 | exact mm_i23 | ((with_reducible show wA _); exact ha)) | ((with_reducible show wA _); exact ha) | ((with_reducible show mm_bool _ _); first | exact True.intro | exact Or.inl rfl | exact Or.inr rfl | (show (_ : Int) = 0 ∨ _ = 1)) | refine And.intro ?_ ?_ | intro _ | with_reducible exact True.intro | exact rfl | with_reducible exact Or.inl rfl | with_reducible exact Or.inr rfl | exact Nat.le_of_ble_eq_true rfl)
  all_goals (try simp (disch := omega) only [InI, Int.toNat_natCast, Int.tmod_eq_emod_of_nonneg, Int.tdiv_eq_ediv_of_nonneg, true_implies, true_or, or_true, mm_l18, mm_l19, mm_l20, mm_l21, mm_l22] at *)
  all_goals first | omega | exact fin2 _ (by assumption) _ (by omega) | (have := e17 _ (by assumption); omega) | skip
/-- 46: X3_isSound X5_isSound -/
def kdLc_46 : List mm_E := [(1980, .aload_n 1, 0), (1981, .invokevirtual 302, 0), (1984, .pop, 0), (1985, .aload_n 2, 0), (1986, .invokevirtual 305, 0), (1989, .pop, 0), (1990, .goto 16, 2006)]
theorem kkLc_46 : mm_chk code kdLc_46 = true := mm_fck 1980 (by decide +kernel)
def ctLc_46 : List (Nat × mm_Ca) := [(302, (0, 1, 10, sp_X3_isSound, 0)), (305, (0, 1, 14, sp_X5_isSound, 0))]
theorem peLc_46 {l : Launch} (hl : l.stackTraces = false) : mm_PEs l RL (mm_rm 2048 84000 0) ctLc_46 := ⟨mm_pe (me_X3_isSound hl) mwX3_isSound (mm_t2 90 rfl rfl) (Nat.le_of_ble_eq_true rfl) (Nat.le_of_ble_eq_true rfl), mm_pe (me_X5_isSound hl) mwX5_isSound (mm_t8 27 rfl rfl) (Nat.le_of_ble_eq_true rfl) (Nat.le_of_ble_eq_true rfl), trivial⟩
set_option maxRecDepth 20000 in
theorem csL_46 {l : Launch} {SC : Nat → Option (Nat × (Nat → Int32))} {MU : Nat} {Z : Nat → mm_K} (hl : l.stackTraces = false) (hC : mm_CZ l SC MU Z) {b L n u : Nat} {xs : Nat → Int32} {i : Int} {M : mm_M} (hSC : SC b = some (L, xs)) (hL : L < 2147483648) (hi : 0 ≤ i ∧ i + 5 ≤ L) (hI : LI n M) (hn : n ≤ 1000) (hu : u + 100 ≤ MU) (fin : ∀ M' x5 x6 u', LI (n + 1) M' → u' ≤ u + 100 → Z 2006 [some (mm_X b), some (mm_R 1), some (mm_R 17), some (mm_R 23), some (mm_I i), x5, x6] [] M' [] u') (x5 x6 : Option mm_V) : Z 1980 [some (mm_X b), some (mm_R 1), some (mm_R 17), some (mm_R 23), some (mm_I i), x5, x6] [] M [] u := by
  have ha := hI.1
  have k2 : ∀ M1 r u1, (qP M M1 ∧ (r = 0 ∨ r = 1)) ∧ (WI M → sndR M r) → u1 ≤ u + 60 → Z 1984 [some (mm_X b), some (mm_R 1), some (mm_R 17), some (mm_R 23), some (mm_I i), x5, x6] [mm_I r] M1 [] u1 := by
    intro M1 r u1 h hu1
    have hx := hl_x hI h.1.1.c (fun _ _ => rfl)
    have ev : vX M1 = vX M := hl_v h.1.1.c (fun _ _ => rfl)
    have fin3 : ∀ M' r', (xQ M1 M' ∧ (r' = 0 ∨ r' = 1)) ∧ sndR (vX M1) r' → r = r' ∧ ∀ u', u' ≤ u + 100 → Z 2006 [some (mm_X b), some (mm_R 1), some (mm_R 17), some (mm_R 23), some (mm_I i), x5, x6] [] M' [] u' := fun M' r' h1 => ⟨snd_det hI.1 hI.2.1.1 hI.2.2.1.1 (h.2 hI.2.2.1.2) (by rw [← ev]; exact h1.2), fun u' hu => fin M' x5 x6 u' (hI.q h.1.1.c (fun _ _ => rfl) h1.1.1.1 h.1.1.se h1.1.1.se) hu⟩
    have fin4 := fun M' r' h1 => (fin3 M' r' h1).2
    clear fin3 fin h ev
    refine mm_wpZ_at (stop := [2006]) hC kkLc_46 (peLc_46 hl) 90 ?_
    repeat' (first | with_reducible assumption | with_reducible exact mm_i1 | with_reducible exact mm_i17 | with_reducible exact mm_i23 | ((with_reducible show mm_rv _ _ _ _ _); first | exact True.intro | exact mm_i1 | exact mm_i17 | exact mm_i23 | ((with_reducible show xA _); exact hx)) | ((with_reducible show xA _); exact hx) | ((with_reducible show mm_bool _ _); first | exact True.intro | exact Or.inl rfl | exact Or.inr rfl | (show (_ : Int) = 0 ∨ _ = 1)) | refine And.intro ?_ ?_ | intro _ | with_reducible exact True.intro | exact rfl | with_reducible exact Or.inl rfl | with_reducible exact Or.inr rfl | exact Nat.le_of_ble_eq_true rfl)
    all_goals (try simp (disch := omega) only [InI, Int.toNat_natCast, Int.tmod_eq_emod_of_nonneg, Int.tdiv_eq_ediv_of_nonneg, true_implies, true_or, or_true, mm_l18, mm_l19, mm_l20, mm_l21, mm_l22] at *)
    all_goals first | omega | exact fin4 _ _ (by assumption) _ (by omega) | skip
  clear fin
  refine mm_wpZ_at (stop := [1984]) hC kkLc_46 (peLc_46 hl) 90 ?_
  repeat' (first | with_reducible assumption | with_reducible exact mm_i1 | with_reducible exact mm_i17 | with_reducible exact mm_i23 | ((with_reducible show mm_rv _ _ _ _ _); first | exact True.intro | exact mm_i1 | exact mm_i17 | exact mm_i23 | ((with_reducible show wA _); exact ha)) | ((with_reducible show wA _); exact ha) | ((with_reducible show mm_bool _ _); first | exact True.intro | exact Or.inl rfl | exact Or.inr rfl | (show (_ : Int) = 0 ∨ _ = 1)) | refine And.intro ?_ ?_ | intro _ | with_reducible exact True.intro | exact rfl | with_reducible exact Or.inl rfl | with_reducible exact Or.inr rfl | exact Nat.le_of_ble_eq_true rfl)
  all_goals (try simp (disch := omega) only [InI, Int.toNat_natCast, Int.tmod_eq_emod_of_nonneg, Int.tdiv_eq_ediv_of_nonneg, true_implies, true_or, or_true, mm_l18, mm_l19, mm_l20, mm_l21, mm_l22] at *)
  all_goals first | omega | exact k2 _ _ _ (by assumption) (by omega) | skip
/-- 47: X3_digest X5_digest -/
def kdLc_47 : List mm_E := [(1993, .aload_n 1, 0), (1994, .invokevirtual 306, 0), (1997, .pop2, 0), (1998, .aload_n 2, 0), (1999, .invokevirtual 310, 0), (2002, .pop2, 0), (2003, .goto 3, 2006)]
theorem kkLc_47 : mm_chk code kdLc_47 = true := mm_fck 1993 (by decide +kernel)
def ctLc_47 : List (Nat × mm_Ca) := [(306, (0, 1, 10, sp_X3_digest, 6)), (310, (0, 1, 14, sp_X5_digest, 0))]
theorem peLc_47 {l : Launch} (hl : l.stackTraces = false) : mm_PEs l RL (mm_rm 2048 84000 0) ctLc_47 := ⟨mm_pe (me_X3_digest hl) mwX3_digest (mm_t2 176 rfl rfl) (Nat.le_of_ble_eq_true rfl) (Nat.le_of_ble_eq_true rfl), mm_pe (me_X5_digest hl) mwX5_digest (mm_t8 47 rfl rfl) (Nat.le_of_ble_eq_true rfl) (Nat.le_of_ble_eq_true rfl), trivial⟩
set_option maxRecDepth 20000 in
theorem csL_47 {l : Launch} {SC : Nat → Option (Nat × (Nat → Int32))} {MU : Nat} {Z : Nat → mm_K} (hl : l.stackTraces = false) (hC : mm_CZ l SC MU Z) {b L n u : Nat} {xs : Nat → Int32} {i : Int} {M : mm_M} (hSC : SC b = some (L, xs)) (hL : L < 2147483648) (hi : 0 ≤ i ∧ i + 5 ≤ L) (hI : LI n M) (hn : n ≤ 1000) (hu : u + 100 ≤ MU) (fin : ∀ M' x5 x6 u', LI (n + 1) M' → u' ≤ u + 100 → Z 2006 [some (mm_X b), some (mm_R 1), some (mm_R 17), some (mm_R 23), some (mm_I i), x5, x6] [] M' [] u') (x5 x6 : Option mm_V) : Z 1993 [some (mm_X b), some (mm_R 1), some (mm_R 17), some (mm_R 23), some (mm_I i), x5, x6] [] M [] u := by
  have ha := hI.1
  have k2 : ∀ M1 r u1, qP M M1 ∧ (WI M → dgR M r) → u1 ≤ u + 60 → Z 1997 [some (mm_X b), some (mm_R 1), some (mm_R 17), some (mm_R 23), some (mm_I i), x5, x6] [mm_L r] M1 [] u1 := by
    intro M1 r u1 h hu1
    have hx := hl_x hI h.1.c (fun _ _ => rfl)
    have ev : vX M1 = vX M := hl_v h.1.c (fun _ _ => rfl)
    have fin3 : ∀ M' r', xQ M1 M' ∧ dgR (vX M1) r' → r = r' ∧ ∀ u', u' ≤ u + 100 → Z 2006 [some (mm_X b), some (mm_R 1), some (mm_R 17), some (mm_R 23), some (mm_I i), x5, x6] [] M' [] u' := fun M' r' h1 => ⟨dg_det hI.1 hI.2.1.1 hI.2.2.1.1 (h.2 hI.2.2.1.2) (by rw [← ev]; exact h1.2), fun u' hu => fin M' x5 x6 u' (hI.q h.1.c (fun _ _ => rfl) h1.1.1 h.1.se h1.1.se) hu⟩
    have fin4 := fun M' r' h1 => (fin3 M' r' h1).2
    clear fin3 fin h ev
    refine mm_wpZ_at (stop := [2006]) hC kkLc_47 (peLc_47 hl) 90 ?_
    repeat' (first | with_reducible assumption | with_reducible exact mm_i1 | with_reducible exact mm_i17 | with_reducible exact mm_i23 | ((with_reducible show mm_rv _ _ _ _ _); first | exact True.intro | exact mm_i1 | exact mm_i17 | exact mm_i23 | ((with_reducible show xA _); exact hx)) | ((with_reducible show xA _); exact hx) | ((with_reducible show mm_bool _ _); first | exact True.intro | exact Or.inl rfl | exact Or.inr rfl | (show (_ : Int) = 0 ∨ _ = 1)) | refine And.intro ?_ ?_ | intro _ | with_reducible exact True.intro | exact rfl | with_reducible exact Or.inl rfl | with_reducible exact Or.inr rfl | exact Nat.le_of_ble_eq_true rfl)
    all_goals (try simp (disch := omega) only [InI, Int.toNat_natCast, Int.tmod_eq_emod_of_nonneg, Int.tdiv_eq_ediv_of_nonneg, true_implies, true_or, or_true, mm_l18, mm_l19, mm_l20, mm_l21, mm_l22] at *)
    all_goals first | omega | exact fin4 _ _ (by assumption) _ (by omega) | skip
  clear fin
  refine mm_wpZ_at (stop := [1997]) hC kkLc_47 (peLc_47 hl) 90 ?_
  repeat' (first | with_reducible assumption | with_reducible exact mm_i1 | with_reducible exact mm_i17 | with_reducible exact mm_i23 | ((with_reducible show mm_rv _ _ _ _ _); first | exact True.intro | exact mm_i1 | exact mm_i17 | exact mm_i23 | ((with_reducible show wA _); exact ha)) | ((with_reducible show wA _); exact ha) | ((with_reducible show mm_bool _ _); first | exact True.intro | exact Or.inl rfl | exact Or.inr rfl | (show (_ : Int) = 0 ∨ _ = 1)) | refine And.intro ?_ ?_ | intro _ | with_reducible exact True.intro | exact rfl | with_reducible exact Or.inl rfl | with_reducible exact Or.inr rfl | exact Nat.le_of_ble_eq_true rfl)
  all_goals (try simp (disch := omega) only [InI, Int.toNat_natCast, Int.tmod_eq_emod_of_nonneg, Int.tdiv_eq_ediv_of_nonneg, true_implies, true_or, or_true, mm_l18, mm_l19, mm_l20, mm_l21, mm_l22] at *)
  all_goals first | omega | exact k2 _ _ _ (by assumption) (by omega) | skip
end
section
/-! the law: its helper of texts -/
def sp_L_text : mm_S := fun av M d Q => match av with
  | [.inr (.inr (.inl x)), .inl p0, .inl p1, .inr (.inr (.inl o))] =>  x = 1 ∧ o = 23 ∧ wA M ∧ InI p0 ∧ InI p1 ∧ ∀ M' e, (∀ o, o ≠ 23 → M' o = M o) → Q (.inl (some (mm_I e))) M' d
  | _ => False
def ct_L_text : List (Nat × mm_Ca) := [(112, (0, 3, 10, sp_X3_textF, 1215))]
abbrev rr_L_text (Q : mm_Q) := mm_run (mm_look flL) (mm_look ct_L_text) mm_x0 (mm_look ([] : List (Nat × Int))) (fun _ => none) 1 1215 (mm_hn [(0, 10, 13, 19), (0, 10, 17, 24)]) Q kdL_text
set_option maxRecDepth 20000 in
theorem rn_L_text : mm_RNH flL ct_L_text [] [(0, 10, 13, 19), (0, 10, 17, 24)] 1 1215 5 kdL_text sp_L_text := by
  intro av M d Q h
  unfold sp_L_text at h
  split at h
  · rename_i x p0 p1 o
    obtain ⟨rfl, rfl, ha, h0, h1, hq⟩ := h
    have q1 := fun e => hq M e (fun _ _ => rfl)
    have qc := fun x => hq (mm_up M 23 1 x) 0 (fun o ho => mm_up_o _ ho)
    clear hq
    obtain ⟨K, hK, hK2⟩ : ∃ K : Nat → mm_K, (∀ t ls st M d u, K t ls st M d u → rr_L_text Q t ls st M d u) ∧ (∀ t ls st M d u, rr_L_text Q t ls st M d u → K t ls st M d u) := ⟨rr_L_text Q, fun _ _ _ _ _ _ h => h, fun _ _ _ _ _ _ h => h⟩
    refine ⟨Nat.le_of_ble_eq_true rfl, mm_run_at (stop := []) (S := K) kkL_text 90 ?_ (fun _ _ _ _ _ _ _ h => hK _ _ _ _ _ _ h)⟩
    repeat' (first | with_reducible assumption | with_reducible exact mm_i1 | with_reducible exact mm_i17 | with_reducible exact mm_i23 | ((with_reducible show mm_rv _ _ _ _ _); first | exact True.intro | exact mm_i1 | exact mm_i17 | exact mm_i23 | refine mm_k3 ?_) | refine mm_k3 ?_ | ((with_reducible show mm_bool _ _); first | exact True.intro | exact Or.inl rfl | exact Or.inr rfl | (show (_ : Int) = 0 ∨ _ = 1)) | refine And.intro ?_ ?_ | intro _ | with_reducible exact True.intro | exact rfl | with_reducible exact Or.inl rfl | with_reducible exact Or.inr rfl | exact Nat.le_of_ble_eq_true rfl)
    all_goals (try simp (disch := omega) only [InI, Int.toNat_natCast, Int.tmod_eq_emod_of_nonneg, Int.tdiv_eq_ediv_of_nonneg, true_implies, true_or, or_true, mm_l18, mm_l19, mm_l20, mm_l21, mm_l22] at *)
    all_goals first | omega | exact qc _ | exact q1 _ | skip
  · exact h.elim
theorem me_L_text {l : Launch} (hl : l.stackTraces = false) : mm_Met l yL_text cL_text 5 (some .int) [(0, 10, 13, 19), (0, 10, 17, 24)] 13 258 1215 sp_L_text := mm_mtH rn_L_text ⟨by decide, rfl⟩ kkL_text rfl (by decide) (⟨mm_pe (me_X3_textF hl) mwX3_text (mm_t4 183 rfl rfl) (Nat.le_of_ble_eq_true rfl) (Nat.le_of_ble_eq_true rfl), trivial⟩)
end
section
/-! the law: its cases -/
/-- 35: L_text X5_text -/
def kdLc_35 : List mm_E := [(1615, .aload_n 1, 0), (1616, .aload_n 0, 0), (1617, .iload 4, 0), (1619, .iconst 1, 0), (1620, .iadd, 0), (1621, .iaload, 0), (1622, .aload_n 0, 0), (1623, .iload 4, 0), (1625, .iconst 2, 0), (1626, .iadd, 0), (1627, .iaload, 0), (1628, .aload_n 3, 0), (1629, .invokestatic 263, 0), (1632, .istore 5, 0), (1634, .aload_n 2, 0), (1635, .aload_n 0, 0), (1636, .iload 4, 0), (1638, .iconst 1, 0), (1639, .iadd, 0), (1640, .iaload, 0), (1641, .aload_n 0, 0), (1642, .iload 4, 0), (1644, .iconst 2, 0), (1645, .iadd, 0), (1646, .iaload, 0), (1647, .invokevirtual 265, 0), (1650, .astore 6, 0), (1652, .goto 354, 2006)]
theorem kkLc_35 : mm_chk code kdLc_35 = true := mm_fck 1615 (by decide +kernel)
def ctLc_35 : List (Nat × mm_Ca) := [(263, (1, 4, 0, sp_L_text, 1215)), (265, (0, 3, 14, sp_X5_textF, 1215))]
theorem peLc_35 {l : Launch} (hl : l.stackTraces = false) : mm_PEs l RL (mm_rm 2048 84000 0) ctLc_35 := ⟨mm_pe (me_L_text hl) mwL_text (mm_t4 180 rfl rfl) (Nat.le_of_ble_eq_true rfl) (Nat.le_of_ble_eq_true rfl), mm_pe (me_X5_textF hl) mwX5_text (mm_t7 188 rfl rfl) (Nat.le_of_ble_eq_true rfl) (Nat.le_of_ble_eq_true rfl), trivial⟩
set_option maxRecDepth 20000 in
theorem csL_35 {l : Launch} {SC : Nat → Option (Nat × (Nat → Int32))} {MU : Nat} {Z : Nat → mm_K} (hl : l.stackTraces = false) (hC : mm_CZ l SC MU Z) {b L n u : Nat} {xs : Nat → Int32} {i : Int} {M : mm_M} (hSC : SC b = some (L, xs)) (hL : L < 2147483648) (hi : 0 ≤ i ∧ i + 5 ≤ L) (hI : LI n M) (hn : n ≤ 1000) (hu : u + 3000 ≤ MU) (fin : ∀ M' x5 x6 u', LI (n + 1) M' → u' ≤ u + 3000 → Z 2006 [some (mm_X b), some (mm_R 1), some (mm_R 17), some (mm_R 23), some (mm_I i), x5, x6] [] M' [] u') (x5 x6 : Option mm_V) : Z 1615 [some (mm_X b), some (mm_R 1), some (mm_R 17), some (mm_R 23), some (mm_I i), x5, x6] [] M [] u := by
  have ha := hI.1
  have hA0 := hxI (xs (i + 1).toNat)
  obtain ⟨a0, ea0⟩ : ∃ a, (xs (i + 1).toNat).toInt = a := ⟨_, rfl⟩
  rw [ea0] at hA0
  have hA1 := hxI (xs (i + 2).toNat)
  obtain ⟨a1, ea1⟩ : ∃ a, (xs (i + 2).toNat).toInt = a := ⟨_, rfl⟩
  rw [ea1] at hA1
  have k2 : ∀ M2 (e : Int) u1, (∀ o, o ≠ 23 → M2 o = M o) → u1 ≤ u + 1300 → Z 1632 [some (mm_X b), some (mm_R 1), some (mm_R 17), some (mm_R 23), some (mm_I i), x5, x6] [mm_I e] M2 [] u1 := by
    intro M2 e u1 h hu1
    have hx := hl_x hI ha.rf h
    have fin3 : ∀ M', xT M2 M' → ∀ x5 x6 u', u' ≤ u + 3000 → Z 2006 [some (mm_X b), some (mm_R 1), some (mm_R 17), some (mm_R 23), some (mm_I i), x5, x6] [] M' [] u' := fun M' h1 x5 x6 u' hu => fin M' x5 x6 u' (hI.q ha.rf h h1.1 SE.rf (SE.eq h1.2)) hu
    clear fin
    refine mm_wpZ_at (stop := [2006]) hC kkLc_35 (peLc_35 hl) 90 ?_
    repeat' (first | with_reducible assumption | with_reducible exact mm_i1 | with_reducible exact mm_i17 | with_reducible exact mm_i23 | ((with_reducible show mm_rv _ _ _ _ _); first | exact True.intro | exact mm_i1 | exact mm_i17 | exact mm_i23 | ((with_reducible show xA _); exact hx) | refine mm_sc hSC ?_ | ((with_reducible show InI _); exact hxI _)) | ((with_reducible show xA _); exact hx) | refine mm_sc hSC ?_ | ((with_reducible show InI _); exact hxI _) | ((with_reducible show mm_bool _ _); first | exact True.intro | exact Or.inl rfl | exact Or.inr rfl | (show (_ : Int) = 0 ∨ _ = 1)) | refine And.intro ?_ ?_ | intro _ | with_reducible exact True.intro | exact rfl | with_reducible exact Or.inl rfl | with_reducible exact Or.inr rfl | exact Nat.le_of_ble_eq_true rfl)
    all_goals (try simp (disch := omega) only [ea0, ea1, InI, Int.toNat_natCast, Int.tmod_eq_emod_of_nonneg, Int.tdiv_eq_ediv_of_nonneg, true_implies, true_or, or_true, mm_l18, mm_l19, mm_l20, mm_l21, mm_l22] at *)
    all_goals first | omega | exact fin3 _ (by assumption) _ _ _ (by omega) | skip
  clear fin
  refine mm_wpZ_at (stop := [1632]) hC kkLc_35 (peLc_35 hl) 90 ?_
  repeat' (first | with_reducible assumption | with_reducible exact mm_i1 | with_reducible exact mm_i17 | with_reducible exact mm_i23 | ((with_reducible show mm_rv _ _ _ _ _); first | exact True.intro | exact mm_i1 | exact mm_i17 | exact mm_i23 | ((with_reducible show wA _); exact ha) | refine mm_sc hSC ?_ | ((with_reducible show InI _); exact hxI _)) | ((with_reducible show wA _); exact ha) | refine mm_sc hSC ?_ | ((with_reducible show InI _); exact hxI _) | ((with_reducible show mm_bool _ _); first | exact True.intro | exact Or.inl rfl | exact Or.inr rfl | (show (_ : Int) = 0 ∨ _ = 1)) | refine And.intro ?_ ?_ | intro _ | with_reducible exact True.intro | exact rfl | with_reducible exact Or.inl rfl | with_reducible exact Or.inr rfl | exact Nat.le_of_ble_eq_true rfl)
  all_goals (try simp (disch := omega) only [ea0, ea1, InI, Int.toNat_natCast, Int.tmod_eq_emod_of_nonneg, Int.tdiv_eq_ediv_of_nonneg, true_implies, true_or, or_true, mm_l18, mm_l19, mm_l20, mm_l21, mm_l22] at *)
  all_goals first | omega | exact k2 _ _ _ (by assumption) (by omega) | skip
end
section
/-! the law's loop -/
theorem and63 (v : Int) : 0 ≤ mm_and v 63 ∧ mm_and v 63 ≤ 63 := by
  have h1 : (Int32.ofInt v &&& Int32.ofInt 63).toBitVec.toNat ≤ 63 := by
    rw [Int32.toBitVec_and, BitVec.toNat_and]
    exact Nat.le_trans Nat.and_le_right (by decide)
  unfold mm_and
  have h3 : (Int32.ofInt v &&& Int32.ofInt 63).toInt = (Int32.ofInt v &&& Int32.ofInt 63).toBitVec.toInt := rfl
  rw [h3, BitVec.toInt_eq_toNat_cond]
  split <;> omega
def startsL : List Nat := [248, 288, 328, 368, 396, 409, 450, 463, 476, 532, 572, 585, 598, 611, 639, 667, 707, 775, 831, 887, 943, 995, 1035, 1099, 1127, 1167, 1235, 1291, 1331, 1359, 1399, 1439, 1479, 1535, 1575, 1615, 1655, 1707, 1747, 1788, 1816, 1844, 1857, 1898, 1939, 1967, 1980, 1993]
def kdLc_t : List mm_E := [(2006, .iinc 4 5, 0), (2009, .goto (-1982), 27)]
theorem kkLc_t : mm_chk code kdLc_t = true := by decide +kernel
def kdLc_g : List mm_E := [(27, .iload 4, 0), (29, .aload_n 0, 0), (30, .arraylength, 0), (31, .iconst 5, 0), (32, .isub, 0), (33, .if_icmp .gt 1979, 2012), (36, .aload_n 0, 0), (37, .iload 4, 0), (39, .iaload, 0), (40, .bipush 63, 0), (42, .iand, 0)]
theorem kkLc_g : mm_chk code kdLc_g = true := by decide +kernel
set_option maxRecDepth 20000 in
theorem loopL {l : Launch} {SC : Nat → Option (Nat × (Nat → Int32))} {MU : Nat} {Z : Nat → mm_K} (hl : l.stackTraces = false) (hC : mm_CZ l SC MU Z) {b L : Nat} {xs : Nat → Int32} (hSC : SC b = some (L, xs)) (hL : L ≤ 320) (hMU : 310000 ≤ MU)
    (hT : ∀ (a : Int) ls M u, (0 ≤ a ∧ a ≤ 63) → (∀ k, a = (k : Nat) → ∀ t, startsL[k]? = some t → Z t ls [] M [] u) → (47 < a → Z 2006 ls [] M [] u) → Z 43 ls [mm_I a] M [] u)
    (hE : ∀ ls M u, u ≤ MU → ls.length = 7 → (∃ n, LI n M) → Z 2012 ls [] M [] u)
    (h35 : ∀ n u i M, (0 ≤ i ∧ i + 5 ≤ (L : Int)) → LI n M → n ≤ 1000 → u + 3000 ≤ MU → (∀ M' x5 x6 u', LI (n + 1) M' → u' ≤ u + 3000 → Z 2006 [some (mm_X b), some (mm_R 1), some (mm_R 17), some (mm_R 23), some (mm_I i), x5, x6] [] M' [] u') → ∀ x5 x6, Z 1615 [some (mm_X b), some (mm_R 1), some (mm_R 17), some (mm_R 23), some (mm_I i), x5, x6] [] M [] u) :
    ∀ (j n u : Nat) (i : Int) (M : mm_M) (x5 x6 : Option mm_V), (L : Int) < i + 5 * j → 0 ≤ i → i ≤ 330 → LI n M → n + j ≤ 100 → u + 3000 * j ≤ MU → Z 27 [some (mm_X b), some (mm_R 1), some (mm_R 17), some (mm_R 23), some (mm_I i), x5, x6] [] M [] u := by
  intro j
  induction j with
  | zero =>
    intro n u i M x5 x6 hj hi hi3 hI hn hu
    refine mm_wpZ_at (stop := [2012]) (ct := []) hC kkLc_g trivial 40 ?_
    repeat' (first | with_reducible assumption | with_reducible exact mm_i1 | with_reducible exact mm_i17 | with_reducible exact mm_i23 | ((with_reducible show mm_rv _ _ _ _ _); first | exact True.intro | exact mm_i1 | exact mm_i17 | exact mm_i23 | refine mm_sc hSC ?_ | ((with_reducible show InI _); exact hxI _)) | refine mm_sc hSC ?_ | ((with_reducible show InI _); exact hxI _) | ((with_reducible show mm_bool _ _); first | exact True.intro | exact Or.inl rfl | exact Or.inr rfl | (show (_ : Int) = 0 ∨ _ = 1)) | refine And.intro ?_ ?_ | intro _ | with_reducible exact True.intro | exact rfl | with_reducible exact Or.inl rfl | with_reducible exact Or.inr rfl | exact Nat.le_of_ble_eq_true rfl)
    all_goals (try simp (disch := omega) only [InI, Int.toNat_natCast, Int.tmod_eq_emod_of_nonneg, Int.tdiv_eq_ediv_of_nonneg, true_implies, true_or, or_true, mm_l18, mm_l19, mm_l20, mm_l21, mm_l22] at *)
    all_goals first | omega | exact hE _ _ _ (by omega) rfl ⟨_, hI⟩ | skip
  | succ j ih =>
    intro n u i M x5 x6 hj hi hi3 hI hn hu
    have hg : i + 5 ≤ L → ∀ M' x5 x6 u', LI (n + 1) M' → u' ≤ u + 3000 → Z 2006 [some (mm_X b), some (mm_R 1), some (mm_R 17), some (mm_R 23), some (mm_I i), x5, x6] [] M' [] u' := by
      intro h5 M' x5 x6 u' h1 h2
      have st := ih (n + 1) u' (i + 5) M' x5 x6 (by omega) (by omega) (by omega) h1 (by omega) (by omega)
      refine mm_wpZ_at (stop := [27]) (ct := []) hC kkLc_t trivial 40 ?_
      repeat' (first | with_reducible assumption | with_reducible exact mm_i1 | with_reducible exact mm_i17 | with_reducible exact mm_i23 | ((with_reducible show mm_rv _ _ _ _ _); first | exact True.intro | exact mm_i1 | exact mm_i17 | exact mm_i23) | ((with_reducible show mm_bool _ _); first | exact True.intro | exact Or.inl rfl | exact Or.inr rfl | (show (_ : Int) = 0 ∨ _ = 1)) | refine And.intro ?_ ?_ | intro _ | with_reducible exact True.intro | exact rfl | with_reducible exact Or.inl rfl | with_reducible exact Or.inr rfl | exact Nat.le_of_ble_eq_true rfl)
      all_goals (try simp (disch := omega) only [InI, Int.toNat_natCast, Int.tmod_eq_emod_of_nonneg, Int.tdiv_eq_ediv_of_nonneg, true_implies, true_or, or_true, mm_l18, mm_l19, mm_l20, mm_l21, mm_l22] at *)
      all_goals first | omega | exact st | skip
    have k43 : i + 5 ≤ L → ∀ a : Int, (0 ≤ a ∧ a ≤ 63) → Z 43 [some (mm_X b), some (mm_R 1), some (mm_R 17), some (mm_R 23), some (mm_I i), x5, x6] [mm_I a] M [] u := by
      intro h5 a ha
      have hn9 : n ≤ 1000 := by omega
      have hu9 : u + 100 ≤ MU := by omega
      have hu8 : u + 3000 ≤ MU := by omega
      have hg1 : i + 5 ≤ L → ∀ M' x5 x6 u', LI (n + 1) M' → u' ≤ u + 100 → Z 2006 [some (mm_X b), some (mm_R 1), some (mm_R 17), some (mm_R 23), some (mm_I i), x5, x6] [] M' [] u' := fun h5 M' x5 x6 u' a c => hg h5 M' x5 x6 u' a (by omega)
      have hL9 : L < 2147483648 := by omega
      refine hT a _ M u ha (fun k hk t ht => ?_) (fun _ => hg h5 M x5 x6 u hI.up (by omega))
      subst hk
      have hk48 : k < 48 := by
        have := (List.getElem?_eq_some_iff.mp ht).1
        exact this
      rcases (show k = 0 ∨ k = 1 ∨ k = 2 ∨ k = 3 ∨ k = 4 ∨ k = 5 ∨ k = 6 ∨ k = 7 ∨ k = 8 ∨ k = 9 ∨ k = 10 ∨ k = 11 ∨ k = 12 ∨ k = 13 ∨ k = 14 ∨ k = 15 ∨ k = 16 ∨ k = 17 ∨ k = 18 ∨ k = 19 ∨ k = 20 ∨ k = 21 ∨ k = 22 ∨ k = 23 ∨ k = 24 ∨ k = 25 ∨ k = 26 ∨ k = 27 ∨ k = 28 ∨ k = 29 ∨ k = 30 ∨ k = 31 ∨ k = 32 ∨ k = 33 ∨ k = 34 ∨ k = 35 ∨ k = 36 ∨ k = 37 ∨ k = 38 ∨ k = 39 ∨ k = 40 ∨ k = 41 ∨ k = 42 ∨ k = 43 ∨ k = 44 ∨ k = 45 ∨ k = 46 ∨ k = 47 by omega) with rfl | rfl | rfl | rfl | rfl | rfl | rfl | rfl | rfl | rfl | rfl | rfl | rfl | rfl | rfl | rfl | rfl | rfl | rfl | rfl | rfl | rfl | rfl | rfl | rfl | rfl | rfl | rfl | rfl | rfl | rfl | rfl | rfl | rfl | rfl | rfl | rfl | rfl | rfl | rfl | rfl | rfl | rfl | rfl | rfl | rfl | rfl | rfl
      · cases ht
        exact csL_0 hl hC hSC hL9 ⟨hi, h5⟩ hI hn9 hu9 (hg1 h5) x5 x6
      · cases ht
        exact csL_1 hl hC hSC hL9 ⟨hi, h5⟩ hI hn9 hu9 (hg1 h5) x5 x6
      · cases ht
        exact csL_2 hl hC hSC hL9 ⟨hi, h5⟩ hI hn9 hu9 (hg1 h5) x5 x6
      · cases ht
        exact csL_3 hl hC hSC hL9 ⟨hi, h5⟩ hI hn9 hu9 (hg1 h5) x5 x6
      · cases ht
        exact csL_4 hl hC hSC hL9 ⟨hi, h5⟩ hI hn9 hu9 (hg1 h5) x5 x6
      · cases ht
        exact csL_5 hl hC hSC hL9 ⟨hi, h5⟩ hI hn9 hu9 (hg1 h5) x5 x6
      · cases ht
        exact csL_6 hl hC hSC hL9 ⟨hi, h5⟩ hI hn9 hu9 (hg1 h5) x5 x6
      · cases ht
        exact csL_7 hl hC hSC hL9 ⟨hi, h5⟩ hI hn9 hu9 (hg1 h5) x5 x6
      · cases ht
        exact csL_8 hl hC hSC hL9 ⟨hi, h5⟩ hI hn9 hu9 (hg1 h5) x5 x6
      · cases ht
        exact csL_9 hl hC hSC hL9 ⟨hi, h5⟩ hI hn9 hu9 (hg1 h5) x5 x6
      · cases ht
        exact csL_10 hl hC hSC hL9 ⟨hi, h5⟩ hI hn9 hu9 (hg1 h5) x5 x6
      · cases ht
        exact csL_11 hl hC hSC hL9 ⟨hi, h5⟩ hI hn9 hu9 (hg1 h5) x5 x6
      · cases ht
        exact csL_12 hl hC hSC hL9 ⟨hi, h5⟩ hI hn9 hu9 (hg1 h5) x5 x6
      · cases ht
        exact csL_13 hl hC hSC hL9 ⟨hi, h5⟩ hI hn9 hu9 (hg1 h5) x5 x6
      · cases ht
        exact csL_14 hl hC hSC hL9 ⟨hi, h5⟩ hI hn9 hu9 (hg1 h5) x5 x6
      · cases ht
        exact csL_15 hl hC hSC hL9 ⟨hi, h5⟩ hI hn9 hu9 (hg1 h5) x5 x6
      · cases ht
        exact csL_16 hl hC hSC hL9 ⟨hi, h5⟩ hI hn9 hu9 (hg1 h5) x5 x6
      · cases ht
        exact csL_17 hl hC hSC hL9 ⟨hi, h5⟩ hI hn9 hu9 (hg1 h5) x5 x6
      · cases ht
        exact csL_18 hl hC hSC hL9 ⟨hi, h5⟩ hI hn9 hu9 (hg1 h5) x5 x6
      · cases ht
        exact csL_19 hl hC hSC hL9 ⟨hi, h5⟩ hI hn9 hu9 (hg1 h5) x5 x6
      · cases ht
        exact csL_20 hl hC hSC hL9 ⟨hi, h5⟩ hI hn9 hu9 (hg1 h5) x5 x6
      · cases ht
        exact csL_21 hl hC hSC hL9 ⟨hi, h5⟩ hI hn9 hu9 (hg1 h5) x5 x6
      · cases ht
        exact csL_22 hl hC hSC hL9 ⟨hi, h5⟩ hI hn9 hu9 (hg1 h5) x5 x6
      · cases ht
        exact csL_23 hl hC hSC hL9 ⟨hi, h5⟩ hI hn9 hu9 (hg1 h5) x5 x6
      · cases ht
        exact csL_24 hl hC hSC hL9 ⟨hi, h5⟩ hI hn9 hu9 (hg1 h5) x5 x6
      · cases ht
        exact csL_25 hl hC hSC hL9 ⟨hi, h5⟩ hI hn9 hu9 (hg1 h5) x5 x6
      · cases ht
        exact csL_26 hl hC hSC hL9 ⟨hi, h5⟩ hI hn9 hu9 (hg1 h5) x5 x6
      · cases ht
        exact csL_27 hl hC hSC hL9 ⟨hi, h5⟩ hI hn9 hu9 (hg1 h5) x5 x6
      · cases ht
        exact csL_28 hl hC hSC hL9 ⟨hi, h5⟩ hI hn9 hu9 (hg1 h5) x5 x6
      · cases ht
        exact csL_29 hl hC hSC hL9 ⟨hi, h5⟩ hI hn9 hu9 (hg1 h5) x5 x6
      · cases ht
        exact csL_30 hl hC hSC hL9 ⟨hi, h5⟩ hI hn9 hu9 (hg1 h5) x5 x6
      · cases ht
        exact csL_31 hl hC hSC hL9 ⟨hi, h5⟩ hI hn9 hu9 (hg1 h5) x5 x6
      · cases ht
        exact csL_32 hl hC hSC hL9 ⟨hi, h5⟩ hI hn9 hu9 (hg1 h5) x5 x6
      · cases ht
        exact csL_33 hl hC hSC hL9 ⟨hi, h5⟩ hI hn9 hu9 (hg1 h5) x5 x6
      · cases ht
        exact csL_34 hl hC hSC hL9 ⟨hi, h5⟩ hI hn9 hu9 (hg1 h5) x5 x6
      · cases ht
        exact h35 n u i M ⟨hi, h5⟩ hI hn9 hu8 (hg h5) x5 x6
      · cases ht
        exact csL_36 hl hC hSC hL9 ⟨hi, h5⟩ hI hn9 hu9 (hg1 h5) x5 x6
      · cases ht
        exact csL_37 hl hC hSC hL9 ⟨hi, h5⟩ hI hn9 hu9 (hg1 h5) x5 x6
      · cases ht
        exact csL_38 hl hC hSC hL9 ⟨hi, h5⟩ hI hn9 hu9 (hg1 h5) x5 x6
      · cases ht
        exact csL_39 hl hC hSC hL9 ⟨hi, h5⟩ hI hn9 hu9 (hg1 h5) x5 x6
      · cases ht
        exact csL_40 hl hC hSC hL9 ⟨hi, h5⟩ hI hn9 hu9 (hg1 h5) x5 x6
      · cases ht
        exact csL_41 hl hC hSC hL9 ⟨hi, h5⟩ hI hn9 hu9 (hg1 h5) x5 x6
      · cases ht
        exact csL_42 hl hC hSC hL9 ⟨hi, h5⟩ hI hn9 hu9 (hg1 h5) x5 x6
      · cases ht
        exact csL_43 hl hC hSC hL9 ⟨hi, h5⟩ hI hn9 hu9 (hg1 h5) x5 x6
      · cases ht
        exact csL_44 hl hC hSC hL9 ⟨hi, h5⟩ hI hn9 hu9 (hg1 h5) x5 x6
      · cases ht
        exact csL_45 hl hC hSC hL9 ⟨hi, h5⟩ hI hn9 hu9 (hg1 h5) x5 x6
      · cases ht
        exact csL_46 hl hC hSC hL9 ⟨hi, h5⟩ hI hn9 hu9 (hg1 h5) x5 x6
      · cases ht
        exact csL_47 hl hC hSC hL9 ⟨hi, h5⟩ hI hn9 hu9 (hg1 h5) x5 x6
    have hq := fun h5 v => hC kdLc_g [] kkLc_g trivial 42 .iand 0 [] [some (mm_X b), some (mm_R 1), some (mm_R 17), some (mm_R 23), some (mm_I i), x5, x6] [mm_I 63, mm_I v] M [] u (Z 43) Z rfl (k43 h5 _ (and63 v)) (fun _ _ _ _ _ h => h) (fun _ _ _ _ _ _ h => h)
    clear ih hg k43 h35
    refine mm_wpZ_at (stop := [42, 2012]) (ct := []) hC kkLc_g trivial 40 ?_
    repeat' (first | with_reducible assumption | with_reducible exact mm_i1 | with_reducible exact mm_i17 | with_reducible exact mm_i23 | ((with_reducible show mm_rv _ _ _ _ _); first | exact True.intro | exact mm_i1 | exact mm_i17 | exact mm_i23 | refine mm_sc hSC ?_ | ((with_reducible show InI _); exact hxI _)) | refine mm_sc hSC ?_ | ((with_reducible show InI _); exact hxI _) | ((with_reducible show mm_bool _ _); first | exact True.intro | exact Or.inl rfl | exact Or.inr rfl | (show (_ : Int) = 0 ∨ _ = 1)) | refine And.intro ?_ ?_ | intro _ | with_reducible exact True.intro | exact rfl | with_reducible exact Or.inl rfl | with_reducible exact Or.inr rfl | exact Nat.le_of_ble_eq_true rfl)
    all_goals (try simp (disch := omega) only [InI, Int.toNat_natCast, Int.tmod_eq_emod_of_nonneg, Int.tdiv_eq_ediv_of_nonneg, true_implies, true_or, or_true, mm_l18, mm_l19, mm_l20, mm_l21, mm_l22] at *)
    all_goals first | omega | exact hE _ _ _ (by omega) rfl ⟨_, hI⟩ | exact hq (by omega) _ | skip
end
section
/-! THE CLAIM OUT OF ONE WALK OF THE LAW'S BODY. Your part is whole_start (and what it stands on); all else here is the same for every law, but numbers. -/
def R_law : String := "AllstreetsLaw"
def lw_P (b : Addr) (xs : List Int32) (args : Array Value) (s : State) : Prop := args = #[.ref b] ∧ s.IntsAt b xs ∧ xs.length ≤ 320 ∧ (Jvm.Cond.and given_1 narrow_1).before args s = true
def lw_Q (_ : Array Value) (s : State) (o : Outcome) (t : State) : Prop := o = .returned (some (.int 1)) ∧ Framed s o t [] 600128 7301098
def lw_Z (below : List Frame) (a : Array Value) (s : State) : State → Prop := fun t => ∃ o, t.status = .running ∧ Ended t below o ∧ lw_Q a s o t
/-- the law's own end, with 1 on the stack, nothing written that was there before, its room as the claim has it -/
theorem lw_ret {p : Program} {l : Launch} {e : Env} {s : State} {m : MethodId} {below : List Frame} {meth : Method} {c : Code} {b : Nat} (hx : p.tables.exec = Jvm.exec) (hb : c.code = code) (hr : meth.sig.returnType = ret) (hlocks : meth.locks = false) {pc : Nat} {H : Heap} {ls : Array Slot} (hdg : decode code pc = .ok (.ireturn, 1)) : W p l e room_1 s m #[Value.ref b] below meth c H [] 600128 7301098 (lw_Z below #[Value.ref b] s) (F0 m pc ls [.int 1]) := by
  intro T hT X
  obtain ⟨fs, hret, hrun, hended, hW, hframe⟩ := X.leave (v := some (.int 1)) (hlocks := hlocks) (fun h => by rw [hr] at h; cases h)
  have hmeth' : T.vm.method? m = some meth := X.method'
  refine ⟨T.setFrames fs, ?_, .returned (some (.int 1)), hrun, hended, rfl, ⟨_, rfl⟩, hW, hframe⟩
  jvm_step X.here [X.here.top, hx, hb, hdg, hmeth', hr, ret, narrow_b1]
  (try refine ⟨rfl, ?_⟩); (try refine ⟨rfl, ?_⟩)
  first | (intro acts; rw [hret _ acts rfl rfl rfl]) | rw [hret _ _ rfl rfl rfl]
  exact Steps.refl _
/-- what holds at the law's entry: the machine, the code, the tables' words (any of lw_tbl by 'hts w (by decide +kernel)'), the script of L ints xs at the cell b, what the Statement gives of the start (any of its parts by flat_of_before) -/
def lw_At (p : Program) (s : State) (m : MethodId) (meth : Method) (c : Code) (b L : Nat) (xs : Nat → Int32) : Prop :=
  p.tables.exec = Jvm.exec ∧ c.code = code ∧ meth.sig.returnType = ret ∧ c.maxLocals = 7 ∧ s.vm.findClass R_law = some m.cls ∧ (∀ w ∈ lw_tbl, w.before #[Value.ref b] s = true) ∧ va_X b L xs s s.heap ∧ b < s.heap.size ∧ meth.locks = false ∧ (Jvm.Cond.and given_1 narrow_1).before #[Value.ref b] s = true
end
section
/-! the law's own frame: its steps, its switch, its end -/
section MC
variable {p : Program} {l : Launch} {e : Env} {R : Room} {s : State} {m : MethodId} {args : Array Value} {below : List Frame} {meth : Method} {c : Code} {Qm : State → Prop}
variable {cc : ByteArray} {own : String} {nL : Nat} {Ts : List Jvm.Cond} {D : va_G} {E : mm_En} {Ad : Nat → Nat} {A : Nat → Prop}
variable {C : Nat → Option mm_Ca} {rt mu : Nat} {hn : Nat → Nat → Option Nat} {Qr : mm_Q}
theorem mz_callR (X : mm_Cx p s m args c cc own nL Ts D E A) (hG : mm_G A D E Ad s) (hR : mu ≤ R.cells ∧ 12 * mu ≤ R.slots) (hPE : ∀ idx ca, C idx = some ca → mm_PE l own Ts R idx ca) (hT : mm_hT p l e R s m args below meth c Qm nL D E Ad A mu hn Qr)
    (how idx pc : Nat) (ls : mm_Ls) (st : List mm_V) (M : mm_M) (d : List Nat) (u : Nat) (Kn : mm_K) (Kj : Nat → mm_K) (hd : decode cc pc = .ok (mm_iv how idx, 3)) (h : mm_call C mu hn Qr how idx pc ls st M d u Kn Kj)
    (kn : ∀ ls st M d u, Kn ls st M d u → mm_Z p l e R s m args below meth c Qm nL D E Ad A (pc + 3) ls st M d u) (kj : ∀ t ls st M d u, Kj t ls st M d u → mm_Z p l e R s m args below meth c Qm nL D E Ad A t ls st M d u) : mm_Z p l e R s m args below meth c Qm nL D E Ad A pc ls st M d u := by
  unfold mm_call at h
  split at h
  · rename_i h' n rc sp mu' hc
    obtain ⟨rfl, hn', hrv, hcat, hu, hsp⟩ := h
    rcases hPE idx _ hc with ⟨rfl, hsem⟩ | ⟨y, b, maxL, ret, hh, fr, lo, T, N, hM, hcode, hini, hnmh, hfr, hlo, hlink, hTs, hkind⟩
    · exact hsem X hG hR (Nat.le_refl _) (Nat.le_refl _) pc ls st M d u (Kn) (fun k M' d' => match hn pc k with
        | none => Qr (.inr k) M' d'
        | some hpc => ∀ q : Nat, Kj hpc ls [mm_X q] M' d' (u + mu')) hd hn' hrv hcat hu hsp kn
    dsimp only at hM hkind
    intro H locs L hL hP hD hS
    have hS' : CallFix p m c cc nL s args Ts own := ⟨X.1, X.2.1, X.2.2.1, X.2.2.2.1, X.2.2.2.2.1⟩
    have hMy := hM D E Ad H.size _ M d _ hsp
    have hws := pay_in X.2.2.2.2.1 (mm_goodIn hcode hTs)
    have hA := X.2.2.2.2.2.2.1
    have hroom : u + mu' ≤ R.cells ∧ 12 * u + 12 * mu' ≤ R.slots := ⟨Nat.le_trans hu hR.1, Nat.le_trans (by omega) hR.2⟩
    have hcat' : 2 * (F0 m pc L (st.map (mm_cc Ad))).monitorRoom + (((st.drop n).map (mm_cc Ad)).map fun v => v.category).sum ≤ 8 := lv_room (by rw [mm_catsum]; exact hcat)
    rcases hkind with ⟨rfl, rfl, hins, hsel, h10, hcl, hpar⟩ | ⟨rfl, hst, hpar⟩
    · have hn1 : 1 ≤ n := by
        cases hz : parseMethodDescriptor y.desc with
        | none => rw [hz] at hpar; simp at hpar
        | some z => rw [hz] at hpar; simp at hpar; omega
      obtain ⟨rc', rfl⟩ : ∃ k, rc = k + 1 := ⟨rc - 1, by omega⟩
      rw [mm_rv_old (by omega)] at hrv
      split at hrv
      · rename_i o ho
        obtain ⟨ini, hst, htk, hil⟩ := mm_split st n hn1 ho
        have hargs : (st.take n).reverse = mm_R o :: ini.reverse := by rw [htk]; simp
        rw [hargs] at hMy
        obtain ⟨q0, hq, hw⟩ := mm_idx (E := E) (Ad := Ad) (M := M) hrv.2
        rw [mm_el_obj hrv.1 h10] at hw
        have hne := mm_is0 hrv
        rw [List.map_cons, mm_ref hne] at hMy
        have hlen : ∀ sig, parseMethodDescriptor y.desc = some sig → n - 1 = sig.parameters.length := by
          intro sig hsig
          rw [hsig] at hpar
          simp at hpar
          omega
        have hstack : st.map (mm_cc Ad) = ((ini.reverse).map (mm_cc Ad)).reverse ++ .ref (mm_ad Ad o) :: (st.drop n).map (mm_cc Ad) := by
          conv => lhs; rw [hst]
          rw [List.map_append, List.map_cons, mm_ref hne, List.map_reverse, List.reverse_reverse]
        have hpre : PreV s H y.cls (mm_ad Ad o) (va_Pc (.ref (mm_ad Ad o) :: (ini.reverse).map (mm_cc Ad)) (mm_B D E Ad H.size M d)) ((ini.reverse).map (mm_cc Ad)) := ⟨mm_blind, va_recv X.2.2.2.2.2.1 hP hcl hw, mm_preB hG hP hD hS hA⟩
        rcases hlink with hlink | ⟨-, host, hlink⟩
        · have cw : CallW R s args own y.cls idx y b maxL ret (mm_cw y b maxL ret [] :: mm_T) (mm_rm fr lo mu') mu' (12 * mu') (n - 1) :=
            ⟨⟨rfl, rfl, hfr, hlo, hws, List.mem_cons_self, X.2.2.2.2.1 _ (hTs _ hcode), X.2.2.2.2.1 _ hini, hnmh, hlen, X.2.2.2.2.1 _ hlink⟩, X.2.2.2.2.1 _ hins, X.2.2.2.2.1 _ hsel⟩
          exact mm_after hL hD hS hA hu hT (vx_runV hS' hMy cw hpre rfl (by simp; omega) hL.1 hstack hcat' hd hroom) (fun o M' d' hq => hq) kn kj
        · have cw : va_CN R s args own idx y host b maxL ret (mm_cw y b maxL ret [] :: mm_T) (mm_rm fr lo mu') mu' (12 * mu') (n - 1) ∧ (Jvm.Cond.instanceMethod y).before args s = true ∧ (Jvm.Cond.selects y.cls y y).before args s = true :=
            ⟨⟨⟨rfl, rfl, hfr, hlo, hws, List.mem_cons_self⟩, X.2.2.2.2.1 _ (hTs _ hcode), X.2.2.2.2.1 _ hini, hnmh, hlen, X.2.2.2.2.1 _ hlink⟩, X.2.2.2.2.1 _ hins, X.2.2.2.2.1 _ hsel⟩
          exact mm_after hL hD hS hA hu hT (vx_runVN hS' hMy cw hpre rfl (by simp; omega) hL.1 hstack hcat' hd hroom) (fun o M' d' hq => hq) kn kj
      · exact hrv.elim
    · have hlen : ∀ sig, parseMethodDescriptor y.desc = some sig → n = sig.parameters.length := by
        intro sig hsig
        rw [hsig] at hpar
        simp at hpar
        omega
      have hlenA : ((st.take n).reverse.map (mm_cc Ad)).length = n := by simp; omega
      have hstack : st.map (mm_cc Ad) = ((st.take n).reverse.map (mm_cc Ad)).reverse ++ (st.drop n).map (mm_cc Ad) := by
        rw [← List.map_reverse, List.reverse_reverse, ← List.map_append, List.take_append_drop]
      have hpre : PreS s H (va_Pc ((st.take n).reverse.map (mm_cc Ad)) (mm_B D E Ad H.size M d)) ((st.take n).reverse.map (mm_cc Ad)) := ⟨mm_blind, mm_preB hG hP hD hS hA⟩
      by_cases hhe : hh = []
      · subst hhe
        rcases hlink with hlink | ⟨-, host, hlink⟩
        · have cw : CallB R s args own idx y b maxL ret (mm_cw y b maxL ret [] :: mm_T) (mm_rm fr lo mu') mu' (12 * mu') n ∧ (Jvm.Cond.static y).before args s = true :=
            ⟨⟨rfl, rfl, hfr, hlo, hws, List.mem_cons_self, X.2.2.2.2.1 _ (hTs _ hcode), X.2.2.2.2.1 _ hini, hnmh, hlen, X.2.2.2.2.1 _ hlink⟩, X.2.2.2.2.1 _ hst⟩
          exact mm_after hL hD hS hA hu hT (vx_runS hS' hMy cw hpre rfl hlenA hL.1 hstack hcat' hd hroom) (fun o M' d' hq => hq) kn kj
        · have cw : va_CN R s args own idx y host b maxL ret (mm_cw y b maxL ret [] :: mm_T) (mm_rm fr lo mu') mu' (12 * mu') n ∧ (Jvm.Cond.static y).before args s = true ∧ True :=
            ⟨⟨⟨rfl, rfl, hfr, hlo, hws, List.mem_cons_self⟩, X.2.2.2.2.1 _ (hTs _ hcode), X.2.2.2.2.1 _ hini, hnmh, hlen, X.2.2.2.2.1 _ hlink⟩, X.2.2.2.2.1 _ hst, trivial⟩
          exact mm_after hL hD hS hA hu hT (vx_runSN hS' hMy cw hpre rfl hlenA hL.1 hstack hcat' hd hroom) (fun o M' d' hq => hq) kn kj
      · obtain ⟨h1, hr, rfl⟩ : ∃ h1 hr, hh = h1 :: hr := by
          cases hh with
          | nil => exact absurd rfl hhe
          | cons a b => exact ⟨a, b, rfl⟩
        rcases hlink with hlink | ⟨z, -⟩
        · have cw : vx_CSW R s args own idx y b maxL ret (h1 :: hr) (mm_cw y b maxL ret (h1 :: hr) :: mm_T) (mm_rm fr lo mu') mu' (12 * mu') n :=
            ⟨⟨rfl, rfl, hfr, hlo, hws, List.mem_cons_self⟩, X.2.2.2.2.1 _ (hTs _ hcode), X.2.2.2.2.1 _ hini, hnmh, hlen, X.2.2.2.2.1 _ hlink, X.2.2.2.2.1 _ hst⟩
          exact mm_after hL hD hS hA hu hT (vx_runSX hS' hMy cw hpre rfl hlenA hL.1 hstack hcat' hd hroom) (fun o M' d' hq => hq) kn kj
        · cases z
  · exact h.elim
end MC
theorem mm_PE_room {l : Launch} {idx : Nat} {ca : mm_Ca} (h : mm_PE l RL mm_U (mm_rm 2048 84000 0) idx ca) : mm_PE l RL mm_U room_1 idx ca := h
def mm_AL (s : State) : Nat → Prop := fun q => s.heap.size ≤ q
section LW
variable {p : Program} {l : Launch} {e : Env} {s : State} {m : MethodId} {below : List Frame} {meth : Method} {c : Code} {D : va_G} {E : mm_En} {Ad : Nat → Nat} {b : Nat}
abbrev mm_ZL (p : Program) (l : Launch) (e : Env) (s : State) (m : MethodId) (below : List Frame) (meth : Method) (c : Code) (D : va_G) (E : mm_En) (Ad : Nat → Nat) (b : Nat) : Nat → mm_K := mm_Z p l e room_1 s m #[Value.ref b] below meth c (lw_Z below #[Value.ref b] s) 7 D E Ad (mm_AL s)
theorem mm_CZ_law {SC : Nat → Option (Nat × (Nat → Int32))} (X : mm_Cx p s m #[Value.ref b] c code RL 7 mm_U D E (mm_AL s)) (hG : mm_G (mm_AL s) D E Ad s) (hSX : mm_SX s (mm_AL s) SC) : mm_CZ l SC 600000 (mm_ZL p l e s m below meth c D E Ad b) := by
  intro cd ct hk hPE pc i t rest ls st M d u Kn Kj hat hop kn kj
  obtain ⟨pre, hpre⟩ := mm_at_suf pc cd
  have hk' : mm_chk code ((pc, i, t) :: rest) = true := by
    rw [hpre, hat] at hk
    exact mm_chk_app pre _ hk
  refine mm_sound X (F := mm_look flL) (C := mm_look ct) (X0 := mm_x0) (LC := mm_look ([] : List (Nat × Int))) (SC := SC) (rt := 0) (mu := 600000) (hn := fun _ _ => none) (Qr := mm_QF) ⟨fun k rc n e => Or.inl ⟨flL90 _ (mm_look_mem flL e), flkL (k, rc, n) (mm_look_mem flL e)⟩, fun k x e => nomatch e⟩ hSX ⟨hG.2.2.2.2.2.2.2, hG.2.2.2.2.1 _ (by simp [mm_nw]), ⟨⟨Nat.le_of_ble_eq_true rfl, Nat.le_of_ble_eq_true rfl⟩, Nat.le_of_ble_eq_true rfl, Nat.le_of_ble_eq_true rfl⟩, mm_T_U _ mm_T_ab, fun k rc e => absurd (flL90 _ (mm_look_mem flL e)) (by simp)⟩ ?_ ?_ ?_ hk' hop kn kj
  · refine mz_callR X hG ⟨Nat.le_of_ble_eq_true rfl, Nat.le_of_ble_eq_true rfl⟩ (fun idx ca e => mm_PE_room (mm_PEs_look ct hPE e)) ?_
    intro k pc ls M d u H locs L rest q ce h1 _ _ _ _ _ _ _ _ _
    exact (h1 rfl).elim
  · intro idx pc rest ls st M d u _ _ _ h9
    exfalso
    revert h9
    unfold mm_thr
    split
    · exact fun h => h
    · exact fun h => h
  · intro i pc ls st M d u _ h9
    exfalso
    revert h9
    unfold mm_ret
    split
    · exact fun h => h.2.2
    · exact fun h => h
end LW
end
section
/-! the law's switch and its end; the loop on the machine -/
def offsL : Array Int := #[205, 245, 285, 325, 353, 366, 407, 420, 433, 489, 529, 542, 555, 568, 596, 624, 664, 732, 788, 844, 900, 952, 992, 1056, 1084, 1124, 1192, 1248, 1288, 1316, 1356, 1396, 1436, 1492, 1532, 1572, 1612, 1664, 1704, 1745, 1773, 1801, 1814, 1855, 1896, 1924, 1937, 1950]
theorem dsw : decode code 43 = .ok (.tableswitch 1963 0 47 offsL, 205) := by decide +kernel
theorem dend : decode code 2012 = .ok (.iconst 1, 1) ∧ decode code 2013 = .ok (.ireturn, 1) := by decide +kernel
theorem swT : ∀ k, k < 48 → offsL[k]? = some (offsL.getD k 0) ∧ startsL[k]? = some (startsL.getD k 0) ∧ (43 : Int) + offsL.getD k 0 = ((startsL.getD k 0 : Nat) : Int) := by decide +kernel
section LW2
variable {p : Program} {l : Launch} {e : Env} {s : State} {m : MethodId} {below : List Frame} {meth : Method} {c : Code} {D : va_G} {E : mm_En} {Ad : Nat → Nat} {b : Nat}
theorem zl_switch (X : mm_Cx p s m #[Value.ref b] c code RL 7 mm_U D E (mm_AL s)) : ∀ (a : Int) ls M u, (0 ≤ a ∧ a ≤ 63) → (∀ k, a = (k : Nat) → ∀ t, startsL[k]? = some t → mm_ZL p l e s m below meth c D E Ad b t ls [] M [] u) → (47 < a → mm_ZL p l e s m below meth c D E Ad b 2006 ls [] M [] u) → mm_ZL p l e s m below meth c D E Ad b 43 ls [mm_I a] M [] u := by
  intro a ls M u ha h1 h2 H locs L hL hP hD hS
  have e1 := mm_toInt (x := a) ⟨by omega, by omega⟩
  show W p l e room_1 s m #[Value.ref b] below meth c H locs u (12 * u) _ (F0 m 43 L [.int (Int32.ofInt a)])
  by_cases h : 47 < a
  · exact lv_tableOut (tgt := 2006) X.1 X.2.1 dsw (Or.inr (by rw [e1]; exact h)) rfl (h2 h H locs L hL hP hD hS)
  · obtain ⟨k, rfl⟩ := Int.eq_ofNat_of_zero_le ha.1
    obtain ⟨o1, o2, o3⟩ := swT k (by omega)
    refine lv_tableIn (off := offsL.getD k 0) (tgt := startsL.getD k 0) X.1 X.2.1 dsw (by rw [e1]; omega) (by rw [e1]; omega) ?_ o3 (h1 k rfl _ o2 H locs L hL hP hD hS)
    rw [e1, show ((k : Int) - 0).toNat = k by omega]
    exact o1
theorem zl_end (X : mm_Cx p s m #[Value.ref b] c code RL 7 mm_U D E (mm_AL s)) (hr : meth.sig.returnType = ret) (hlocks : meth.locks = false) : ∀ ls M u, u ≤ 600000 → ls.length = 7 → (∃ n, LI n M) → mm_ZL p l e s m below meth c D E Ad b 2012 ls [] M [] u := by
  intro ls M u hu _ _ H locs L hL hP hD hS
  show W p l e room_1 s m #[Value.ref b] below meth c H locs u (12 * u) _ (F0 m 2012 L [])
  refine lv_iconst (v := 1) X.1 X.2.1 dend.1 (by decide) ?_
  refine va_forget (fun q hq => hS.2.2 q hq) ?_
  refine W.widen (k := 600128) (n := 7301098) (by omega) (by omega) ?_
  exact lw_ret X.1 X.2.1 hr hlocks dend.2
/-- the loop, on the machine: text's case is owed -/
theorem zl_loop {SC : Nat → Option (Nat × (Nat → Int32))} (hl : l.stackTraces = false) (X : mm_Cx p s m #[Value.ref b] c code RL 7 mm_U D E (mm_AL s)) (hG : mm_G (mm_AL s) D E Ad s) (hSX : mm_SX s (mm_AL s) SC) (hr : meth.sig.returnType = ret) (hlocks : meth.locks = false) {L : Nat} {xs : Nat → Int32} (hSC : SC b = some (L, xs)) (hL : L ≤ 320)
    (h35 : ∀ n u i M, (0 ≤ i ∧ i + 5 ≤ (L : Int)) → LI n M → n ≤ 1000 → u + 3000 ≤ 600000 → (∀ M' x5 x6 u', LI (n + 1) M' → u' ≤ u + 3000 → mm_ZL p l e s m below meth c D E Ad b 2006 [some (mm_X b), some (mm_R 1), some (mm_R 17), some (mm_R 23), some (mm_I i), x5, x6] [] M' [] u') → ∀ x5 x6, mm_ZL p l e s m below meth c D E Ad b 1615 [some (mm_X b), some (mm_R 1), some (mm_R 17), some (mm_R 23), some (mm_I i), x5, x6] [] M [] u)
    {M : mm_M} {u : Nat} (hI : LI 0 M) (hu : u ≤ 1000) : mm_ZL p l e s m below meth c D E Ad b 27 [some (mm_X b), some (mm_R 1), some (mm_R 17), some (mm_R 23), some (mm_I 0), none, none] [] M [] u :=
  loopL hl (mm_CZ_law X hG hSX) hSC hL (by decide) (zl_switch X) (zl_end X hr hlocks) h35 65 0 u 0 M none none (by omega) (by decide) (by decide) hI (by decide) (by omega)
end LW2
end
section
/-! the constructors, natively -/
def iX1 (a b c d : Option Nat) : List Value := [va_rf a, va_rf b, va_rf c, va_rf d, .int 0, .int 0, .int 0, .int 0]
def row0 (cI : ClassId) (n : Nat) : va_E := .inl (cI, n, .inl (fun _ => 0))
def oX1 (cI : ClassId) (h a b c d : Nat) : va_W := [(h, .inr (1, iX1 (some a) (some b) (some c) (some d))), (a, row0 cI 30), (b, row0 cI 30), (c, row0 cI 10), (d, row0 cI 10)]
theorem dX1_init : decode cX1_init 0 = .ok (.aload_n 0, 1) ∧ decode cX1_init 1 = .ok (.invokespecial 3, 3) ∧ decode cX1_init 4 = .ok (.aload_n 0, 1) ∧ decode cX1_init 5 = .ok (.bipush 30, 2) ∧ decode cX1_init 7 = .ok (.newarray .int, 2) ∧ decode cX1_init 9 = .ok (.putfield 9, 3) ∧ decode cX1_init 12 = .ok (.aload_n 0, 1) ∧ decode cX1_init 13 = .ok (.bipush 30, 2) ∧ decode cX1_init 15 = .ok (.newarray .int, 2) ∧ decode cX1_init 17 = .ok (.putfield 15, 3) ∧ decode cX1_init 20 = .ok (.aload_n 0, 1) ∧ decode cX1_init 21 = .ok (.bipush 10, 2) ∧ decode cX1_init 23 = .ok (.newarray .int, 2) ∧ decode cX1_init 25 = .ok (.putfield 18, 3) ∧ decode cX1_init 28 = .ok (.aload_n 0, 1) ∧ decode cX1_init 29 = .ok (.bipush 10, 2) ∧ decode cX1_init 31 = .ok (.newarray .int, 2) ∧ decode cX1_init 33 = .ok (.putfield 21, 3) ∧ decode cX1_init 36 = .ok (.return_, 1) := by (repeat' apply And.intro) <;> decide +kernel
set_option maxHeartbeats 4000000 in
set_option maxRecDepth 100000 in
theorem c_X1_init (l : Launch) (D : va_G) (h0 sz : Nat) (cI : ClassId) : Met l yX1_init (.code yX1_init cX1_init 1 none :: mm_T) ({ frames := 1, cells := 4, slots := 80, locals := 12 }) (va_Pc [.ref h0] (fun U => U.heap.size = sz ∧ va_P D mm_cl [(h0, .inr (1, iX1 none none none none))] U.heap ∧ va_K D mm_cl [(cI, .int)] U ∧ va_D (fun _ => True) [(h0, .inr (1, iX1 none none none none))])) (va_Qv (fun _ : Nat × Nat × Nat × Nat => True) (fun u U => va_P D mm_cl (oX1 cI h0 u.1 u.2.1 u.2.2.1 u.2.2.2) U.heap ∧ va_K D mm_cl [(cI, .int)] U ∧ va_D (va_A [(h0, .inr (1, iX1 none none none none))] sz) (oX1 cI h0 u.1 u.2.1 u.2.2.1 u.2.2.2)) (va_A [(h0, .inr (1, iX1 none none none none))] sz)) 4 80 (va_A [(h0, .inr (1, iX1 none none none none))] sz) := by
  refine Met.ofW (cc := cX1_init) (maxL := 1) (ret := none) (by decide) rfl ?_
  intro p e s m args below meth c s₁ B hml hv
  obtain ⟨rfl, hsz, hP, hK, hD0⟩ := hv
  have hx := B.exec
  have hb := B.bytes
  have hr := B.returns
  have hts := atoms_spec (ws := .code yX1_init cX1_init 1 none :: mm_T) B.pre
  have htT : ∀ w ∈ mm_T, w.before #[Value.ref h0] s = true := fun w hw => hts w (List.mem_cons_of_mem _ hw)
  have hin9 : ∀ w ∈ u_ws RX1 TX1 8, w ∈ (.code yX1_init cX1_init 1 none :: mm_T : List Jvm.Cond) := fun w hw => List.mem_cons_of_mem _ (mm_T_cls (RX1, TX1, 8) (List.mem_of_getElem? (i := 1) rfl) w hw)
  have hown : s.vm.findClass RX1 = some m.cls := findClass_of_methodNamed B.named
  have hlocks := B.notSynchronized
  have hin : meth.name = "<init>" := (name_of_methodNamed B.named B.method).1
  subst hsz
  have hD := hD0.self (sz := s.heap.size)
  generalize hAe : va_A [(h0, .inr (1, iX1 none none none none))] s.heap.size = A at hD ⊢
  have hA : ∀ q : Nat, s.heap.size ≤ q → A q := fun q h => by rw [← hAe]; exact Or.inr h
  have hS : va_S A s.heap s.heap [] := va_S.rf
  have hl := lv_entry ([.ref h0]) (n := 1) (Nat.le_of_ble_eq_true rfl)
  rw [lg_entry_eq]
  generalize (lg_sl ([.ref h0]) ++ List.replicate (1 - (lg_sl ([.ref h0])).length) Slot.unset).toArray = ls at hl ⊢
  have hl : lv_has ls 1 [(0, .ref h0)] := hl
  obtain ⟨d0, d1, d4, d5, d7, d9, d12, d13, d15, d17, d20, d21, d23, d25, d28, d29, d31, d33, d36⟩ := dX1_init
  have un : ∀ cA, va_K D mm_cl ([(cI, .int)] ++ [(cA, .int)]) s → cA = cI := fun cA h => Option.some.inj (((h.2 1 _ rfl).2 : s.vm.findClass _ = some cA).symm.trans ((h.2 0 _ rfl).2 : s.vm.findClass _ = some cI))
  refine lv_aload_n hx hb d0 rfl (lv_at hl 0 rfl) ?_
  refine W.objInit hx hb hown (htT _ (mm_t1 36 rfl rfl)) (htT _ (mm_t1 29 rfl rfl)) (htT _ (mm_t1 30 rfl rfl)) rfl (by rw [hml]; exact hl.1) rfl d1 (Nat.le_of_ble_eq_true rfl) (Nat.le_of_ble_eq_true rfl) ?_
  refine W.eq (g2 := F0 m 4 ls []) rfl ?_
  refine lv_aload_n hx hb d4 rfl (lv_at hl 0 rfl) ?_
  refine lv_bipush (v := 30) hx hb d5 rfl ?_
  refine va_newa (atype := .int) (ty := .int) (a0 := (30, .inl (fun _ => 0))) hx hb (htT _ (mm_t1 62 rfl rfl)) rfl hK hP hD hS hA (fun _ => rfl) (by decide) rfl (Nat.le_of_ble_eq_true rfl) (Nat.le_of_ble_eq_true rfl) (Nat.le_of_ble_eq_true rfl) d7 (fun a0 cA H hK hP hD hS => ?_)
  have ecA := un cA hK
  rw [ecA] at hK hP hD
  have hK : va_K D mm_cl [(cI, .int)] s := hK.sub (tys' := [(cI, .int)]) [0] rfl
  have hP : va_P D mm_cl [(h0, .inr (1, iX1 none none none none)), (a0, row0 cI 30)] H := hP
  have hD : va_D A [(h0, .inr (1, iX1 none none none none)), (a0, row0 cI 30)] := hD
  refine va_putF (D := D) (ci := 1) (v := .ref a0) (ty := .array .int) (C := RX1) (T := TX1) (N := 8) hx hb hts hin9 tyX1 tyX1_ok nmX1 hown hK hP hD hS 0 rfl rfl 0 (by decide) (htT _ (mm_t1 37 rfl rfl)) (fun _ h9 => h9) rfl hin rfl (by decide +kernel) rfl rfl (Nat.le_of_ble_eq_true rfl) d9 (fun H locs hP hD hS => ?_)
  have hP : va_P D mm_cl [(h0, .inr (1, iX1 (some a0) none none none)), (a0, row0 cI 30)] H := hP
  have hD : va_D A [(h0, .inr (1, iX1 (some a0) none none none)), (a0, row0 cI 30)] := hD
  refine lv_aload_n hx hb d12 rfl (lv_at hl 0 rfl) ?_
  refine lv_bipush (v := 30) hx hb d13 rfl ?_
  refine va_newa (atype := .int) (ty := .int) (a0 := (30, .inl (fun _ => 0))) hx hb (htT _ (mm_t1 62 rfl rfl)) rfl hK hP hD hS hA (fun _ => rfl) (by decide) rfl (Nat.le_of_ble_eq_true rfl) (Nat.le_of_ble_eq_true rfl) (Nat.le_of_ble_eq_true rfl) d15 (fun a1 cA H hK hP hD hS => ?_)
  have ecA := un cA hK
  rw [ecA] at hK hP hD
  have hK : va_K D mm_cl [(cI, .int)] s := hK.sub (tys' := [(cI, .int)]) [0] rfl
  have hP : va_P D mm_cl [(h0, .inr (1, iX1 (some a0) none none none)), (a0, row0 cI 30), (a1, row0 cI 30)] H := hP
  have hD : va_D A [(h0, .inr (1, iX1 (some a0) none none none)), (a0, row0 cI 30), (a1, row0 cI 30)] := hD
  refine va_putF (D := D) (ci := 1) (v := .ref a1) (ty := .array .int) (C := RX1) (T := TX1) (N := 8) hx hb hts hin9 tyX1 tyX1_ok nmX1 hown hK hP hD hS 0 rfl rfl 1 (by decide) (htT _ (mm_t1 38 rfl rfl)) (fun _ h9 => h9) rfl hin rfl (by decide +kernel) rfl rfl (Nat.le_of_ble_eq_true rfl) d17 (fun H locs hP hD hS => ?_)
  have hP : va_P D mm_cl [(h0, .inr (1, iX1 (some a0) (some a1) none none)), (a0, row0 cI 30), (a1, row0 cI 30)] H := hP
  have hD : va_D A [(h0, .inr (1, iX1 (some a0) (some a1) none none)), (a0, row0 cI 30), (a1, row0 cI 30)] := hD
  refine lv_aload_n hx hb d20 rfl (lv_at hl 0 rfl) ?_
  refine lv_bipush (v := 10) hx hb d21 rfl ?_
  refine va_newa (atype := .int) (ty := .int) (a0 := (10, .inl (fun _ => 0))) hx hb (htT _ (mm_t1 62 rfl rfl)) rfl hK hP hD hS hA (fun _ => rfl) (by decide) rfl (Nat.le_of_ble_eq_true rfl) (Nat.le_of_ble_eq_true rfl) (Nat.le_of_ble_eq_true rfl) d23 (fun a2 cA H hK hP hD hS => ?_)
  have ecA := un cA hK
  rw [ecA] at hK hP hD
  have hK : va_K D mm_cl [(cI, .int)] s := hK.sub (tys' := [(cI, .int)]) [0] rfl
  have hP : va_P D mm_cl [(h0, .inr (1, iX1 (some a0) (some a1) none none)), (a0, row0 cI 30), (a1, row0 cI 30), (a2, row0 cI 10)] H := hP
  have hD : va_D A [(h0, .inr (1, iX1 (some a0) (some a1) none none)), (a0, row0 cI 30), (a1, row0 cI 30), (a2, row0 cI 10)] := hD
  refine va_putF (D := D) (ci := 1) (v := .ref a2) (ty := .array .int) (C := RX1) (T := TX1) (N := 8) hx hb hts hin9 tyX1 tyX1_ok nmX1 hown hK hP hD hS 0 rfl rfl 2 (by decide) (htT _ (mm_t1 39 rfl rfl)) (fun _ h9 => h9) rfl hin rfl (by decide +kernel) rfl rfl (Nat.le_of_ble_eq_true rfl) d25 (fun H locs hP hD hS => ?_)
  have hP : va_P D mm_cl [(h0, .inr (1, iX1 (some a0) (some a1) (some a2) none)), (a0, row0 cI 30), (a1, row0 cI 30), (a2, row0 cI 10)] H := hP
  have hD : va_D A [(h0, .inr (1, iX1 (some a0) (some a1) (some a2) none)), (a0, row0 cI 30), (a1, row0 cI 30), (a2, row0 cI 10)] := hD
  refine lv_aload_n hx hb d28 rfl (lv_at hl 0 rfl) ?_
  refine lv_bipush (v := 10) hx hb d29 rfl ?_
  refine va_newa (atype := .int) (ty := .int) (a0 := (10, .inl (fun _ => 0))) hx hb (htT _ (mm_t1 62 rfl rfl)) rfl hK hP hD hS hA (fun _ => rfl) (by decide) rfl (Nat.le_of_ble_eq_true rfl) (Nat.le_of_ble_eq_true rfl) (Nat.le_of_ble_eq_true rfl) d31 (fun a3 cA H hK hP hD hS => ?_)
  have ecA := un cA hK
  rw [ecA] at hK hP hD
  have hK : va_K D mm_cl [(cI, .int)] s := hK.sub (tys' := [(cI, .int)]) [0] rfl
  have hP : va_P D mm_cl [(h0, .inr (1, iX1 (some a0) (some a1) (some a2) none)), (a0, row0 cI 30), (a1, row0 cI 30), (a2, row0 cI 10), (a3, row0 cI 10)] H := hP
  have hD : va_D A [(h0, .inr (1, iX1 (some a0) (some a1) (some a2) none)), (a0, row0 cI 30), (a1, row0 cI 30), (a2, row0 cI 10), (a3, row0 cI 10)] := hD
  refine va_putF (D := D) (ci := 1) (v := .ref a3) (ty := .array .int) (C := RX1) (T := TX1) (N := 8) hx hb hts hin9 tyX1 tyX1_ok nmX1 hown hK hP hD hS 0 rfl rfl 3 (by decide) (htT _ (mm_t1 40 rfl rfl)) (fun _ h9 => h9) rfl hin rfl (by decide +kernel) rfl rfl (Nat.le_of_ble_eq_true rfl) d33 (fun H locs hP hD hS => ?_)
  have hP : va_P D mm_cl [(h0, .inr (1, iX1 (some a0) (some a1) (some a2) (some a3))), (a0, row0 cI 30), (a1, row0 cI 30), (a2, row0 cI 10), (a3, row0 cI 10)] H := hP
  have hD : va_D A [(h0, .inr (1, iX1 (some a0) (some a1) (some a2) (some a3))), (a0, row0 cI 30), (a1, row0 cI 30), (a2, row0 cI 10), (a3, row0 cI 10)] := hD
  exact W.vret hx hb hr (fun t ht hW => ⟨⟨(a0, a1, a2, a3), rfl, trivial, by rw [ht]; exact hP, va_K.moved hW.alike hK, hD⟩, hS.F ht⟩) hS.2.2 d36
end
