/-! the law: its cases -/
/-- 35: L_text X5_text -/
def kdLc_35 : List mm_E := [(1615, .aload_n 1, 0), (1616, .aload_n 0, 0), (1617, .iload 4, 0), (1619, .iconst 1, 0), (1620, .iadd, 0), (1621, .iaload, 0), (1622, .aload_n 0, 0), (1623, .iload 4, 0), (1625, .iconst 2, 0), (1626, .iadd, 0), (1627, .iaload, 0), (1628, .aload_n 3, 0), (1629, .invokestatic 263, 0), (1632, .istore 5, 0), (1634, .aload_n 2, 0), (1635, .aload_n 0, 0), (1636, .iload 4, 0), (1638, .iconst 1, 0), (1639, .iadd, 0), (1640, .iaload, 0), (1641, .aload_n 0, 0), (1642, .iload 4, 0), (1644, .iconst 2, 0), (1645, .iadd, 0), (1646, .iaload, 0), (1647, .invokevirtual 265, 0), (1650, .astore 6, 0), (1652, .goto 354, 2006)]
theorem kkLc_35 : mm_chk code kdLc_35 = true := by decide +kernel
def ctLc_35 : List (Nat × mm_Ca) := [(263, (1, 4, 0, sp_L_text, 1215)), (265, (0, 3, 14, sp_X5_textF, 1215))]
theorem peLc_35 {l : Launch} (hl : l.stackTraces = false) : mm_PEs l RL (mm_rm 2048 84000 0) ctLc_35 := ⟨mm_pe (me_L_text hl) mwL_text (mm_t4 180 rfl rfl) (Nat.le_of_ble_eq_true rfl) (Nat.le_of_ble_eq_true rfl), mm_pe (me_X5_textF hl) mwX5_text (mm_t7 188 rfl rfl) (Nat.le_of_ble_eq_true rfl) (Nat.le_of_ble_eq_true rfl), trivial⟩
set_option maxRecDepth 20000 in
theorem csL_35 {l : Launch} {SC : Nat → Option (Nat × (Nat → Int32))} {MU : Nat} {Z : Nat → mm_K} (hl : l.stackTraces = false) (hC : mm_CZ l SC MU Z) {b L n u : Nat} {xs : Nat → Int32} {i : Int} {M : mm_M} (hSC : SC b = some (L, xs)) (hL : L < 2147483648) (hi : 0 ≤ i ∧ i + 5 ≤ L) (hI : LI n M) (hn : n ≤ 1000) (hu : u + 3000 ≤ MU) (fin : ∀ M' x5 x6 u', LI (n + 1) M' → u' ≤ u + 3000 → Z 2006 [some (mm_X b), some (mm_R 1), some (mm_R 17), some (mm_R 23), some (mm_I i), x5, x6] [] M' [] u') (x5 x6 : Option mm_V) : Z 1615 [some (mm_X b), some (mm_R 1), some (mm_R 17), some (mm_R 23), some (mm_I i), x5, x6] [] M [] u := by
  have ha := hI.1
  have hA0 := hxI (xs (i + 1).toNat)
  obtain ⟨a0, ea0⟩ : ∃ a, (xs (i + 1).toNat).toInt = a := ⟨_, rfl⟩
  rw [ea0] at hA0
  have hA1 := hxI (xs (i + 2).toNat)
  obtain ⟨a1, ea1⟩ : ∃ a, (xs (i + 2).toNat).toInt = a := ⟨_, rfl⟩
  rw [ea1] at hA1
  have k2 : ∀ M2 (e : Int) u1, (∀ o, o ≠ 23 → M2 o = M o) → u1 ≤ u + 1300 → Z 1632 [some (mm_X b), some (mm_R 1), some (mm_R 17), some (mm_R 23), some (mm_I i), x5, x6] [mm_I e] M2 [] u1 := by
    intro M2 e u1 h hu1
    have hx := hl_x hI ha.rf h
    have fin3 : ∀ M', xT M2 M' → ∀ x5 x6 u', u' ≤ u + 3000 → Z 2006 [some (mm_X b), some (mm_R 1), some (mm_R 17), some (mm_R 23), some (mm_I i), x5, x6] [] M' [] u' := fun M' h1 x5 x6 u' hu => fin M' x5 x6 u' (hI.q ha.rf h h1.1 SE.rf (SE.eq h1.2)) hu
    clear fin
    refine mm_wpZ_at (stop := [2006]) hC kkLc_35 (peLc_35 hl) 90 ?_
    repeat' (first | with_reducible assumption | with_reducible exact True.intro | with_reducible exact mm_i1 | with_reducible exact mm_i17 | with_reducible exact mm_i23 | ((with_reducible show mm_rv _ _ _ _ _); first | exact True.intro | exact mm_i1 | exact mm_i17 | exact mm_i23 | ((with_reducible show xA _); exact hx) | refine mm_sc hSC ?_ | ((with_reducible show InI _); exact hxI _)) | ((with_reducible show xA _); exact hx) | refine mm_sc hSC ?_ | ((with_reducible show InI _); exact hxI _) | ((with_reducible show mm_bool _ _); first | exact True.intro | exact Or.inl rfl | exact Or.inr rfl | (show (_ : Int) = 0 ∨ _ = 1)) | rfl | with_reducible exact Or.inl rfl | with_reducible exact Or.inr rfl | exact Nat.le_of_ble_eq_true rfl | refine And.intro ?_ ?_ | intro _)
    all_goals (try simp (disch := omega) only [ea0, ea1, InI, Int.toNat_natCast, Int.tmod_eq_emod_of_nonneg, Int.tdiv_eq_ediv_of_nonneg, true_implies, true_or, or_true, mm_l18, mm_l19, mm_l20, mm_l21, mm_l22] at *)
    all_goals first | omega | exact fin3 _ (by assumption) _ _ _ (by omega) | skip
  clear fin
  refine mm_wpZ_at (stop := [1632]) hC kkLc_35 (peLc_35 hl) 90 ?_
  repeat' (first | with_reducible assumption | with_reducible exact True.intro | with_reducible exact mm_i1 | with_reducible exact mm_i17 | with_reducible exact mm_i23 | ((with_reducible show mm_rv _ _ _ _ _); first | exact True.intro | exact mm_i1 | exact mm_i17 | exact mm_i23 | ((with_reducible show wA _); exact ha) | refine mm_sc hSC ?_ | ((with_reducible show InI _); exact hxI _)) | ((with_reducible show wA _); exact ha) | refine mm_sc hSC ?_ | ((with_reducible show InI _); exact hxI _) | ((with_reducible show mm_bool _ _); first | exact True.intro | exact Or.inl rfl | exact Or.inr rfl | (show (_ : Int) = 0 ∨ _ = 1)) | rfl | with_reducible exact Or.inl rfl | with_reducible exact Or.inr rfl | exact Nat.le_of_ble_eq_true rfl | refine And.intro ?_ ?_ | intro _)
  all_goals (try simp (disch := omega) only [ea0, ea1, InI, Int.toNat_natCast, Int.tmod_eq_emod_of_nonneg, Int.tdiv_eq_ediv_of_nonneg, true_implies, true_or, or_true, mm_l18, mm_l19, mm_l20, mm_l21, mm_l22] at *)
  all_goals first | omega | exact k2 _ _ _ (by assumption) (by omega) | skip

