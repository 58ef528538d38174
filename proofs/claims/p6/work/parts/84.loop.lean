/-! the law's loop -/
theorem and63 (v : Int) : 0 ≤ mm_and v 63 ∧ mm_and v 63 ≤ 63 := by
  have h1 : (Int32.ofInt v &&& Int32.ofInt 63).toBitVec.toNat ≤ 63 := by
    rw [Int32.toBitVec_and, BitVec.toNat_and]
    exact Nat.le_trans Nat.and_le_right (by decide)
  unfold mm_and
  have h3 : (Int32.ofInt v &&& Int32.ofInt 63).toInt = (Int32.ofInt v &&& Int32.ofInt 63).toBitVec.toInt := rfl
  rw [h3, BitVec.toInt_eq_toNat_cond]
  split <;> omega
def startsL : List Nat := [248, 288, 328, 368, 396, 409, 450, 463, 476, 532, 572, 585, 598, 611, 639, 667, 707, 775, 831, 887, 943, 995, 1035, 1099, 1127, 1167, 1235, 1291, 1331, 1359, 1399, 1439, 1479, 1535, 1575, 1615, 1655, 1707, 1747, 1788, 1816, 1844, 1857, 1898, 1939, 1967, 1980, 1993]
def kdLc_t : List mm_E := [(2006, .iinc 4 5, 0), (2009, .goto (-1982), 27)]
theorem kkLc_t : mm_chk code kdLc_t = true := by decide +kernel
def kdLc_g : List mm_E := [(27, .iload 4, 0), (29, .aload_n 0, 0), (30, .arraylength, 0), (31, .iconst 5, 0), (32, .isub, 0), (33, .if_icmp .gt 1979, 2012), (36, .aload_n 0, 0), (37, .iload 4, 0), (39, .iaload, 0), (40, .bipush 63, 0), (42, .iand, 0)]
theorem kkLc_g : mm_chk code kdLc_g = true := by decide +kernel
set_option maxRecDepth 20000 in
theorem loopL {l : Launch} {SC : Nat → Option (Nat × (Nat → Int32))} {MU : Nat} {Z : Nat → mm_K} (hl : l.stackTraces = false) (hC : mm_CZ l SC MU Z) {b L : Nat} {xs : Nat → Int32} (hSC : SC b = some (L, xs)) (hL : L ≤ 320) (hMU : 310000 ≤ MU)
    (hT : ∀ (a : Int) ls M u, (0 ≤ a ∧ a ≤ 63) → (∀ k, a = (k : Nat) → ∀ t, startsL[k]? = some t → Z t ls [] M [] u) → (47 < a → Z 2006 ls [] M [] u) → Z 43 ls [mm_I a] M [] u)
    (hE : ∀ ls M u, u ≤ MU → ls.length = 7 → (∃ n, LI n M) → Z 2012 ls [] M [] u)
    (h35 : ∀ n u i M, (0 ≤ i ∧ i + 5 ≤ (L : Int)) → LI n M → n ≤ 1000 → u + 3000 ≤ MU → (∀ M' x5 x6 u', LI (n + 1) M' → u' ≤ u + 3000 → Z 2006 [some (mm_X b), some (mm_R 1), some (mm_R 17), some (mm_R 23), some (mm_I i), x5, x6] [] M' [] u') → ∀ x5 x6, Z 1615 [some (mm_X b), some (mm_R 1), some (mm_R 17), some (mm_R 23), some (mm_I i), x5, x6] [] M [] u) :
    ∀ (j n u : Nat) (i : Int) (M : mm_M) (x5 x6 : Option mm_V), (L : Int) < i + 5 * j → 0 ≤ i → i ≤ 330 → LI n M → n + j ≤ 100 → u + 3000 * j ≤ MU → Z 27 [some (mm_X b), some (mm_R 1), some (mm_R 17), some (mm_R 23), some (mm_I i), x5, x6] [] M [] u := by
  intro j
  induction j with
  | zero =>
    intro n u i M x5 x6 hj hi hi3 hI hn hu
    refine mm_wpZ_at (stop := [2012]) (ct := []) hC kkLc_g trivial 40 ?_
    repeat' (first | with_reducible assumption | with_reducible exact True.intro | with_reducible exact mm_i1 | with_reducible exact mm_i17 | with_reducible exact mm_i23 | ((with_reducible show mm_rv _ _ _ _ _); first | exact True.intro | exact mm_i1 | exact mm_i17 | exact mm_i23 | refine mm_sc hSC ?_ | ((with_reducible show InI _); exact hxI _)) | refine mm_sc hSC ?_ | ((with_reducible show InI _); exact hxI _) | ((with_reducible show mm_bool _ _); first | exact True.intro | exact Or.inl rfl | exact Or.inr rfl | (show (_ : Int) = 0 ∨ _ = 1)) | rfl | with_reducible exact Or.inl rfl | with_reducible exact Or.inr rfl | exact Nat.le_of_ble_eq_true rfl | refine And.intro ?_ ?_ | intro _)
    all_goals (try simp (disch := omega) only [InI, Int.toNat_natCast, Int.tmod_eq_emod_of_nonneg, Int.tdiv_eq_ediv_of_nonneg, true_implies, true_or, or_true, mm_l18, mm_l19, mm_l20, mm_l21, mm_l22] at *)
    all_goals first | omega | exact hE _ _ _ (by omega) rfl ⟨_, hI⟩ | skip
  | succ j ih =>
    intro n u i M x5 x6 hj hi hi3 hI hn hu
    have hg : i + 5 ≤ L → ∀ M' x5 x6 u', LI (n + 1) M' → u' ≤ u + 3000 → Z 2006 [some (mm_X b), some (mm_R 1), some (mm_R 17), some (mm_R 23), some (mm_I i), x5, x6] [] M' [] u' := by
      intro h5 M' x5 x6 u' h1 h2
      have st := ih (n + 1) u' (i + 5) M' x5 x6 (by omega) (by omega) (by omega) h1 (by omega) (by omega)
      refine mm_wpZ_at (stop := [27]) (ct := []) hC kkLc_t trivial 40 ?_
      repeat' (first | with_reducible assumption | with_reducible exact True.intro | with_reducible exact mm_i1 | with_reducible exact mm_i17 | with_reducible exact mm_i23 | ((with_reducible show mm_rv _ _ _ _ _); first | exact True.intro | exact mm_i1 | exact mm_i17 | exact mm_i23) | ((with_reducible show mm_bool _ _); first | exact True.intro | exact Or.inl rfl | exact Or.inr rfl | (show (_ : Int) = 0 ∨ _ = 1)) | rfl | with_reducible exact Or.inl rfl | with_reducible exact Or.inr rfl | exact Nat.le_of_ble_eq_true rfl | refine And.intro ?_ ?_ | intro _)
      all_goals (try simp (disch := omega) only [InI, Int.toNat_natCast, Int.tmod_eq_emod_of_nonneg, Int.tdiv_eq_ediv_of_nonneg, true_implies, true_or, or_true, mm_l18, mm_l19, mm_l20, mm_l21, mm_l22] at *)
      all_goals first | omega | exact st | skip
    have k43 : i + 5 ≤ L → ∀ a : Int, (0 ≤ a ∧ a ≤ 63) → Z 43 [some (mm_X b), some (mm_R 1), some (mm_R 17), some (mm_R 23), some (mm_I i), x5, x6] [mm_I a] M [] u := by
      intro h5 a ha
      have hn9 : n ≤ 1000 := by omega
      have hu9 : u + 100 ≤ MU := by omega
      have hu8 : u + 3000 ≤ MU := by omega
      have hg1 : i + 5 ≤ L → ∀ M' x5 x6 u', LI (n + 1) M' → u' ≤ u + 100 → Z 2006 [some (mm_X b), some (mm_R 1), some (mm_R 17), some (mm_R 23), some (mm_I i), x5, x6] [] M' [] u' := fun h5 M' x5 x6 u' a c => hg h5 M' x5 x6 u' a (by omega)
      have hL9 : L < 2147483648 := by omega
      refine hT a _ M u ha (fun k hk t ht => ?_) (fun _ => hg h5 M x5 x6 u hI.up (by omega))
      subst hk
      have hk48 : k < 48 := by
        have := (List.getElem?_eq_some_iff.mp ht).1
        exact this
      rcases (show k = 0 ∨ k = 1 ∨ k = 2 ∨ k = 3 ∨ k = 4 ∨ k = 5 ∨ k = 6 ∨ k = 7 ∨ k = 8 ∨ k = 9 ∨ k = 10 ∨ k = 11 ∨ k = 12 ∨ k = 13 ∨ k = 14 ∨ k = 15 ∨ k = 16 ∨ k = 17 ∨ k = 18 ∨ k = 19 ∨ k = 20 ∨ k = 21 ∨ k = 22 ∨ k = 23 ∨ k = 24 ∨ k = 25 ∨ k = 26 ∨ k = 27 ∨ k = 28 ∨ k = 29 ∨ k = 30 ∨ k = 31 ∨ k = 32 ∨ k = 33 ∨ k = 34 ∨ k = 35 ∨ k = 36 ∨ k = 37 ∨ k = 38 ∨ k = 39 ∨ k = 40 ∨ k = 41 ∨ k = 42 ∨ k = 43 ∨ k = 44 ∨ k = 45 ∨ k = 46 ∨ k = 47 by omega) with rfl | rfl | rfl | rfl | rfl | rfl | rfl | rfl | rfl | rfl | rfl | rfl | rfl | rfl | rfl | rfl | rfl | rfl | rfl | rfl | rfl | rfl | rfl | rfl | rfl | rfl | rfl | rfl | rfl | rfl | rfl | rfl | rfl | rfl | rfl | rfl | rfl | rfl | rfl | rfl | rfl | rfl | rfl | rfl | rfl | rfl | rfl | rfl
      · cases ht
        exact csL_0 hl hC hSC hL9 ⟨hi, h5⟩ hI hn9 hu9 (hg1 h5) x5 x6
      · cases ht
        exact csL_1 hl hC hSC hL9 ⟨hi, h5⟩ hI hn9 hu9 (hg1 h5) x5 x6
      · cases ht
        exact csL_2 hl hC hSC hL9 ⟨hi, h5⟩ hI hn9 hu9 (hg1 h5) x5 x6
      · cases ht
        exact csL_3 hl hC hSC hL9 ⟨hi, h5⟩ hI hn9 hu9 (hg1 h5) x5 x6
      · cases ht
        exact csL_4 hl hC hSC hL9 ⟨hi, h5⟩ hI hn9 hu9 (hg1 h5) x5 x6
      · cases ht
        exact csL_5 hl hC hSC hL9 ⟨hi, h5⟩ hI hn9 hu9 (hg1 h5) x5 x6
      · cases ht
        exact csL_6 hl hC hSC hL9 ⟨hi, h5⟩ hI hn9 hu9 (hg1 h5) x5 x6
      · cases ht
        exact csL_7 hl hC hSC hL9 ⟨hi, h5⟩ hI hn9 hu9 (hg1 h5) x5 x6
      · cases ht
        exact csL_8 hl hC hSC hL9 ⟨hi, h5⟩ hI hn9 hu9 (hg1 h5) x5 x6
      · cases ht
        exact csL_9 hl hC hSC hL9 ⟨hi, h5⟩ hI hn9 hu9 (hg1 h5) x5 x6
      · cases ht
        exact csL_10 hl hC hSC hL9 ⟨hi, h5⟩ hI hn9 hu9 (hg1 h5) x5 x6
      · cases ht
        exact csL_11 hl hC hSC hL9 ⟨hi, h5⟩ hI hn9 hu9 (hg1 h5) x5 x6
      · cases ht
        exact csL_12 hl hC hSC hL9 ⟨hi, h5⟩ hI hn9 hu9 (hg1 h5) x5 x6
      · cases ht
        exact csL_13 hl hC hSC hL9 ⟨hi, h5⟩ hI hn9 hu9 (hg1 h5) x5 x6
      · cases ht
        exact csL_14 hl hC hSC hL9 ⟨hi, h5⟩ hI hn9 hu9 (hg1 h5) x5 x6
      · cases ht
        exact csL_15 hl hC hSC hL9 ⟨hi, h5⟩ hI hn9 hu9 (hg1 h5) x5 x6
      · cases ht
        exact csL_16 hl hC hSC hL9 ⟨hi, h5⟩ hI hn9 hu9 (hg1 h5) x5 x6
      · cases ht
        exact csL_17 hl hC hSC hL9 ⟨hi, h5⟩ hI hn9 hu9 (hg1 h5) x5 x6
      · cases ht
        exact csL_18 hl hC hSC hL9 ⟨hi, h5⟩ hI hn9 hu9 (hg1 h5) x5 x6
      · cases ht
        exact csL_19 hl hC hSC hL9 ⟨hi, h5⟩ hI hn9 hu9 (hg1 h5) x5 x6
      · cases ht
        exact csL_20 hl hC hSC hL9 ⟨hi, h5⟩ hI hn9 hu9 (hg1 h5) x5 x6
      · cases ht
        exact csL_21 hl hC hSC hL9 ⟨hi, h5⟩ hI hn9 hu9 (hg1 h5) x5 x6
      · cases ht
        exact csL_22 hl hC hSC hL9 ⟨hi, h5⟩ hI hn9 hu9 (hg1 h5) x5 x6
      · cases ht
        exact csL_23 hl hC hSC hL9 ⟨hi, h5⟩ hI hn9 hu9 (hg1 h5) x5 x6
      · cases ht
        exact csL_24 hl hC hSC hL9 ⟨hi, h5⟩ hI hn9 hu9 (hg1 h5) x5 x6
      · cases ht
        exact csL_25 hl hC hSC hL9 ⟨hi, h5⟩ hI hn9 hu9 (hg1 h5) x5 x6
      · cases ht
        exact csL_26 hl hC hSC hL9 ⟨hi, h5⟩ hI hn9 hu9 (hg1 h5) x5 x6
      · cases ht
        exact csL_27 hl hC hSC hL9 ⟨hi, h5⟩ hI hn9 hu9 (hg1 h5) x5 x6
      · cases ht
        exact csL_28 hl hC hSC hL9 ⟨hi, h5⟩ hI hn9 hu9 (hg1 h5) x5 x6
      · cases ht
        exact csL_29 hl hC hSC hL9 ⟨hi, h5⟩ hI hn9 hu9 (hg1 h5) x5 x6
      · cases ht
        exact csL_30 hl hC hSC hL9 ⟨hi, h5⟩ hI hn9 hu9 (hg1 h5) x5 x6
      · cases ht
        exact csL_31 hl hC hSC hL9 ⟨hi, h5⟩ hI hn9 hu9 (hg1 h5) x5 x6
      · cases ht
        exact csL_32 hl hC hSC hL9 ⟨hi, h5⟩ hI hn9 hu9 (hg1 h5) x5 x6
      · cases ht
        exact csL_33 hl hC hSC hL9 ⟨hi, h5⟩ hI hn9 hu9 (hg1 h5) x5 x6
      · cases ht
        exact csL_34 hl hC hSC hL9 ⟨hi, h5⟩ hI hn9 hu9 (hg1 h5) x5 x6
      · cases ht
        exact h35 n u i M ⟨hi, h5⟩ hI hn9 hu8 (hg h5) x5 x6
      · cases ht
        exact csL_36 hl hC hSC hL9 ⟨hi, h5⟩ hI hn9 hu9 (hg1 h5) x5 x6
      · cases ht
        exact csL_37 hl hC hSC hL9 ⟨hi, h5⟩ hI hn9 hu9 (hg1 h5) x5 x6
      · cases ht
        exact csL_38 hl hC hSC hL9 ⟨hi, h5⟩ hI hn9 hu9 (hg1 h5) x5 x6
      · cases ht
        exact csL_39 hl hC hSC hL9 ⟨hi, h5⟩ hI hn9 hu9 (hg1 h5) x5 x6
      · cases ht
        exact csL_40 hl hC hSC hL9 ⟨hi, h5⟩ hI hn9 hu9 (hg1 h5) x5 x6
      · cases ht
        exact csL_41 hl hC hSC hL9 ⟨hi, h5⟩ hI hn9 hu9 (hg1 h5) x5 x6
      · cases ht
        exact csL_42 hl hC hSC hL9 ⟨hi, h5⟩ hI hn9 hu9 (hg1 h5) x5 x6
      · cases ht
        exact csL_43 hl hC hSC hL9 ⟨hi, h5⟩ hI hn9 hu9 (hg1 h5) x5 x6
      · cases ht
        exact csL_44 hl hC hSC hL9 ⟨hi, h5⟩ hI hn9 hu9 (hg1 h5) x5 x6
      · cases ht
        exact csL_45 hl hC hSC hL9 ⟨hi, h5⟩ hI hn9 hu9 (hg1 h5) x5 x6
      · cases ht
        exact csL_46 hl hC hSC hL9 ⟨hi, h5⟩ hI hn9 hu9 (hg1 h5) x5 x6
      · cases ht
        exact csL_47 hl hC hSC hL9 ⟨hi, h5⟩ hI hn9 hu9 (hg1 h5) x5 x6
    have hq := fun h5 v => hC kdLc_g [] kkLc_g trivial 42 .iand 0 [] [some (mm_X b), some (mm_R 1), some (mm_R 17), some (mm_R 23), some (mm_I i), x5, x6] [mm_I 63, mm_I v] M [] u (Z 43) Z rfl (k43 h5 _ (and63 v)) (fun _ _ _ _ _ h => h) (fun _ _ _ _ _ _ h => h)
    clear ih hg k43 h35
    refine mm_wpZ_at (stop := [42, 2012]) (ct := []) hC kkLc_g trivial 40 ?_
    repeat' (first | with_reducible assumption | with_reducible exact True.intro | with_reducible exact mm_i1 | with_reducible exact mm_i17 | with_reducible exact mm_i23 | ((with_reducible show mm_rv _ _ _ _ _); first | exact True.intro | exact mm_i1 | exact mm_i17 | exact mm_i23 | refine mm_sc hSC ?_ | ((with_reducible show InI _); exact hxI _)) | refine mm_sc hSC ?_ | ((with_reducible show InI _); exact hxI _) | ((with_reducible show mm_bool _ _); first | exact True.intro | exact Or.inl rfl | exact Or.inr rfl | (show (_ : Int) = 0 ∨ _ = 1)) | rfl | with_reducible exact Or.inl rfl | with_reducible exact Or.inr rfl | exact Nat.le_of_ble_eq_true rfl | refine And.intro ?_ ?_ | intro _)
    all_goals (try simp (disch := omega) only [InI, Int.toNat_natCast, Int.tmod_eq_emod_of_nonneg, Int.tdiv_eq_ediv_of_nonneg, true_implies, true_or, or_true, mm_l18, mm_l19, mm_l20, mm_l21, mm_l22] at *)
    all_goals first | omega | exact hE _ _ _ (by omega) rfl ⟨_, hI⟩ | exact hq (by omega) _ | skip

