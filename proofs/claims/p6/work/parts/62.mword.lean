/-! the model's walks: words; emptied; the start of a call -/
theorem rdw_b {V : mm_M} {w p : Nat} (hs : 1 ≤ V 2 6 ∧ V 2 6 ≤ 5) : ∀ m, 0 ≤ rdw V w p m ∧ rdw V w p m + 1 ≤ 5 ^ m
  | 0 => by simp [rdw]
  | m + 1 => by
    obtain ⟨h1, h2⟩ := rdw_b (w := w) (p := p) hs m
    have h3 := Int.emod_nonneg (V (w + 1) ((p + m) % (V w 2).toNat) / 2) (show V 2 6 ≠ 0 by omega)
    have h4 := Int.emod_lt_of_pos (V (w + 1) ((p + m) % (V w 2).toNat) / 2) (show 0 < V 2 6 by omega)
    have h5 : 0 ≤ rdw V w p m * V 2 6 := Int.mul_nonneg h1 (by omega)
    have h6 : (rdw V w p m + 1) * V 2 6 ≤ 5 ^ m * 5 := Int.mul_le_mul h2 hs.2 (by omega) (by omega)
    rw [Int.add_mul, Int.one_mul, ← Int.pow_succ] at h6
    simp only [rdw]
    omega
theorem pw5 {m : Nat} (h : m ≤ 4) : (5 : Int) ^ m ≤ 625 := by
  have : m = 0 ∨ m = 1 ∨ m = 2 ∨ m = 3 ∨ m = 4 := by omega
  rcases this with rfl | rfl | rfl | rfl | rfl <;> decide
theorem at_X5_wordIn_0 : mm_at 0 kdX5_wordIn = [(0, .aload_n 0, 0), (1, .getfield 89, 0), (4, .ifCond .eq 11, 15), (7, .iload_n 2, 0), (8, .aload_n 0, 0), (9, .getfield 49, 0), (12, .if_icmp .lt 5, 17), (15, .iconst (-1), 0), (16, .ireturn, 0), (17, .iload_n 3, 0), (18, .istore 4, 0), (20, .iload 4, 0), (22, .aload_n 0, 0), (23, .getfield 19, 0), (26, .iload_n 1, 0), (27, .iaload, 0), (28, .if_icmp .ge 73, 101), (31, .iconst 0, 0), (32, .istore 5, 0), (34, .iconst 0, 0), (35, .istore 6, 0), (37, .iload 6, 0), (39, .aload_n 0, 0), (40, .getfield 92, 0), (43, .if_icmp .ge 43, 86), (46, .iload 5, 0), (48, .aload_n 0, 0), (49, .getfield 89, 0), (52, .imul, 0), (53, .aload_n 0, 0), (54, .iload_n 1, 0), (55, .iload 4, 0), (57, .iload 6, 0), (59, .iadd, 0), (60, .aload_n 0, 0), (61, .getfield 19, 0), (64, .iload_n 1, 0), (65, .iaload, 0), (66, .irem, 0), (67, .invokevirtual 98, 0), (70, .iconst 2, 0), (71, .idiv, 0), (72, .aload_n 0, 0), (73, .getfield 89, 0), (76, .irem, 0), (77, .iadd, 0), (78, .istore 5, 0), (80, .iinc 6 1, 0), (83, .goto (-46), 37), (86, .iload 5, 0), (88, .iload_n 2, 0), (89, .if_icmp .ne 6, 95), (92, .iload 4, 0), (94, .ireturn, 0), (95, .iinc 4 1, 0), (98, .goto (-78), 20), (101, .iconst (-1), 0), (102, .ireturn, 0)] := rfl
theorem at_X5_wordIn_15 : mm_at 15 kdX5_wordIn = [(15, .iconst (-1), 0), (16, .ireturn, 0), (17, .iload_n 3, 0), (18, .istore 4, 0), (20, .iload 4, 0), (22, .aload_n 0, 0), (23, .getfield 19, 0), (26, .iload_n 1, 0), (27, .iaload, 0), (28, .if_icmp .ge 73, 101), (31, .iconst 0, 0), (32, .istore 5, 0), (34, .iconst 0, 0), (35, .istore 6, 0), (37, .iload 6, 0), (39, .aload_n 0, 0), (40, .getfield 92, 0), (43, .if_icmp .ge 43, 86), (46, .iload 5, 0), (48, .aload_n 0, 0), (49, .getfield 89, 0), (52, .imul, 0), (53, .aload_n 0, 0), (54, .iload_n 1, 0), (55, .iload 4, 0), (57, .iload 6, 0), (59, .iadd, 0), (60, .aload_n 0, 0), (61, .getfield 19, 0), (64, .iload_n 1, 0), (65, .iaload, 0), (66, .irem, 0), (67, .invokevirtual 98, 0), (70, .iconst 2, 0), (71, .idiv, 0), (72, .aload_n 0, 0), (73, .getfield 89, 0), (76, .irem, 0), (77, .iadd, 0), (78, .istore 5, 0), (80, .iinc 6 1, 0), (83, .goto (-46), 37), (86, .iload 5, 0), (88, .iload_n 2, 0), (89, .if_icmp .ne 6, 95), (92, .iload 4, 0), (94, .ireturn, 0), (95, .iinc 4 1, 0), (98, .goto (-78), 20), (101, .iconst (-1), 0), (102, .ireturn, 0)] := rfl
theorem at_X5_wordIn_17 : mm_at 17 kdX5_wordIn = [(17, .iload_n 3, 0), (18, .istore 4, 0), (20, .iload 4, 0), (22, .aload_n 0, 0), (23, .getfield 19, 0), (26, .iload_n 1, 0), (27, .iaload, 0), (28, .if_icmp .ge 73, 101), (31, .iconst 0, 0), (32, .istore 5, 0), (34, .iconst 0, 0), (35, .istore 6, 0), (37, .iload 6, 0), (39, .aload_n 0, 0), (40, .getfield 92, 0), (43, .if_icmp .ge 43, 86), (46, .iload 5, 0), (48, .aload_n 0, 0), (49, .getfield 89, 0), (52, .imul, 0), (53, .aload_n 0, 0), (54, .iload_n 1, 0), (55, .iload 4, 0), (57, .iload 6, 0), (59, .iadd, 0), (60, .aload_n 0, 0), (61, .getfield 19, 0), (64, .iload_n 1, 0), (65, .iaload, 0), (66, .irem, 0), (67, .invokevirtual 98, 0), (70, .iconst 2, 0), (71, .idiv, 0), (72, .aload_n 0, 0), (73, .getfield 89, 0), (76, .irem, 0), (77, .iadd, 0), (78, .istore 5, 0), (80, .iinc 6 1, 0), (83, .goto (-46), 37), (86, .iload 5, 0), (88, .iload_n 2, 0), (89, .if_icmp .ne 6, 95), (92, .iload 4, 0), (94, .ireturn, 0), (95, .iinc 4 1, 0), (98, .goto (-78), 20), (101, .iconst (-1), 0), (102, .ireturn, 0)] := rfl
theorem at_X5_wordIn_20 : mm_at 20 kdX5_wordIn = [(20, .iload 4, 0), (22, .aload_n 0, 0), (23, .getfield 19, 0), (26, .iload_n 1, 0), (27, .iaload, 0), (28, .if_icmp .ge 73, 101), (31, .iconst 0, 0), (32, .istore 5, 0), (34, .iconst 0, 0), (35, .istore 6, 0), (37, .iload 6, 0), (39, .aload_n 0, 0), (40, .getfield 92, 0), (43, .if_icmp .ge 43, 86), (46, .iload 5, 0), (48, .aload_n 0, 0), (49, .getfield 89, 0), (52, .imul, 0), (53, .aload_n 0, 0), (54, .iload_n 1, 0), (55, .iload 4, 0), (57, .iload 6, 0), (59, .iadd, 0), (60, .aload_n 0, 0), (61, .getfield 19, 0), (64, .iload_n 1, 0), (65, .iaload, 0), (66, .irem, 0), (67, .invokevirtual 98, 0), (70, .iconst 2, 0), (71, .idiv, 0), (72, .aload_n 0, 0), (73, .getfield 89, 0), (76, .irem, 0), (77, .iadd, 0), (78, .istore 5, 0), (80, .iinc 6 1, 0), (83, .goto (-46), 37), (86, .iload 5, 0), (88, .iload_n 2, 0), (89, .if_icmp .ne 6, 95), (92, .iload 4, 0), (94, .ireturn, 0), (95, .iinc 4 1, 0), (98, .goto (-78), 20), (101, .iconst (-1), 0), (102, .ireturn, 0)] := rfl
theorem at_X5_wordIn_37 : mm_at 37 kdX5_wordIn = [(37, .iload 6, 0), (39, .aload_n 0, 0), (40, .getfield 92, 0), (43, .if_icmp .ge 43, 86), (46, .iload 5, 0), (48, .aload_n 0, 0), (49, .getfield 89, 0), (52, .imul, 0), (53, .aload_n 0, 0), (54, .iload_n 1, 0), (55, .iload 4, 0), (57, .iload 6, 0), (59, .iadd, 0), (60, .aload_n 0, 0), (61, .getfield 19, 0), (64, .iload_n 1, 0), (65, .iaload, 0), (66, .irem, 0), (67, .invokevirtual 98, 0), (70, .iconst 2, 0), (71, .idiv, 0), (72, .aload_n 0, 0), (73, .getfield 89, 0), (76, .irem, 0), (77, .iadd, 0), (78, .istore 5, 0), (80, .iinc 6 1, 0), (83, .goto (-46), 37), (86, .iload 5, 0), (88, .iload_n 2, 0), (89, .if_icmp .ne 6, 95), (92, .iload 4, 0), (94, .ireturn, 0), (95, .iinc 4 1, 0), (98, .goto (-78), 20), (101, .iconst (-1), 0), (102, .ireturn, 0)] := rfl
theorem at_X5_wordIn_86 : mm_at 86 kdX5_wordIn = [(86, .iload 5, 0), (88, .iload_n 2, 0), (89, .if_icmp .ne 6, 95), (92, .iload 4, 0), (94, .ireturn, 0), (95, .iinc 4 1, 0), (98, .goto (-78), 20), (101, .iconst (-1), 0), (102, .ireturn, 0)] := rfl
theorem at_X5_wordIn_95 : mm_at 95 kdX5_wordIn = [(95, .iinc 4 1, 0), (98, .goto (-78), 20), (101, .iconst (-1), 0), (102, .ireturn, 0)] := rfl
theorem at_X5_wordIn_101 : mm_at 101 kdX5_wordIn = [(101, .iconst (-1), 0), (102, .ireturn, 0)] := rfl
def sp_X5_wordIn : mm_S := fun av M d Q => match av with
  | [.inr (.inr (.inl o)), .inl k, .inl x, .inl f] =>  o = 17 ∧ tX M ∧ (0 ≤ k ∧ k < 4) ∧ mV M k.toNat ∧ (0 ≤ x ∧ x ≤ 100) ∧ (0 ≤ f ∧ f ≤ 100) ∧ ∀ r, (-1 ≤ r ∧ r ≤ 30) ∧ wdR (vX M) (8 + 2 * k.toNat) x f r → Q (.inl (some (mm_I r))) M d
  | _ => False
def ct_X5_wordIn : List (Nat × mm_Ca) := [(98, (0, 3, 14, sp_X5_stepOf, 0))]
abbrev rr_X5_wordIn (Q : mm_Q) := mm_run (mm_look flX5) (mm_look ct_X5_wordIn) mm_x0 (mm_look ([] : List (Nat × Int))) (fun _ => none) 1 0 (fun _ _ => none) Q kdX5_wordIn
set_option maxRecDepth 20000 in
theorem lp2_X5_wordIn {M : mm_M} {d : List Nat} {Q : mm_Q} {x f : Int} {k n p wl : Nat} (hk : k < 4) (ht : tX M) (hv : mV M k) (hn : M 21 k = n) (hp : p < n) (hs : 1 ≤ M 17 5) (hwl : M 17 6 = wl) (hq : rr_X5_wordIn Q 86 [some (mm_R 17), some (mm_I k), some (mm_I x), some (mm_I f), some (mm_I p), some (mm_I (rdw (vX M) (8 + 2 * k) p wl)), some (mm_I wl)] [] M d 0) : ∀ (j m : Nat), m + j = wl → rr_X5_wordIn Q 37 [some (mm_R 17), some (mm_I k), some (mm_I x), some (mm_I f), some (mm_I p), some (mm_I (rdw (vX M) (8 + 2 * k) p m)), some (mm_I m)] [] M d 0 := by
  obtain ⟨v1, v2, v3⟩ := id hv
  have t1 := ht.1
  have t5 := ht.2.2.2
  intro j
  induction j with
  | zero =>
    intro m hm
    have e : m = wl := by omega
    subst e
    obtain ⟨K, hK, hK2⟩ : ∃ K : Nat → mm_K, (∀ t ls st M d u, K t ls st M d u → rr_X5_wordIn Q t ls st M d u) ∧ (∀ t ls st M d u, rr_X5_wordIn Q t ls st M d u → K t ls st M d u) := ⟨rr_X5_wordIn Q, fun _ _ _ _ _ _ h => h, fun _ _ _ _ _ _ h => h⟩
    have h9 := hK2 _ _ _ _ _ _ hq
    refine mm_run_at (stop := [46, 86]) (S := K) kkX5_wordIn 90 ?_ (fun _ _ _ _ _ _ _ h => hK _ _ _ _ _ _ h)
    repeat' (first | with_reducible assumption | with_reducible exact True.intro | with_reducible exact mm_i17 | with_reducible exact mm_i18 | with_reducible exact mm_i19 | with_reducible exact mm_i20 | with_reducible exact mm_i21 | with_reducible exact mm_i22 | ((with_reducible show mm_rv _ _ _ _ _); first | exact True.intro | exact mm_i17 | exact mm_i18 | exact mm_i19 | exact mm_i20 | exact mm_i21 | exact mm_i22) | ((with_reducible show mm_bool _ _); first | exact True.intro | exact Or.inl rfl | exact Or.inr rfl | (show (_ : Int) = 0 ∨ _ = 1)) | rfl | with_reducible exact Or.inl rfl | with_reducible exact Or.inr rfl | exact Nat.le_of_ble_eq_true rfl | refine And.intro ?_ ?_ | intro _)
    all_goals (try simp (disch := omega) only [InI, Int.toNat_natCast, Int.tmod_eq_emod_of_nonneg, Int.tdiv_eq_ediv_of_nonneg, true_implies, true_or, or_true, mm_l18, mm_l19, mm_l20, mm_l21, mm_l22] at *)
    all_goals first | omega | exact h9 | skip
  | succ j ih =>
    intro m hm
    have hml : (p + m) % n < n := Nat.mod_lt _ (by omega)
    have et : ((p : Int) + m).tmod (M 21 k) = ((p + m) % n : Nat) := by rw [Int.tmod_eq_emod_of_nonneg (by omega), hn]; norm_cast
    have v4 := v3 ((p + m) % n) (by omega)
    have en := vX_n (M := M) hk
    have ei := vX_i (M := M) (i := (p + m) % n) hk (by omega)
    have er : rdw (vX M) (8 + 2 * k) p (m + 1) = rdw (vX M) (8 + 2 * k) p m * M 17 5 + M 20 (30 * k + (p + m) % n) / 2 % M 17 5 := by
      simp only [rdw]
      rw [en, hn, Int.toNat_natCast, ei, vX_26]
    have ed := Int.tdiv_eq_ediv_of_nonneg v4.1 (b := 2)
    have em : (M 20 (30 * k + (p + m) % n) / 2).tmod (M 17 5) = M 20 (30 * k + (p + m) % n) / 2 % M 17 5 := Int.tmod_eq_emod_of_nonneg (by omega)
    obtain ⟨K, hK, hK2⟩ : ∃ K : Nat → mm_K, (∀ t ls st M d u, K t ls st M d u → rr_X5_wordIn Q t ls st M d u) ∧ (∀ t ls st M d u, rr_X5_wordIn Q t ls st M d u → K t ls st M d u) := ⟨rr_X5_wordIn Q, fun _ _ _ _ _ _ h => h, fun _ _ _ _ _ _ h => h⟩
    have st := hK2 _ _ _ _ _ _ (ih (m + 1) (by omega))
    rw [er] at st
    refine mm_run_at (stop := [37, 86]) (S := K) kkX5_wordIn 90 ?_ (fun _ _ _ _ _ _ _ h => hK _ _ _ _ _ _ h)
    repeat' (first | with_reducible assumption | with_reducible exact True.intro | with_reducible exact mm_i17 | with_reducible exact mm_i18 | with_reducible exact mm_i19 | with_reducible exact mm_i20 | with_reducible exact mm_i21 | with_reducible exact mm_i22 | ((with_reducible show mm_rv _ _ _ _ _); first | exact True.intro | exact mm_i17 | exact mm_i18 | exact mm_i19 | exact mm_i20 | exact mm_i21 | exact mm_i22) | ((with_reducible show mm_bool _ _); first | exact True.intro | exact Or.inl rfl | exact Or.inr rfl | (show (_ : Int) = 0 ∨ _ = 1)) | rfl | with_reducible exact Or.inl rfl | with_reducible exact Or.inr rfl | exact Nat.le_of_ble_eq_true rfl | refine And.intro ?_ ?_ | intro _)
    all_goals (try simp (disch := omega) only [et, ed, em, InI, Int.toNat_natCast, Int.tmod_eq_emod_of_nonneg, Int.tdiv_eq_ediv_of_nonneg, true_implies, true_or, or_true, mm_l18, mm_l19, mm_l20, mm_l21, mm_l22] at *)
    all_goals first | omega | exact st | (rw [hwl] at *; omega) | skip
set_option maxRecDepth 20000 in
theorem lp_X5_wordIn {M : mm_M} {d : List Nat} {Q : mm_Q} {x f : Int} {k n wl : Nat} (hk : k < 4) (ht : tX M) (hv : mV M k) (hx : 0 ≤ x ∧ x ≤ 100) (hf : 0 ≤ f) (hn : M 21 k = n) (hs : 1 ≤ M 17 5) (hwl : M 17 6 = wl) (hq : ∀ r : Int, (-1 ≤ r ∧ r ≤ 30) ∧ ((r = -1 ∧ ∀ p : Nat, f ≤ p → p < n → rdw (vX M) (8 + 2 * k) p wl ≠ x) ∨ ∃ p : Nat, r = p ∧ f ≤ p ∧ p < n ∧ rdw (vX M) (8 + 2 * k) p wl = x ∧ ∀ p' : Nat, f ≤ p' → p' < p → rdw (vX M) (8 + 2 * k) p' wl ≠ x) → Q (.inl (some (mm_I r))) M d) : ∀ (j p : Nat) (x5 x6 : Option mm_V), n ≤ p + j → p ≤ 101 → f ≤ p → (∀ p' : Nat, f ≤ p' → p' < p → rdw (vX M) (8 + 2 * k) p' wl ≠ x) → rr_X5_wordIn Q 20 [some (mm_R 17), some (mm_I k), some (mm_I x), some (mm_I f), some (mm_I p), x5, x6] [] M d 0 := by
  have v1 := hv.1
  have t5 := ht.2.2.2
  intro j
  induction j with
  | zero =>
    intro p x5 x6 hp hp2 hfp hN
    have h9 := hq (-1) ⟨by omega, Or.inl ⟨rfl, fun p' a b => hN p' a (by omega)⟩⟩
    obtain ⟨K, hK, hK2⟩ : ∃ K : Nat → mm_K, (∀ t ls st M d u, K t ls st M d u → rr_X5_wordIn Q t ls st M d u) ∧ (∀ t ls st M d u, rr_X5_wordIn Q t ls st M d u → K t ls st M d u) := ⟨rr_X5_wordIn Q, fun _ _ _ _ _ _ h => h, fun _ _ _ _ _ _ h => h⟩
    refine mm_run_at (stop := [31]) (S := K) kkX5_wordIn 90 ?_ (fun _ _ _ _ _ _ _ h => hK _ _ _ _ _ _ h)
    repeat' (first | with_reducible assumption | with_reducible exact True.intro | with_reducible exact mm_i17 | with_reducible exact mm_i18 | with_reducible exact mm_i19 | with_reducible exact mm_i20 | with_reducible exact mm_i21 | with_reducible exact mm_i22 | ((with_reducible show mm_rv _ _ _ _ _); first | exact True.intro | exact mm_i17 | exact mm_i18 | exact mm_i19 | exact mm_i20 | exact mm_i21 | exact mm_i22) | ((with_reducible show mm_bool _ _); first | exact True.intro | exact Or.inl rfl | exact Or.inr rfl | (show (_ : Int) = 0 ∨ _ = 1)) | rfl | with_reducible exact Or.inl rfl | with_reducible exact Or.inr rfl | exact Nat.le_of_ble_eq_true rfl | refine And.intro ?_ ?_ | intro _)
    all_goals (try simp (disch := omega) only [InI, Int.toNat_natCast, Int.tmod_eq_emod_of_nonneg, Int.tdiv_eq_ediv_of_nonneg, true_implies, true_or, or_true, mm_l18, mm_l19, mm_l20, mm_l21, mm_l22] at *)
    all_goals first | omega | exact h9 | skip
  | succ j ih =>
    intro p x5 x6 hp hp2 hfp hN
    by_cases hpn : p < n
    · have hb := rdw_b (V := vX M) (w := 8 + 2 * k) (p := p) (by rw [vX_26]; omega) wl
      have h5 := pw5 (m := wl) (by omega)
      have h9 : rdw (vX M) (8 + 2 * k) p wl = x → Q (.inl (some (mm_I p))) M d := fun h => hq p ⟨by omega, Or.inr ⟨p, rfl, hfp, hpn, h, hN⟩⟩
      obtain ⟨K, hK, hK2⟩ : ∃ K : Nat → mm_K, (∀ t ls st M d u, K t ls st M d u → rr_X5_wordIn Q t ls st M d u) ∧ (∀ t ls st M d u, rr_X5_wordIn Q t ls st M d u → K t ls st M d u) := ⟨rr_X5_wordIn Q, fun _ _ _ _ _ _ h => h, fun _ _ _ _ _ _ h => h⟩
      have st : rdw (vX M) (8 + 2 * k) p wl ≠ x → K 20 [some (mm_R 17), some (mm_I k), some (mm_I x), some (mm_I f), some (mm_I ((p : Int) + 1)), some (mm_I (rdw (vX M) (8 + 2 * k) p wl)), some (mm_I wl)] [] M d 0 := fun h => hK2 _ _ _ _ _ _ (ih (p + 1) _ _ (by omega) (by omega) (by omega) (fun p' a b => by
        by_cases e : p' = p
        · subst e; exact h
        · exact hN p' a (by omega)))
      have k37 : K 37 [some (mm_R 17), some (mm_I k), some (mm_I x), some (mm_I f), some (mm_I p), some (mm_I 0), some (mm_I 0)] [] M d 0 := by
        refine hK2 _ _ _ _ _ _ (lp2_X5_wordIn hk ht hv hn hpn hs hwl ?_ wl 0 (by omega))
        refine mm_run_at (stop := [20]) (S := K) kkX5_wordIn 90 ?_ (fun _ _ _ _ _ _ _ h => hK _ _ _ _ _ _ h)
        repeat' (first | with_reducible assumption | with_reducible exact True.intro | with_reducible exact mm_i17 | with_reducible exact mm_i18 | with_reducible exact mm_i19 | with_reducible exact mm_i20 | with_reducible exact mm_i21 | with_reducible exact mm_i22 | ((with_reducible show mm_rv _ _ _ _ _); first | exact True.intro | exact mm_i17 | exact mm_i18 | exact mm_i19 | exact mm_i20 | exact mm_i21 | exact mm_i22) | ((with_reducible show mm_bool _ _); first | exact True.intro | exact Or.inl rfl | exact Or.inr rfl | (show (_ : Int) = 0 ∨ _ = 1)) | rfl | with_reducible exact Or.inl rfl | with_reducible exact Or.inr rfl | exact Nat.le_of_ble_eq_true rfl | refine And.intro ?_ ?_ | intro _)
        all_goals (try simp (disch := omega) only [InI, Int.toNat_natCast, Int.tmod_eq_emod_of_nonneg, Int.tdiv_eq_ediv_of_nonneg, true_implies, true_or, or_true, mm_l18, mm_l19, mm_l20, mm_l21, mm_l22] at *)
        all_goals first | omega | exact h9 (by omega) | exact st (by omega) | skip
      refine mm_run_at (stop := [37, 101]) (S := K) kkX5_wordIn 90 ?_ (fun _ _ _ _ _ _ _ h => hK _ _ _ _ _ _ h)
      repeat' (first | with_reducible assumption | with_reducible exact True.intro | with_reducible exact mm_i17 | with_reducible exact mm_i18 | with_reducible exact mm_i19 | with_reducible exact mm_i20 | with_reducible exact mm_i21 | with_reducible exact mm_i22 | ((with_reducible show mm_rv _ _ _ _ _); first | exact True.intro | exact mm_i17 | exact mm_i18 | exact mm_i19 | exact mm_i20 | exact mm_i21 | exact mm_i22) | ((with_reducible show mm_bool _ _); first | exact True.intro | exact Or.inl rfl | exact Or.inr rfl | (show (_ : Int) = 0 ∨ _ = 1)) | rfl | with_reducible exact Or.inl rfl | with_reducible exact Or.inr rfl | exact Nat.le_of_ble_eq_true rfl | refine And.intro ?_ ?_ | intro _)
      all_goals (try simp (disch := omega) only [InI, Int.toNat_natCast, Int.tmod_eq_emod_of_nonneg, Int.tdiv_eq_ediv_of_nonneg, true_implies, true_or, or_true, mm_l18, mm_l19, mm_l20, mm_l21, mm_l22] at *)
      all_goals first | omega | exact k37 | skip
    · have h9 := hq (-1) ⟨by omega, Or.inl ⟨rfl, fun p' a b => hN p' a (by omega)⟩⟩
      obtain ⟨K, hK, hK2⟩ : ∃ K : Nat → mm_K, (∀ t ls st M d u, K t ls st M d u → rr_X5_wordIn Q t ls st M d u) ∧ (∀ t ls st M d u, rr_X5_wordIn Q t ls st M d u → K t ls st M d u) := ⟨rr_X5_wordIn Q, fun _ _ _ _ _ _ h => h, fun _ _ _ _ _ _ h => h⟩
      refine mm_run_at (stop := [31]) (S := K) kkX5_wordIn 90 ?_ (fun _ _ _ _ _ _ _ h => hK _ _ _ _ _ _ h)
      repeat' (first | with_reducible assumption | with_reducible exact True.intro | with_reducible exact mm_i17 | with_reducible exact mm_i18 | with_reducible exact mm_i19 | with_reducible exact mm_i20 | with_reducible exact mm_i21 | with_reducible exact mm_i22 | ((with_reducible show mm_rv _ _ _ _ _); first | exact True.intro | exact mm_i17 | exact mm_i18 | exact mm_i19 | exact mm_i20 | exact mm_i21 | exact mm_i22) | ((with_reducible show mm_bool _ _); first | exact True.intro | exact Or.inl rfl | exact Or.inr rfl | (show (_ : Int) = 0 ∨ _ = 1)) | rfl | with_reducible exact Or.inl rfl | with_reducible exact Or.inr rfl | exact Nat.le_of_ble_eq_true rfl | refine And.intro ?_ ?_ | intro _)
      all_goals (try simp (disch := omega) only [InI, Int.toNat_natCast, Int.tmod_eq_emod_of_nonneg, Int.tdiv_eq_ediv_of_nonneg, true_implies, true_or, or_true, mm_l18, mm_l19, mm_l20, mm_l21, mm_l22] at *)
      all_goals first | omega | exact h9 | skip
set_option maxRecDepth 20000 in
theorem rn_X5_wordIn : mm_RN flX5 ct_X5_wordIn mm_x0 [] 1 0 7 kdX5_wordIn sp_X5_wordIn := by
  intro av M d Q h
  unfold sp_X5_wordIn at h
  split at h
  · rename_i o k x f
    obtain ⟨rfl, ht, hk, hv, hx, hf, hq⟩ := h
    have t1 := ht.1
    have t5 := ht.2.2.2
    have v1 := hv.1
    obtain ⟨k, rfl⟩ := Int.eq_ofNat_of_zero_le hk.1
    obtain ⟨f, rfl⟩ := Int.eq_ofNat_of_zero_le hf.1
    simp only [Int.toNat_natCast] at *
    have hk4 : k < 4 := by omega
    have en := vX_n (M := M) hk4
    obtain ⟨n, hn⟩ := Int.eq_ofNat_of_zero_le v1.1
    obtain ⟨wl, hwl⟩ := Int.eq_ofNat_of_zero_le t5.2.1
    have h0 : (M 17 5 = 0 ∨ M 17 1 ≤ x) → Q (.inl (some (mm_I (-1)))) M d := fun h => hq (-1) ⟨by omega, Or.inl ⟨h, rfl⟩⟩
    obtain ⟨K, hK, hK2⟩ : ∃ K : Nat → mm_K, (∀ t ls st M d u, K t ls st M d u → rr_X5_wordIn Q t ls st M d u) ∧ (∀ t ls st M d u, rr_X5_wordIn Q t ls st M d u → K t ls st M d u) := ⟨rr_X5_wordIn Q, fun _ _ _ _ _ _ h => h, fun _ _ _ _ _ _ h => h⟩
    have k17 : ¬ (M 17 5 = 0 ∨ M 17 1 ≤ x) → K 20 [some (mm_R 17), some (mm_I k), some (mm_I x), some (mm_I f), some (mm_I f), none, none] [] M d 0 := fun h => hK2 _ _ _ _ _ _ (lp_X5_wordIn hk4 ht hv hx (by omega) hn (by omega) hwl (fun r hr => hq r ⟨hr.1, Or.inr ⟨h, by
      rw [en, hn, vX_27, hwl, Int.toNat_natCast]
      rcases hr.2 with h | ⟨p, e1, e2, e3, e4, e5⟩
      · exact Or.inl ⟨h.1, fun p b1 b2 => h.2 p b1 (by omega)⟩
      · exact Or.inr ⟨p, e1, e2, by omega, e4, e5⟩⟩⟩) 30 f none none (by omega) (by omega) (by omega) (fun p' a b => by omega))
    refine ⟨Nat.le_of_ble_eq_true rfl, ?_⟩
    refine mm_run_at (stop := [20]) (S := K) kkX5_wordIn 90 ?_ (fun _ _ _ _ _ _ _ h => hK _ _ _ _ _ _ h)
    repeat' (first | with_reducible assumption | with_reducible exact True.intro | with_reducible exact mm_i17 | with_reducible exact mm_i18 | with_reducible exact mm_i19 | with_reducible exact mm_i20 | with_reducible exact mm_i21 | with_reducible exact mm_i22 | ((with_reducible show mm_rv _ _ _ _ _); first | exact True.intro | exact mm_i17 | exact mm_i18 | exact mm_i19 | exact mm_i20 | exact mm_i21 | exact mm_i22) | ((with_reducible show mm_bool _ _); first | exact True.intro | exact Or.inl rfl | exact Or.inr rfl | (show (_ : Int) = 0 ∨ _ = 1)) | rfl | with_reducible exact Or.inl rfl | with_reducible exact Or.inr rfl | exact Nat.le_of_ble_eq_true rfl | refine And.intro ?_ ?_ | intro _)
    all_goals (try simp (disch := omega) only [InI, Int.toNat_natCast, Int.tmod_eq_emod_of_nonneg, Int.tdiv_eq_ediv_of_nonneg, true_implies, true_or, or_true, mm_l18, mm_l19, mm_l20, mm_l21, mm_l22] at *)
    all_goals first | omega | exact h0 (by omega) | exact k17 (by omega) | skip
  · exact h.elim
theorem me_X5_wordIn {l : Launch} (hl : l.stackTraces = false) : mm_Met l yX5_wordIn cX5_wordIn 7 (some .int) [] 7 122 0 sp_X5_wordIn := mm_mt hl rn_X5_wordIn ⟨by decide, rfl⟩ kkX5_wordIn rfl ⟨by decide, by decide⟩ flkX5 (fun _ h => nomatch h) (⟨mm_pe (me_X5_stepOf hl) mwX5_stepOf (mm_t6 158 rfl rfl) (Nat.le_of_ble_eq_true rfl) (Nat.le_of_ble_eq_true rfl), trivial⟩) (mm_xe0 _)
def sp_X5_emptied : mm_S := fun av M d Q => match av with
  | [.inr (.inr (.inl o))] =>  o = 17 ∧ ∀ M', fX M M' ∧ emR (vX M) (vX M') ∧ M' 17 10 = -1 ∧ M' 17 0 = M 17 0 → Q (.inl none) M' d
  | _ => False
def ct_X5_emptied : List (Nat × mm_Ca) := [(95, (0, 1, 14, sp_X5_endWords, 0))]
abbrev rr_X5_emptied (Q : mm_Q) := mm_run (mm_look flX5) (mm_look ct_X5_emptied) mm_x0 (mm_look ([] : List (Nat × Int))) (fun _ => none) 0 0 (fun _ _ => none) Q kdX5_emptied
set_option maxRecDepth 20000 in
theorem lp_X5_emptied {V : mm_M} {M0 : mm_M} {d : List Nat} {Q : mm_Q} (hV : V = mm_up (vX M0) 2 4 0) (hq : ∀ M', fX M0 M' ∧ emR (vX M0) (vX M') ∧ M' 17 10 = -1 ∧ M' 17 0 = M0 17 0 → Q (.inl none) M' d) : ∀ (j i : Nat) (M : mm_M), i + j = 3 → fX M0 M → M 17 0 = M0 17 0 → fr [8, 10, 12] V (vX M) → (∀ k, k < i → vX M (8 + 2 * k) 2 = 0 ∧ vX M (8 + 2 * k) 3 = 0) → rr_X5_emptied Q 7 [some (mm_R 17), some (mm_I i)] [] M d 0 := by
  intro j
  induction j with
  | zero =>
    intro i M hi hx h00 hf h1
    have fin : ∀ M', fX M M' → vX M' = mm_up (mm_up (mm_up (vX M) 16 1 0) 2 6 0) 2 7 0 → M' 17 10 = -1 → M' 17 0 = M 17 0 → Q (.inl none) M' d := by
      intro M' g1 g2 g3 g4
      have e2 := hf 2 (by simp)
      have e16 := hf 16 (by simp)
      rw [hV] at e2 e16
      refine hq M' ⟨hx.tr g1, ?_, g3, by rw [g4, h00]⟩
      rw [g2]
      refine ⟨(((((fr.rf.up (by simp)).tr (show fr [2, 8, 10, 12, 16] (mm_up (vX M0) 2 4 0) (vX M) from by rw [← hV]; exact hf.mono (by simp))).up (by simp)).up (by simp)).up (by simp)), ?_, ?_, ?_, ?_, fun k hk => ?_, ?_, ?_, ?_, ?_⟩
      · simp [mm_up, e2]
      · simp [mm_up, e2]
      · simp [mm_up]
      · simp [mm_up]
      · have := h1 k (by omega)
        rw [mm_up_o _ (by omega), mm_up_o _ (by omega), mm_up_o _ (by omega)]
        exact this
      · simp [mm_up]
      · simp [mm_up, e16]
      · simp [mm_up, e16]
      · simp [mm_up, e16]
    obtain ⟨K, hK, hK2⟩ : ∃ K : Nat → mm_K, (∀ t ls st M d u, K t ls st M d u → rr_X5_emptied Q t ls st M d u) ∧ (∀ t ls st M d u, rr_X5_emptied Q t ls st M d u → K t ls st M d u) := ⟨rr_X5_emptied Q, fun _ _ _ _ _ _ h => h, fun _ _ _ _ _ _ h => h⟩
    refine mm_run_at (stop := [12]) (S := K) kkX5_emptied 90 ?_ (fun _ _ _ _ _ _ _ h => hK _ _ _ _ _ _ h)
    repeat' (first | with_reducible assumption | with_reducible exact True.intro | with_reducible exact mm_i17 | with_reducible exact mm_i18 | with_reducible exact mm_i19 | with_reducible exact mm_i20 | with_reducible exact mm_i21 | with_reducible exact mm_i22 | ((with_reducible show mm_rv _ _ _ _ _); first | exact True.intro | exact mm_i17 | exact mm_i18 | exact mm_i19 | exact mm_i20 | exact mm_i21 | exact mm_i22) | ((with_reducible show mm_bool _ _); first | exact True.intro | exact Or.inl rfl | exact Or.inr rfl | (show (_ : Int) = 0 ∨ _ = 1)) | rfl | with_reducible exact Or.inl rfl | with_reducible exact Or.inr rfl | exact Nat.le_of_ble_eq_true rfl | refine And.intro ?_ ?_ | intro _)
    all_goals (try simp (disch := omega) only [InI, Int.toNat_natCast, Int.tmod_eq_emod_of_nonneg, Int.tdiv_eq_ediv_of_nonneg, true_implies, true_or, or_true, mm_l18, mm_l19, mm_l20, mm_l21, mm_l22] at *)
    all_goals first | omega | exact fin _ (((fX.rf.up (by omega)).up (by omega)).up (by omega)) (by rw [vX_u6, vX_u5, vX_u10]; rfl) (by simp [mm_up]) (by simp [mm_up]) | skip
  | succ j ih =>
    intro i M hi hx h00 hf h1
    obtain ⟨K, hK, hK2⟩ : ∃ K : Nat → mm_K, (∀ t ls st M d u, K t ls st M d u → rr_X5_emptied Q t ls st M d u) ∧ (∀ t ls st M d u, rr_X5_emptied Q t ls st M d u → K t ls st M d u) := ⟨rr_X5_emptied Q, fun _ _ _ _ _ _ h => h, fun _ _ _ _ _ _ h => h⟩
    have st : ∀ M', fX M M' → M' 17 0 = M 17 0 → vX M' = mm_up (mm_up (vX M) (8 + 2 * i) 2 0) (8 + 2 * i) 3 0 → K 7 [some (mm_R 17), some (mm_I ((i : Int) + 1))] [] M' d 0 := by
      intro M' g1 g0 g2
      refine hK2 _ _ _ _ _ _ (ih (i + 1) M' (by omega) (hx.tr g1) (by rw [g0, h00]) (by rw [g2]; exact (hf.up (by simp; omega)).up (by simp; omega)) (fun k hk => ?_))
      rw [g2]
      by_cases e : k = i
      · subst e
        simp [mm_up]
      · rw [mm_up_o _ (by omega), mm_up_o _ (by omega)]
        exact h1 k (by omega)
    refine mm_run_at (stop := [7, 32]) (S := K) kkX5_emptied 90 ?_ (fun _ _ _ _ _ _ _ h => hK _ _ _ _ _ _ h)
    repeat' (first | with_reducible assumption | with_reducible exact True.intro | with_reducible exact mm_i17 | with_reducible exact mm_i18 | with_reducible exact mm_i19 | with_reducible exact mm_i20 | with_reducible exact mm_i21 | with_reducible exact mm_i22 | ((with_reducible show mm_rv _ _ _ _ _); first | exact True.intro | exact mm_i17 | exact mm_i18 | exact mm_i19 | exact mm_i20 | exact mm_i21 | exact mm_i22) | ((with_reducible show mm_bool _ _); first | exact True.intro | exact Or.inl rfl | exact Or.inr rfl | (show (_ : Int) = 0 ∨ _ = 1)) | rfl | with_reducible exact Or.inl rfl | with_reducible exact Or.inr rfl | exact Nat.le_of_ble_eq_true rfl | refine And.intro ?_ ?_ | intro _)
    all_goals (try simp (disch := omega) only [InI, Int.toNat_natCast, Int.tmod_eq_emod_of_nonneg, Int.tdiv_eq_ediv_of_nonneg, true_implies, true_or, or_true, mm_l18, mm_l19, mm_l20, mm_l21, mm_l22] at *)
    all_goals first | omega | exact st _ ((fX.rf.up (by omega)).up (by omega)) (by rw [mm_up_ob (by omega), mm_up_ob (by omega)]) (by rw [vX_e22 (k := i) (by omega) rfl rfl, vX_e21 (k := i) (by omega) rfl rfl]) | skip
set_option maxRecDepth 20000 in
theorem rn_X5_emptied : mm_RN flX5 ct_X5_emptied mm_x0 [] 0 0 2 kdX5_emptied sp_X5_emptied := by
  intro av M d Q h
  unfold sp_X5_emptied at h
  split at h
  · rename_i o
    obtain ⟨rfl, hq⟩ := h
    obtain ⟨K, hK, hK2⟩ : ∃ K : Nat → mm_K, (∀ t ls st M d u, K t ls st M d u → rr_X5_emptied Q t ls st M d u) ∧ (∀ t ls st M d u, rr_X5_emptied Q t ls st M d u → K t ls st M d u) := ⟨rr_X5_emptied Q, fun _ _ _ _ _ _ h => h, fun _ _ _ _ _ _ h => h⟩
    have h8 := hK2 _ _ _ _ _ _ (lp_X5_emptied (d := d) (V := vX (mm_up M 17 1 0)) (M0 := M) vX_u1 hq 3 0 (mm_up M 17 1 0) (by omega) (fX.rf.up (by omega)) (by rw [mm_up_ob2 (by omega)]) fr.rf (fun k hk => by omega))
    refine ⟨Nat.le_of_ble_eq_true rfl, ?_⟩
    refine mm_run_at (stop := [7]) (S := K) kkX5_emptied 90 ?_ (fun _ _ _ _ _ _ _ h => hK _ _ _ _ _ _ h)
    repeat' (first | with_reducible assumption | with_reducible exact True.intro | with_reducible exact mm_i17 | with_reducible exact mm_i18 | with_reducible exact mm_i19 | with_reducible exact mm_i20 | with_reducible exact mm_i21 | with_reducible exact mm_i22 | ((with_reducible show mm_rv _ _ _ _ _); first | exact True.intro | exact mm_i17 | exact mm_i18 | exact mm_i19 | exact mm_i20 | exact mm_i21 | exact mm_i22) | ((with_reducible show mm_bool _ _); first | exact True.intro | exact Or.inl rfl | exact Or.inr rfl | (show (_ : Int) = 0 ∨ _ = 1)) | rfl | with_reducible exact Or.inl rfl | with_reducible exact Or.inr rfl | exact Nat.le_of_ble_eq_true rfl | refine And.intro ?_ ?_ | intro _)
    exact h8
  · exact h.elim
theorem me_X5_emptied {l : Launch} (hl : l.stackTraces = false) : mm_Met l yX5_emptied cX5_emptied 2 none [] 7 120 0 sp_X5_emptied := mm_mt hl rn_X5_emptied ⟨by decide, rfl⟩ kkX5_emptied rfl ⟨by decide, by decide⟩ flkX5 (fun _ h => nomatch h) (⟨mm_pe (me_X5_endWords hl) mwX5_endWords (mm_t6 126 rfl rfl) (Nat.le_of_ble_eq_true rfl) (Nat.le_of_ble_eq_true rfl), trivial⟩) (mm_xe0 _)
def sp_X5_start : mm_S := fun av M d Q => match av with
  | [.inr (.inr (.inl o)), .inl f, .inl k] =>  o = 17 ∧ (f = 0 ∨ f = 1) ∧ (1 ≤ k ∧ k ≤ 2) ∧ ∀ v, (f = 1 → v = k) → (f = 0 → v = 0) → Q (.inl (some (mm_I f))) (mm_up M 17 0 v) d
  | _ => False
def ct_X5_start : List (Nat × mm_Ca) := [(35, (0, 3, 14, sp_X5_refuse, 0))]
abbrev rr_X5_start (Q : mm_Q) := mm_run (mm_look flX5) (mm_look ct_X5_start) mm_x0 (mm_look ([] : List (Nat × Int))) (fun _ => none) 2 0 (fun _ _ => none) Q kdX5_start
set_option maxRecDepth 20000 in
theorem rn_X5_start : mm_RN flX5 ct_X5_start mm_x0 [] 2 0 3 kdX5_start sp_X5_start := by
  intro av M d Q h
  unfold sp_X5_start at h
  split at h
  · rename_i o f k
    obtain ⟨rfl, hf, hk, hq⟩ := h
    have e00 : mm_up M 17 0 0 17 0 = 0 := by simp [mm_up]
    have eu : mm_up (mm_up M 17 0 0) 17 0 k = mm_up M 17 0 k := by
      funext o j
      simp only [mm_up]
      split <;> simp_all
    have h0 : f = 0 → Q (.inl (some (mm_I f))) (mm_up M 17 0 0) d := fun h => hq 0 (by omega) (by omega)
    have h1 : f = 1 → Q (.inl (some (mm_I f))) (mm_up M 17 0 k) d := fun h => hq k (by omega) (by omega)
    have fin : ∀ M' r, M' = (if f = 1 ∧ mm_up M 17 0 0 17 0 = 0 then mm_up (mm_up M 17 0 0) 17 0 k else mm_up M 17 0 0) ∧ (0 < M' 17 0 → r = 1) ∧ (M' 17 0 ≤ 0 → r = 0) → (r = 0 ∨ r = 1) ∧ Q (.inl (some (mm_I r))) M' d := by
      intro M' r ⟨g1, g2, g3⟩
      rw [e00] at g1
      rcases hf with h | h
      · rw [if_neg (by omega)] at g1
        subst g1
        have := g3 (by rw [e00]; exact Int.le_refl _)
        subst this
        have := h0 h
        rw [h] at this
        exact ⟨Or.inl rfl, this⟩
      · rw [if_pos ⟨h, rfl⟩, eu] at g1
        subst g1
        have := g2 (by simp [mm_up]; omega)
        subst this
        have := h1 h
        rw [h] at this
        exact ⟨Or.inr rfl, this⟩
    obtain ⟨K, hK, hK2⟩ : ∃ K : Nat → mm_K, (∀ t ls st M d u, K t ls st M d u → rr_X5_start Q t ls st M d u) ∧ (∀ t ls st M d u, rr_X5_start Q t ls st M d u → K t ls st M d u) := ⟨rr_X5_start Q, fun _ _ _ _ _ _ h => h, fun _ _ _ _ _ _ h => h⟩
    refine ⟨Nat.le_of_ble_eq_true rfl, mm_run_at (stop := []) (S := K) kkX5_start 90 ?_ (fun _ _ _ _ _ _ _ h => hK _ _ _ _ _ _ h)⟩
    refine mm_a2 (by exact mm_i17) (mm_c5 rfl (Nat.le_of_ble_eq_true rfl) (by exact mm_i17) (Nat.le_of_ble_eq_true rfl) (Nat.le_of_ble_eq_true rfl) (mm_a5 rfl hf (by rw [e00]; exact ⟨by omega, by omega⟩) ⟨by omega, by omega⟩ (fun M' r hr => mm_a3 (fin M' r hr).1 (Nat.le_refl _) (fin M' r hr).2)))
  · exact h.elim
theorem me_X5_start {l : Launch} (hl : l.stackTraces = false) : mm_Met l yX5_start cX5_start 3 (some .boolean) [] 7 122 0 sp_X5_start := mm_mt hl rn_X5_start ⟨by decide, rfl⟩ kkX5_start rfl ⟨by decide, by decide⟩ flkX5 (fun _ h => nomatch h) (⟨mm_pe (me_X5_refuse hl) mwX5_refuse (mm_t6 114 rfl rfl) (Nat.le_of_ble_eq_true rfl) (Nat.le_of_ble_eq_true rfl), trivial⟩) (mm_xe0 _)

