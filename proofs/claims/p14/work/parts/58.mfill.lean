/-! the model's walks: filling in ORDER -/
theorem clr_sub {S : Int} {s n : Nat} (hS : 0 ≤ S ∧ S < 1073741824) (hs : s < 30) (h : ∀ k, bt S k = 1 → k < n) : ∀ k, bt (clr S s) k = 1 → k < n := fun k hk => by
  have hc := clr_spec (s := s) hS hs
  by_cases h32 : k < 32
  · rw [hc.2 k h32] at hk
    by_cases e : k = s
    · rw [if_pos e] at hk; omega
    · rw [if_neg e] at hk; exact h k hk
  · rw [bt_hi30 hc.1 (by omega)] at hk
    omega
theorem nwk_sub {V : mm_M} {w : Nat} {n : Nat} (ht : tW V) (hv : wV V w) (hn : V 2 4 = n) : ∀ k, bt (nwk V w (V w 2).toNat) k = 1 → k < n := fun k hk => by
  have v1 := hv.1
  have hb := nwk_b ht hv (V w 2).toNat (by omega)
  by_cases h32 : k < 32
  · have := ((nwk_bt ht hv h32 (V w 2).toNat (by omega)).mp hk).1
    omega
  · rw [bt_hi30 hb (by omega)] at hk
    omega
/-- the model's rest is the class's -/
theorem rest_eq {V : mm_M} {w : Nat} {all set : Int} {n : Nat} (ht : tW V) (hv : wV V w) (hn : V 2 4 = n) (hall : all = 2 ^ n - 1 ∧ 0 ≤ all ∧ all < 1073741824) (hs : 0 ≤ set ∧ set < 1073741824) (hset : ∀ s : Nat, bt set s = 1 ↔ ∃ i : Nat, i < V w 2 ∧ V (w + 1) i / 2 = s) : mm_and all (mm_xor set (-1)) = nwk V w (V w 2).toNat := by
  have v1 := hv.1
  have t1 := ht.1
  have hb := nwk_b ht hv (V w 2).toNat (by omega)
  obtain ⟨h1, h2⟩ := mm_andn_bt (a := all) (b := set) ⟨hall.2.1, by omega⟩ ⟨hs.1, by omega⟩
  have hle : mm_and all (mm_xor set (-1)) ≤ all := bt_sub_le h1.1 hall.2.1 (fun k hk => by
    by_cases h32 : k < 32
    · rw [h2 k h32] at hk
      rcases bt_01 all k with e | e <;> rcases bt_01 set k with e2 | e2 <;> rw [e, e2] at hk <;> omega
    · exfalso
      obtain ⟨m, hm⟩ := Int.eq_ofNat_of_zero_le h1.1
      rw [hm, bt_nat, Nat.testBit_lt_two_pow (Nat.lt_of_lt_of_le (by omega : m < 2 ^ 31) (Nat.pow_le_pow_right (by decide) (by omega)))] at hk
      simp at hk)
  refine bt_ext ⟨h1.1, by omega⟩ hb (fun k hk => ?_)
  rw [h2 k (by omega), hall.1, bt_all]
  by_cases hkn : k < n
  · have := nwk_set ht hv hn hset k hkn
    rw [if_pos hkn]
    omega
  · rw [if_neg hkn]
    have h3 := nwk_sub ht hv hn k
    have h4 := bt_01 (nwk V w (V w 2).toNat) k
    have : ¬ bt (nwk V w (V w 2).toNat) k = 1 := fun z => hkn (h3 z)
    omega
theorem vX_set {M : mm_M} {k : Nat} {set : Int} (hk : k < 4) (hv : mV M k) (h : ∀ s : Nat, bt set s = 1 ↔ ∃ i : Nat, i < M 21 k ∧ M 20 (30 * k + i) / 2 = s) : ∀ s : Nat, bt set s = 1 ↔ ∃ i : Nat, i < vX M (8 + 2 * k) 2 ∧ vX M (8 + 2 * k + 1) i / 2 = s := by
  have v1 := hv.1
  intro s
  rw [h s, vX_n hk]
  constructor
  · rintro ⟨i, h1, h2⟩
    exact ⟨i, h1, by rw [vX_i hk (by omega)]; exact h2⟩
  · rintro ⟨i, h1, h2⟩
    exact ⟨i, h1, by rw [vX_i hk (by omega)] at h2; exact h2⟩
theorem at_X5_fitting_0 : mm_at 0 kdX5_fitting = [(0, .aload_n 0, 0), (1, .invokevirtual 79, 0), (4, .aload_n 0, 0), (5, .iload_n 1, 0), (6, .invokevirtual 111, 0), (9, .iconst (-1), 0), (10, .ixor, 0), (11, .iand, 0), (12, .istore 4, 0), (14, .iload_n 2, 0), (15, .istore 5, 0), (17, .iload 5, 0), (19, .ifCond .lt 87, 106), (22, .iload 5, 0), (24, .aload_n 0, 0), (25, .getfield 49, 0), (28, .if_icmp .ge 78, 106), (31, .iload 4, 0), (33, .iload 5, 0), (35, .invokestatic 52, 0), (38, .ifCond .eq 17, 55), (41, .aload_n 0, 0), (42, .iload 5, 0), (44, .aload_n 0, 0), (45, .iload_n 1, 0), (46, .invokevirtual 108, 0), (49, .invokevirtual 124, 0), (52, .goto 4, 56), (55, .iconst (-1), 0), (56, .istore 6, 0), (58, .iload 6, 0), (60, .iconst (-1), 0), (61, .if_icmp .eq 28, 89), (64, .aload_n 0, 0), (65, .iload 4, 0), (67, .iconst 1, 0), (68, .iload 5, 0), (70, .ishl, 0), (71, .iconst (-1), 0), (72, .ixor, 0), (73, .iand, 0), (74, .aload_n 0, 0), (75, .iload 6, 0), (77, .invokevirtual 102, 0), (80, .invokevirtual 83, 0), (83, .ifCond .eq 6, 89), (86, .iload 6, 0), (88, .ireturn, 0), (89, .iload 5, 0), (91, .iload_n 3, 0), (92, .ifCond .eq 7, 99), (95, .iconst 1, 0), (96, .goto 4, 100), (99, .iconst (-1), 0), (100, .iadd, 0), (101, .istore 5, 0), (103, .goto (-86), 17), (106, .iconst (-1), 0), (107, .ireturn, 0)] := rfl
theorem at_X5_fitting_17 : mm_at 17 kdX5_fitting = [(17, .iload 5, 0), (19, .ifCond .lt 87, 106), (22, .iload 5, 0), (24, .aload_n 0, 0), (25, .getfield 49, 0), (28, .if_icmp .ge 78, 106), (31, .iload 4, 0), (33, .iload 5, 0), (35, .invokestatic 52, 0), (38, .ifCond .eq 17, 55), (41, .aload_n 0, 0), (42, .iload 5, 0), (44, .aload_n 0, 0), (45, .iload_n 1, 0), (46, .invokevirtual 108, 0), (49, .invokevirtual 124, 0), (52, .goto 4, 56), (55, .iconst (-1), 0), (56, .istore 6, 0), (58, .iload 6, 0), (60, .iconst (-1), 0), (61, .if_icmp .eq 28, 89), (64, .aload_n 0, 0), (65, .iload 4, 0), (67, .iconst 1, 0), (68, .iload 5, 0), (70, .ishl, 0), (71, .iconst (-1), 0), (72, .ixor, 0), (73, .iand, 0), (74, .aload_n 0, 0), (75, .iload 6, 0), (77, .invokevirtual 102, 0), (80, .invokevirtual 83, 0), (83, .ifCond .eq 6, 89), (86, .iload 6, 0), (88, .ireturn, 0), (89, .iload 5, 0), (91, .iload_n 3, 0), (92, .ifCond .eq 7, 99), (95, .iconst 1, 0), (96, .goto 4, 100), (99, .iconst (-1), 0), (100, .iadd, 0), (101, .istore 5, 0), (103, .goto (-86), 17), (106, .iconst (-1), 0), (107, .ireturn, 0)] := rfl
theorem at_X5_fitting_55 : mm_at 55 kdX5_fitting = [(55, .iconst (-1), 0), (56, .istore 6, 0), (58, .iload 6, 0), (60, .iconst (-1), 0), (61, .if_icmp .eq 28, 89), (64, .aload_n 0, 0), (65, .iload 4, 0), (67, .iconst 1, 0), (68, .iload 5, 0), (70, .ishl, 0), (71, .iconst (-1), 0), (72, .ixor, 0), (73, .iand, 0), (74, .aload_n 0, 0), (75, .iload 6, 0), (77, .invokevirtual 102, 0), (80, .invokevirtual 83, 0), (83, .ifCond .eq 6, 89), (86, .iload 6, 0), (88, .ireturn, 0), (89, .iload 5, 0), (91, .iload_n 3, 0), (92, .ifCond .eq 7, 99), (95, .iconst 1, 0), (96, .goto 4, 100), (99, .iconst (-1), 0), (100, .iadd, 0), (101, .istore 5, 0), (103, .goto (-86), 17), (106, .iconst (-1), 0), (107, .ireturn, 0)] := rfl
theorem at_X5_fitting_56 : mm_at 56 kdX5_fitting = [(56, .istore 6, 0), (58, .iload 6, 0), (60, .iconst (-1), 0), (61, .if_icmp .eq 28, 89), (64, .aload_n 0, 0), (65, .iload 4, 0), (67, .iconst 1, 0), (68, .iload 5, 0), (70, .ishl, 0), (71, .iconst (-1), 0), (72, .ixor, 0), (73, .iand, 0), (74, .aload_n 0, 0), (75, .iload 6, 0), (77, .invokevirtual 102, 0), (80, .invokevirtual 83, 0), (83, .ifCond .eq 6, 89), (86, .iload 6, 0), (88, .ireturn, 0), (89, .iload 5, 0), (91, .iload_n 3, 0), (92, .ifCond .eq 7, 99), (95, .iconst 1, 0), (96, .goto 4, 100), (99, .iconst (-1), 0), (100, .iadd, 0), (101, .istore 5, 0), (103, .goto (-86), 17), (106, .iconst (-1), 0), (107, .ireturn, 0)] := rfl
theorem at_X5_fitting_89 : mm_at 89 kdX5_fitting = [(89, .iload 5, 0), (91, .iload_n 3, 0), (92, .ifCond .eq 7, 99), (95, .iconst 1, 0), (96, .goto 4, 100), (99, .iconst (-1), 0), (100, .iadd, 0), (101, .istore 5, 0), (103, .goto (-86), 17), (106, .iconst (-1), 0), (107, .ireturn, 0)] := rfl
theorem at_X5_fitting_99 : mm_at 99 kdX5_fitting = [(99, .iconst (-1), 0), (100, .iadd, 0), (101, .istore 5, 0), (103, .goto (-86), 17), (106, .iconst (-1), 0), (107, .ireturn, 0)] := rfl
theorem at_X5_fitting_100 : mm_at 100 kdX5_fitting = [(100, .iadd, 0), (101, .istore 5, 0), (103, .goto (-86), 17), (106, .iconst (-1), 0), (107, .ireturn, 0)] := rfl
theorem at_X5_fitting_106 : mm_at 106 kdX5_fitting = [(106, .iconst (-1), 0), (107, .ireturn, 0)] := rfl
def sp_X5_fitting : mm_S := fun av M d Q => match av with
  | [.inr (.inr (.inl o)), .inl k, .inl f, .inl up] =>  o = 17 ∧ tX M ∧ (0 ≤ k ∧ k < 4) ∧ mV M k.toNat ∧ ((up = 0 ∧ -1 ≤ f ∧ f < M 17 1) ∨ (up = 1 ∧ 0 ≤ f ∧ f ≤ M 17 1)) ∧ ∀ r, (whR (vX M) (nwk (vX M) (8 + 2 * k.toNat) (M 21 k.toNat).toNat) (cor (vX M) (8 + 2 * k.toNat) (M 21 k.toNat)) (if up = 1 then f - 1 else f + 1) up r ∧ -1 ≤ r ∧ r < 2 * M 17 1 ∧ (0 ≤ r → bt (nwk (vX M) (8 + 2 * k.toNat) (M 21 k.toNat).toNat) (r / 2).toNat = 1)) → Q (.inl (some (mm_I r))) M d
  | _ => False
def ct_X5_fitting : List (Nat × mm_Ca) := [(79, (0, 1, 14, sp_X5_all, 0)), (111, (0, 2, 14, sp_X5_setOf, 0)), (52, (1, 2, 0, sp_X5_has, 0)), (108, (0, 2, 14, sp_X5_endOf, 0)), (124, (0, 3, 14, sp_X5_leaving, 0)), (102, (0, 2, 14, sp_X5_comesTo, 0)), (83, (0, 3, 14, sp_X5_isStartOf, 0))]
abbrev rr_X5_fitting (Q : mm_Q) := mm_run (mm_look flX5) (mm_look ct_X5_fitting) mm_x0 (mm_look ([] : List (Nat × Int))) (fun _ => none) 1 0 (fun _ _ => none) Q kdX5_fitting
set_option maxRecDepth 20000 in
theorem lp_X5_fitting {M : mm_M} {d : List Nat} {Q : mm_Q} {f up b S c : Int} {k n : Nat} (hk : k < 4) (ht : tX M) (hv : mV M k) (hn : M 17 1 = n) (hu : (up = 0 ∧ b = f + 1) ∨ (up = 1 ∧ b = f - 1)) (hS : S = nwk (vX M) (8 + 2 * k) (M 21 k).toNat) (hc : c = cor (vX M) (8 + 2 * k) (vX M (8 + 2 * k) 2)) (hq : ∀ r, (whR (vX M) S c b up r ∧ -1 ≤ r ∧ r < 2 * M 17 1 ∧ (0 ≤ r → bt S (r / 2).toNat = 1)) → Q (.inl (some (mm_I r))) M d) : ∀ (j : Nat) (i : Int) (x6 : Option mm_V), (up = 1 → n ≤ i + j) → (up = 0 → i + 1 ≤ j) → (-1 ≤ i ∧ i ≤ n) → (up = 1 → 0 ≤ i) → (up = 0 → i < n) → (up = 1 → b < i) → (up = 0 → i < b) → (∀ s' : Nat, s' < n → (up = 1 → b < s' ∧ s' < i) → (up = 0 → s' < b ∧ i < s') → ¬ whS (vX M) S c s') → rr_X5_fitting Q 17 [some (mm_R 17), some (mm_I k), some (mm_I f), some (mm_I up), some (mm_I S), some (mm_I i), x6] [] M d 0 := by
  have t1 := ht.1
  have hwv := (mV_i hk).mp hv
  have en := vX_n (M := M) hk
  have e24 : (vX M 2 4).toNat = n := by rw [vX_24]; omega
  have hb0 := nwk_b (M := vX M) (w := 8 + 2 * k) ht hwv (M 21 k).toNat (by have := hv.1; rw [en]; omega)
  rw [← hS] at hb0
  have hsub : ∀ k, bt S k = 1 → k < (M 17 1).toNat := by
    have := nwk_sub (V := vX M) (w := 8 + 2 * k) (n := n) ht hwv (by rw [vX_24]; exact hn)
    rw [en, ← hS] at this
    intro k hk
    have := this k hk
    omega
  have h9 : ∀ i : Int, (∀ s' : Nat, s' < n → (up = 1 → b < s' ∧ s' < i) → (up = 0 → s' < b ∧ i < s') → ¬ whS (vX M) S c s') → (up = 1 → n ≤ i) → (up = 0 → i < 0) → Q (.inl (some (mm_I (-1)))) M d := fun i hv a1 a0 => hq (-1) ⟨Or.inl ⟨rfl, fun s hs b1 b0 => hv s (by omega) (fun e => ⟨b1 e, by omega⟩) (fun e => ⟨b0 e, by omega⟩)⟩, by omega, by omega, by omega⟩
  intro j
  induction j with
  | zero =>
    intro i x6 h1 h0 hi g3 g4 g1 g0 hN
    have h9 := h9 i hN (by omega) (by omega)
    obtain ⟨K, hK, hK2⟩ : ∃ K : Nat → mm_K, (∀ t ls st M d u, K t ls st M d u → rr_X5_fitting Q t ls st M d u) ∧ (∀ t ls st M d u, rr_X5_fitting Q t ls st M d u → K t ls st M d u) := ⟨rr_X5_fitting Q, fun _ _ _ _ _ _ h => h, fun _ _ _ _ _ _ h => h⟩
    refine mm_run_at (stop := [31]) (S := K) kkX5_fitting 90 ?_ (fun _ _ _ _ _ _ _ h => hK _ _ _ _ _ _ h)
    repeat' (first | with_reducible assumption | with_reducible exact mm_i17 | with_reducible exact mm_i18 | with_reducible exact mm_i19 | with_reducible exact mm_i20 | with_reducible exact mm_i21 | with_reducible exact mm_i22 | ((with_reducible show mm_rv _ _ _ _ _); first | exact True.intro | exact mm_i17 | exact mm_i18 | exact mm_i19 | exact mm_i20 | exact mm_i21 | exact mm_i22) | ((with_reducible show mm_bool _ _); first | exact True.intro | exact Or.inl rfl | exact Or.inr rfl | (show (_ : Int) = 0 ∨ _ = 1)) | refine And.intro ?_ ?_ | intro _ | with_reducible exact True.intro | exact rfl | with_reducible exact Or.inl rfl | with_reducible exact Or.inr rfl | exact Nat.le_of_ble_eq_true rfl)
    all_goals (try simp (disch := omega) only [InI, Int.toNat_natCast, Int.tmod_eq_emod_of_nonneg, Int.tdiv_eq_ediv_of_nonneg, true_implies, true_or, or_true, mm_l18, mm_l19, mm_l20, mm_l21, mm_l22] at *)
    all_goals first | omega | exact h9 | skip
  | succ j ih =>
    intro i x6 h1 h0 hi g3 g4 g1 g0 hN
    by_cases hi0 : 0 ≤ i ∧ i < n
    · obtain ⟨s, rfl⟩ := Int.eq_ofNat_of_zero_le hi0.1
      have hbs := bt_01 S s
      have hcl := clr_spec (S := S) (s := s) hb0 (by omega)
      have hcs := clr_sub (S := S) (s := s) hb0 (by omega) hsub
      obtain ⟨K, hK, hK2⟩ : ∃ K : Nat → mm_K, (∀ t ls st M d u, K t ls st M d u → rr_X5_fitting Q t ls st M d u) ∧ (∀ t ls st M d u, rr_X5_fitting Q t ls st M d u → K t ls st M d u) := ⟨rr_X5_fitting Q, fun _ _ _ _ _ _ h => h, fun _ _ _ _ _ _ h => h⟩
      have k89 : ∀ x6, ¬ whS (vX M) S c s → K 89 [some (mm_R 17), some (mm_I k), some (mm_I f), some (mm_I up), some (mm_I S), some (mm_I s), x6] [] M d 0 := by
        intro x6 hw
        have nxt : ∀ w : Int, (up = 1 → w = 1) → (up = 0 → w = -1) → K 17 [some (mm_R 17), some (mm_I k), some (mm_I f), some (mm_I up), some (mm_I S), some (mm_I ((s : Int) + w)), x6] [] M d 0 := fun w w1 w0 => hK2 _ _ _ _ _ _ (ih (s + w) x6 (by omega) (by omega) (by omega) (by omega) (by omega) (by omega) (by omega) (fun s' hs' a b => by
          by_cases e : s' = s
          · subst e; exact hw
          · exact hN s' hs' (by omega) (by omega)))
        refine hK2 _ _ _ _ _ _ ?_
        refine mm_run_at (stop := [17]) (S := K) kkX5_fitting 90 ?_ (fun _ _ _ _ _ _ _ h => hK _ _ _ _ _ _ h)
        repeat' (first | with_reducible assumption | with_reducible exact mm_i17 | with_reducible exact mm_i18 | with_reducible exact mm_i19 | with_reducible exact mm_i20 | with_reducible exact mm_i21 | with_reducible exact mm_i22 | ((with_reducible show mm_rv _ _ _ _ _); first | exact True.intro | exact mm_i17 | exact mm_i18 | exact mm_i19 | exact mm_i20 | exact mm_i21 | exact mm_i22) | ((with_reducible show mm_bool _ _); first | exact True.intro | exact Or.inl rfl | exact Or.inr rfl | (show (_ : Int) = 0 ∨ _ = 1)) | refine And.intro ?_ ?_ | intro _ | with_reducible exact True.intro | exact rfl | with_reducible exact Or.inl rfl | with_reducible exact Or.inr rfl | exact Nat.le_of_ble_eq_true rfl)
        all_goals (try simp (disch := omega) only [InI, Int.toNat_natCast, Int.tmod_eq_emod_of_nonneg, Int.tdiv_eq_ediv_of_nonneg, true_implies, true_or, or_true, mm_l18, mm_l19, mm_l20, mm_l21, mm_l22] at *)
        all_goals first | omega | exact nxt 1 (by omega) (by omega) | exact nxt (-1) (by omega) (by omega) | skip
      have k83 : ∀ ce r2 g r3, (ce = cor (vX M) (8 + 2 * k) (vX M (8 + 2 * k) 2) ∧ 0 ≤ ce ∧ ce < 10) → (r2 = lvX M s ce ∧ -1 ≤ r2 ∧ r2 < 2 * M 17 1 ∧ (0 ≤ r2 → r2 / 2 = s)) → r2 ≠ -1 → (g = glX M r2 ∧ 0 ≤ g ∧ g < 10) → ((ST (M 18) (M 19) (M 17 1).toNat (M 17 4) (mm_and S (mm_xor (1 * 2 ^ s) (-1))) g → r3 = 1) ∧ (¬ ST (M 18) (M 19) (M 17 1).toNat (M 17 4) (mm_and S (mm_xor (1 * 2 ^ s) (-1))) g → r3 = 0)) → bt S s = 1 → K 83 [some (mm_R 17), some (mm_I k), some (mm_I f), some (mm_I up), some (mm_I S), some (mm_I s), some (mm_I r2)] [mm_I r3] M d 0 := by
        intro ce r2 g r3 q1 q2 q3 q4 q5 q6
        have e1 : lv (vX M) s c = r2 := by rw [hc, ← q1.1, q2.1]; rfl
        have e2 : whS (vX M) S c s ↔ ST (M 18) (M 19) (M 17 1).toNat (M 17 4) (clr S s) g := by
          unfold whS
          rw [e1, q4.1]
          exact ⟨fun h => h.2.2, fun h => ⟨q6, by omega, h⟩⟩
        rcases Classical.em (ST (M 18) (M 19) (M 17 1).toNat (M 17 4) (clr S s) g) with h | h
        · have e3 := q5.1 h
          subst e3
          have hf := q2.2.2.2 (by omega)
          have h9 := hq r2 ⟨Or.inr ⟨s, by omega, by omega, by omega, e2.mpr h, e1.symm, by omega, fun s' hs' a b => hN s' (by omega) (by omega) (by omega)⟩, q2.2.1, q2.2.2.1, fun _ => by rw [hf, Int.toNat_natCast]; exact q6⟩
          refine hK2 _ _ _ _ _ _ ?_
          refine mm_run_at (stop := [89]) (S := K) kkX5_fitting 90 ?_ (fun _ _ _ _ _ _ _ h => hK _ _ _ _ _ _ h)
          repeat' (first | with_reducible assumption | with_reducible exact mm_i17 | with_reducible exact mm_i18 | with_reducible exact mm_i19 | with_reducible exact mm_i20 | with_reducible exact mm_i21 | with_reducible exact mm_i22 | ((with_reducible show mm_rv _ _ _ _ _); first | exact True.intro | exact mm_i17 | exact mm_i18 | exact mm_i19 | exact mm_i20 | exact mm_i21 | exact mm_i22) | ((with_reducible show mm_bool _ _); first | exact True.intro | exact Or.inl rfl | exact Or.inr rfl | (show (_ : Int) = 0 ∨ _ = 1)) | refine And.intro ?_ ?_ | intro _ | with_reducible exact True.intro | exact rfl | with_reducible exact Or.inl rfl | with_reducible exact Or.inr rfl | exact Nat.le_of_ble_eq_true rfl)
          all_goals (try simp (disch := omega) only [InI, Int.toNat_natCast, Int.tmod_eq_emod_of_nonneg, Int.tdiv_eq_ediv_of_nonneg, true_implies, true_or, or_true, mm_l18, mm_l19, mm_l20, mm_l21, mm_l22] at *)
          all_goals first | omega | exact h9 | skip
        · have e3 := q5.2 h
          subst e3
          have h89 := k89 (some (mm_I r2)) (fun z => h (e2.mp z))
          refine hK2 _ _ _ _ _ _ ?_
          refine mm_run_at (stop := [89]) (S := K) kkX5_fitting 90 ?_ (fun _ _ _ _ _ _ _ h => hK _ _ _ _ _ _ h)
          repeat' (first | with_reducible assumption | with_reducible exact mm_i17 | with_reducible exact mm_i18 | with_reducible exact mm_i19 | with_reducible exact mm_i20 | with_reducible exact mm_i21 | with_reducible exact mm_i22 | ((with_reducible show mm_rv _ _ _ _ _); first | exact True.intro | exact mm_i17 | exact mm_i18 | exact mm_i19 | exact mm_i20 | exact mm_i21 | exact mm_i22) | ((with_reducible show mm_bool _ _); first | exact True.intro | exact Or.inl rfl | exact Or.inr rfl | (show (_ : Int) = 0 ∨ _ = 1)) | refine And.intro ?_ ?_ | intro _ | with_reducible exact True.intro | exact rfl | with_reducible exact Or.inl rfl | with_reducible exact Or.inr rfl | exact Nat.le_of_ble_eq_true rfl)
          all_goals (try simp (disch := omega) only [InI, Int.toNat_natCast, Int.tmod_eq_emod_of_nonneg, Int.tdiv_eq_ediv_of_nonneg, true_implies, true_or, or_true, mm_l18, mm_l19, mm_l20, mm_l21, mm_l22] at *)
          all_goals first | omega | exact h89 | skip
      have n1 : bt S s = 0 → ¬ whS (vX M) S c s := fun h z => by have := z.1; omega
      have n2 : ∀ ce, (ce = cor (vX M) (8 + 2 * k) (vX M (8 + 2 * k) 2) ∧ 0 ≤ ce ∧ ce < 10) → ∀ r2, (r2 = lvX M s ce ∧ -1 ≤ r2 ∧ r2 < 2 * M 17 1 ∧ (0 ≤ r2 → r2 / 2 = s)) → r2 = -1 → ¬ whS (vX M) S c s := fun ce q1 r2 q2 e z => by
        have := z.2.1
        rw [hc, ← q1.1, ← lv_v, ← q2.1] at this
        omega
      have hcl1 := hcl.1
      unfold clr at hcl1 hcs
      refine mm_run_at (stop := [83, 89, 106]) (S := K) kkX5_fitting 90 ?_ (fun _ _ _ _ _ _ _ h => hK _ _ _ _ _ _ h)
      repeat' (first | with_reducible assumption | with_reducible exact mm_i17 | with_reducible exact mm_i18 | with_reducible exact mm_i19 | with_reducible exact mm_i20 | with_reducible exact mm_i21 | with_reducible exact mm_i22 | ((with_reducible show mm_rv _ _ _ _ _); first | exact True.intro | exact mm_i17 | exact mm_i18 | exact mm_i19 | exact mm_i20 | exact mm_i21 | exact mm_i22 | ((with_reducible show mV _ _); exact hv)) | ((with_reducible show mV _ _); exact hv) | ((with_reducible show mm_bool _ _); first | exact True.intro | exact Or.inl rfl | exact Or.inr rfl | (show (_ : Int) = 0 ∨ _ = 1)) | refine And.intro ?_ ?_ | intro _ | with_reducible exact True.intro | exact rfl | with_reducible exact Or.inl rfl | with_reducible exact Or.inr rfl | exact Nat.le_of_ble_eq_true rfl)
      all_goals (try simp (disch := omega) only [InI, Int.toNat_natCast, Int.tmod_eq_emod_of_nonneg, Int.tdiv_eq_ediv_of_nonneg, true_implies, true_or, or_true, mm_l18, mm_l19, mm_l20, mm_l21, mm_l22] at *)
      all_goals first | omega | exact k83 _ _ _ _ (by assumption) (by assumption) (by omega) (by assumption) (by assumption) (by omega) | exact k89 _ (n1 (by omega)) | exact k89 _ (n2 _ (by assumption) _ (by assumption) (by omega)) | exact hcs _ (by assumption) | skip
    · have h9 := h9 i hN (by omega) (by omega)
      obtain ⟨K, hK, hK2⟩ : ∃ K : Nat → mm_K, (∀ t ls st M d u, K t ls st M d u → rr_X5_fitting Q t ls st M d u) ∧ (∀ t ls st M d u, rr_X5_fitting Q t ls st M d u → K t ls st M d u) := ⟨rr_X5_fitting Q, fun _ _ _ _ _ _ h => h, fun _ _ _ _ _ _ h => h⟩
      refine mm_run_at (stop := [31]) (S := K) kkX5_fitting 90 ?_ (fun _ _ _ _ _ _ _ h => hK _ _ _ _ _ _ h)
      repeat' (first | with_reducible assumption | with_reducible exact mm_i17 | with_reducible exact mm_i18 | with_reducible exact mm_i19 | with_reducible exact mm_i20 | with_reducible exact mm_i21 | with_reducible exact mm_i22 | ((with_reducible show mm_rv _ _ _ _ _); first | exact True.intro | exact mm_i17 | exact mm_i18 | exact mm_i19 | exact mm_i20 | exact mm_i21 | exact mm_i22) | ((with_reducible show mm_bool _ _); first | exact True.intro | exact Or.inl rfl | exact Or.inr rfl | (show (_ : Int) = 0 ∨ _ = 1)) | refine And.intro ?_ ?_ | intro _ | with_reducible exact True.intro | exact rfl | with_reducible exact Or.inl rfl | with_reducible exact Or.inr rfl | exact Nat.le_of_ble_eq_true rfl)
      all_goals (try simp (disch := omega) only [InI, Int.toNat_natCast, Int.tmod_eq_emod_of_nonneg, Int.tdiv_eq_ediv_of_nonneg, true_implies, true_or, or_true, mm_l18, mm_l19, mm_l20, mm_l21, mm_l22] at *)
      all_goals first | omega | exact h9 | skip
set_option maxRecDepth 20000 in
theorem rn_X5_fitting : mm_RN flX5 ct_X5_fitting mm_x0 [] 1 0 7 kdX5_fitting sp_X5_fitting := by
  intro av M d Q h
  unfold sp_X5_fitting at h
  split at h
  · rename_i o k f up
    obtain ⟨rfl, ht, hk, hv, hf, hq⟩ := h
    have hu : up = 0 ∨ up = 1 := by omega
    have t1 := ht.1
    have v1 := hv.1
    obtain ⟨k, rfl⟩ := Int.eq_ofNat_of_zero_le hk.1
    obtain ⟨n, hn⟩ := Int.eq_ofNat_of_zero_le t1.1
    simp only [Int.toNat_natCast] at *
    have hk4 : k < 4 := by omega
    have hwv := (mV_i hk4).mp hv
    have en := vX_n (M := M) hk4
    obtain ⟨K, hK, hK2⟩ : ∃ K : Nat → mm_K, (∀ t ls st M d u, K t ls st M d u → rr_X5_fitting Q t ls st M d u) ∧ (∀ t ls st M d u, rr_X5_fitting Q t ls st M d u → K t ls st M d u) := ⟨rr_X5_fitting Q, fun _ _ _ _ _ _ h => h, fun _ _ _ _ _ _ h => h⟩
    have k17 : ∀ all set, (all = 2 ^ (M 17 1).toNat - 1 ∧ 0 ≤ all ∧ all < 1073741824) → ((0 ≤ set ∧ set < 1073741824) ∧ (∀ s : Nat, bt set s = 1 ↔ ∃ i : Nat, i < M 21 k ∧ M 20 (30 * k + i) / 2 = s)) → K 17 [some (mm_R 17), some (mm_I k), some (mm_I f), some (mm_I up), some (mm_I (mm_and all (mm_xor set (-1)))), some (mm_I f), none] [] M d 0 := by
      intro all set ha ⟨s1, s2⟩
      have e := rest_eq (V := vX M) (w := 8 + 2 * k) (all := all) (set := set) (n := n) ht hwv (by rw [vX_24]; exact hn) (by rw [show n = (M 17 1).toNat by omega]; exact ha) s1 (vX_set hk4 hv s2)
      rw [e]
      rcases hu with hu | hu
      · exact hK2 _ _ _ _ _ _ (lp_X5_fitting (b := f + 1) hk4 ht hv hn (Or.inl ⟨hu, rfl⟩) (by rw [en]) (by rw [en]) (fun r hr => hq r (by rw [if_neg (by omega)]; rw [en] at hr; exact hr)) 32 f none (by omega) (by omega) (by omega) (by omega) (by omega) (by omega) (by omega) (fun s' hs' a b => by omega))
      · exact hK2 _ _ _ _ _ _ (lp_X5_fitting (b := f - 1) hk4 ht hv hn (Or.inr ⟨hu, rfl⟩) (by rw [en]) (by rw [en]) (fun r hr => hq r (by rw [if_pos hu]; rw [en] at hr; exact hr)) 32 f none (by omega) (by omega) (by omega) (by omega) (by omega) (by omega) (by omega) (fun s' hs' a b => by omega))
    refine ⟨Nat.le_of_ble_eq_true rfl, ?_⟩
    refine mm_run_at (stop := [17]) (S := K) kkX5_fitting 90 ?_ (fun _ _ _ _ _ _ _ h => hK _ _ _ _ _ _ h)
    repeat' (first | with_reducible assumption | with_reducible exact mm_i17 | with_reducible exact mm_i18 | with_reducible exact mm_i19 | with_reducible exact mm_i20 | with_reducible exact mm_i21 | with_reducible exact mm_i22 | ((with_reducible show mm_rv _ _ _ _ _); first | exact True.intro | exact mm_i17 | exact mm_i18 | exact mm_i19 | exact mm_i20 | exact mm_i21 | exact mm_i22 | ((with_reducible show mV _ _); exact hv)) | ((with_reducible show mV _ _); exact hv) | ((with_reducible show mm_bool _ _); first | exact True.intro | exact Or.inl rfl | exact Or.inr rfl | (show (_ : Int) = 0 ∨ _ = 1)) | refine And.intro ?_ ?_ | intro _ | with_reducible exact True.intro | exact rfl | with_reducible exact Or.inl rfl | with_reducible exact Or.inr rfl | exact Nat.le_of_ble_eq_true rfl)
    all_goals (try simp (disch := omega) only [InI, Int.toNat_natCast, Int.tmod_eq_emod_of_nonneg, Int.tdiv_eq_ediv_of_nonneg, true_implies, true_or, or_true, mm_l18, mm_l19, mm_l20, mm_l21, mm_l22] at *)
    all_goals first | omega | exact k17 _ _ (by assumption) (by assumption) | skip
  · exact h.elim
theorem me_X5_fitting {l : Launch} (hl : l.stackTraces = false) : mm_Met l yX5_fitting cX5_fitting 7 (some .int) [] 11 215 0 sp_X5_fitting := mm_mt hl rn_X5_fitting ⟨plX5, rfl⟩ kkX5_fitting rfl ⟨Nat.le_of_ble_eq_true rfl, Nat.le_of_ble_eq_true rfl⟩ flkX5 (fun _ h => nomatch h) (⟨mm_pe (me_X5_all hl) mwX5_all (mm_t6 213 rfl rfl) (Nat.le_of_ble_eq_true rfl) (Nat.le_of_ble_eq_true rfl), mm_pe (me_X5_setOf hl) mwX5_setOf (mm_t7 72 rfl rfl) (Nat.le_of_ble_eq_true rfl) (Nat.le_of_ble_eq_true rfl), mm_pe (me_X5_has hl) mwX5_has (mm_t6 221 rfl rfl) (Nat.le_of_ble_eq_true rfl) (Nat.le_of_ble_eq_true rfl), mm_pe (me_X5_endOf hl) mwX5_endOf (mm_t6 181 rfl rfl) (Nat.le_of_ble_eq_true rfl) (Nat.le_of_ble_eq_true rfl), mm_pe (me_X5_leaving hl) mwX5_leaving (mm_t7 52 rfl rfl) (Nat.le_of_ble_eq_true rfl) (Nat.le_of_ble_eq_true rfl), mm_pe (me_X5_comesTo hl) mwX5_comesTo (mm_t6 189 rfl rfl) (Nat.le_of_ble_eq_true rfl) (Nat.le_of_ble_eq_true rfl), mm_pe (me_X5_isStartOf hl) mwX5_isStartOf (mm_t7 16 rfl rfl) (Nat.le_of_ble_eq_true rfl) (Nat.le_of_ble_eq_true rfl), trivial⟩) (mm_xe0 _) n9X5
theorem filB_x {M : mm_M} {up : Int} : filB (vX M) up = if up = 1 then -1 else M 17 1 := rfl
def sp_X5_filled : mm_S := fun av M d Q => match av with
  | [.inr (.inr (.inl o)), .inl k, .inl up] =>  o = 17 ∧ tX M ∧ (0 ≤ k ∧ k < 4) ∧ mV M k.toNat ∧ wD (vX M) (8 + 2 * k.toNat) ∧ (up = 0 ∨ up = 1) ∧ ∀ M' (r : Nat), fX M M' ∧ M' 17 = M 17 ∧ fr [8 + 2 * k.toNat, 8 + 2 * k.toNat + 1] (vX M) (vX M') ∧ mV M' k.toNat ∧ wD (vX M') (8 + 2 * k.toNat) ∧ filR up (8 + 2 * k.toNat) r (vX M) (vX M') ∧ M' 21 k.toNat = M 21 k.toNat + r → Q (.inl none) M' d
  | _ => False
def ct_X5_filled : List (Nat × mm_Ca) := [(131, (0, 4, 14, sp_X5_fitting, 0)), (120, (0, 4, 14, sp_X5_put, 0))]
abbrev rr_X5_filled (Q : mm_Q) := mm_run (mm_look flX5) (mm_look ct_X5_filled) mm_x0 (mm_look ([] : List (Nat × Int))) (fun _ => none) 0 0 (fun _ _ => none) Q kdX5_filled
set_option maxRecDepth 20000 in
theorem lp_X5_filled {d : List Nat} {Q : mm_Q} {up f : Int} {k : Nat} (hk : k < 4) (hu : up = 0 ∨ up = 1) : ∀ (j : Nat) (M : mm_M) (st : Int), M 17 1 ≤ M 21 k + j → tX M → mV M k → wD (vX M) (8 + 2 * k) → (up = 0 → f = M 17 1 - 1) → (up = 1 → f = 0) → (whR (vX M) (nwk (vX M) (8 + 2 * k) (M 21 k).toNat) (cor (vX M) (8 + 2 * k) (M 21 k)) (if up = 1 then f - 1 else f + 1) up st ∧ -1 ≤ st ∧ st < 2 * M 17 1 ∧ (0 ≤ st → bt (nwk (vX M) (8 + 2 * k) (M 21 k).toNat) (st / 2).toNat = 1)) → (∀ M' (r : Nat), fX M M' ∧ M' 17 = M 17 ∧ fr [8 + 2 * k, 8 + 2 * k + 1] (vX M) (vX M') ∧ mV M' k ∧ wD (vX M') (8 + 2 * k) ∧ filR up (8 + 2 * k) r (vX M) (vX M') ∧ M' 21 k = M 21 k + r → Q (.inl none) M' d) → rr_X5_filled Q 24 [some (mm_R 17), some (mm_I k), some (mm_I up), some (mm_I f), some (mm_I st)] [] M d 0 := by
  have hw := isKk hk
  intro j
  induction j with
  | zero =>
    intro M st hj ht hv hD f0 f1 hst hq
    have t1 := ht.1
    have v1 := hv.1
    have hwv := (mV_i hk).mp hv
    have en := vX_n (M := M) hk
    have eb : (if up = 1 then f - 1 else f + 1) = filB (vX M) up := by
      rw [filB_x]
      rcases hu with h | h
      · rw [if_neg (by omega), if_neg (by omega)]; have := f0 h; omega
      · rw [if_pos h, if_pos h]; have := f1 h; omega
    rw [eb] at hst
    have e : st = -1 := by
      by_cases h : 0 ≤ st
      · exfalso
        have hl := lft_r (nwk_lft (M := vX M) (w := 8 + 2 * k) ht hwv) (r := st) (by omega) (by rw [en]; exact hst.2.2.2 h)
        have := wD_lt hwv hD (s := st / 2) (by rw [vX_24]; omega) hl
        rw [en, vX_24] at this
        omega
      · omega
    subst e
    have h9 := hq M 0 ⟨fX.rf, rfl, fr.rf, hv, hD, ⟨by rw [en]; exact hst.1, fr.rf⟩, by omega⟩
    obtain ⟨K, hK, hK2⟩ : ∃ K : Nat → mm_K, (∀ t ls st M d u, K t ls st M d u → rr_X5_filled Q t ls st M d u) ∧ (∀ t ls st M d u, rr_X5_filled Q t ls st M d u → K t ls st M d u) := ⟨rr_X5_filled Q, fun _ _ _ _ _ _ h => h, fun _ _ _ _ _ _ h => h⟩
    refine mm_run_at (stop := [30]) (S := K) kkX5_filled 90 ?_ (fun _ _ _ _ _ _ _ h => hK _ _ _ _ _ _ h)
    repeat' (first | with_reducible assumption | with_reducible exact mm_i17 | with_reducible exact mm_i18 | with_reducible exact mm_i19 | with_reducible exact mm_i20 | with_reducible exact mm_i21 | with_reducible exact mm_i22 | ((with_reducible show mm_rv _ _ _ _ _); first | exact True.intro | exact mm_i17 | exact mm_i18 | exact mm_i19 | exact mm_i20 | exact mm_i21 | exact mm_i22) | ((with_reducible show mm_bool _ _); first | exact True.intro | exact Or.inl rfl | exact Or.inr rfl | (show (_ : Int) = 0 ∨ _ = 1)) | refine And.intro ?_ ?_ | intro _ | with_reducible exact True.intro | exact rfl | with_reducible exact Or.inl rfl | with_reducible exact Or.inr rfl | exact Nat.le_of_ble_eq_true rfl)
    all_goals (try simp (disch := omega) only [InI, Int.toNat_natCast, Int.tmod_eq_emod_of_nonneg, Int.tdiv_eq_ediv_of_nonneg, true_implies, true_or, or_true, mm_l18, mm_l19, mm_l20, mm_l21, mm_l22] at *)
    all_goals first | omega | exact h9 | skip
  | succ j ih =>
    intro M st hj ht hv hD f0 f1 hst hq
    have t1 := ht.1
    have v1 := hv.1
    have hwv := (mV_i hk).mp hv
    have en := vX_n (M := M) hk
    have eb : (if up = 1 then f - 1 else f + 1) = filB (vX M) up := by
      rw [filB_x]
      rcases hu with h | h
      · rw [if_neg (by omega), if_neg (by omega)]; have := f0 h; omega
      · rw [if_pos h, if_pos h]; have := f1 h; omega
    rw [eb] at hst
    by_cases h : 0 ≤ st
    · have hl := lft_r (nwk_lft (M := vX M) (w := 8 + 2 * k) ht hwv) (r := st) (by omega) (by rw [en]; exact hst.2.2.2 h)
      have hlt := wD_lt hwv hD (s := st / 2) (by rw [vX_24]; omega) hl
      rw [en, vX_24] at hlt
      have e30 : M 21 k < 30 := by omega
      have hsto : stO (vX M) st := ⟨by omega, by rw [vX_24]; omega⟩
      have hff : (up = 0 ∧ -1 ≤ f ∧ f < M 17 1) ∨ (up = 1 ∧ 0 ≤ f ∧ f ≤ M 17 1) := by
        rcases hu with h | h
        · have := f0 h; omega
        · have := f1 h; omega
      obtain ⟨K, hK, hK2⟩ : ∃ K : Nat → mm_K, (∀ t ls st M d u, K t ls st M d u → rr_X5_filled Q t ls st M d u) ∧ (∀ t ls st M d u, rr_X5_filled Q t ls st M d u → K t ls st M d u) := ⟨rr_X5_filled Q, fun _ _ _ _ _ _ h => h, fun _ _ _ _ _ _ h => h⟩
      have k43 : ∀ M1, fX M M1 ∧ fr [8 + 2 * k, 8 + 2 * k + 1] (vX M) (vX M1) ∧ mV M1 k ∧ putR (vX M) (vX M1) (8 + 2 * k) (M 21 k) st ∧ M1 17 = M 17 → K 43 [some (mm_R 17), some (mm_I k), some (mm_I up), some (mm_I f), some (mm_I st)] [] M1 d 0 := by
        intro M1 g
        obtain ⟨g1, g2, g3, g4, g5⟩ := g
        have hlen : M1 21 k = M 21 k + 1 := by
          rw [← vX_n (M := M1) hk, ← en]
          rcases g4 with h | h
          · exact h.2.1
          · exact absurd ⟨by omega, by rw [en]; omega, by rw [en]; omega⟩ h.1
        have ht1 := tX_to ht g2 hw
        have hD1 := put_wD hD hl g4
        have e171 : M1 17 1 = M 17 1 := by rw [g5]
        have nxt := fun st2 hst2 => hK2 _ _ _ _ _ _ (ih M1 st2 (by omega) ht1 g3 hD1 (fun h => by rw [e171]; exact f0 h) f1 hst2 (fun M' r h => hq M' (r + 1) ⟨g1.tr h.1, by rw [h.2.1, g5], g2.tr h.2.2.1, h.2.2.2.1, h.2.2.2.2.1, ⟨st, vX M, vX M1, by rw [en]; exact hst.1, by omega, by rw [vX_24]; omega, fr.rf, by rw [en]; exact g4, g2, h.2.2.2.2.2.1⟩, by have := h.2.2.2.2.2.2; omega⟩))
        rw [← e171] at hff
        refine hK2 _ _ _ _ _ _ ?_
        refine mm_run_at (stop := [24]) (S := K) kkX5_filled 90 ?_ (fun _ _ _ _ _ _ _ h => hK _ _ _ _ _ _ h)
        repeat' (first | with_reducible assumption | with_reducible exact mm_i17 | with_reducible exact mm_i18 | with_reducible exact mm_i19 | with_reducible exact mm_i20 | with_reducible exact mm_i21 | with_reducible exact mm_i22 | ((with_reducible show mm_rv _ _ _ _ _); first | exact True.intro | exact mm_i17 | exact mm_i18 | exact mm_i19 | exact mm_i20 | exact mm_i21 | exact mm_i22 | ((with_reducible show mV _ _); exact g3) | ((with_reducible show tX _ _); exact ht1)) | ((with_reducible show mV _ _); exact g3) | ((with_reducible show tX _ _); exact ht1) | ((with_reducible show mm_bool _ _); first | exact True.intro | exact Or.inl rfl | exact Or.inr rfl | (show (_ : Int) = 0 ∨ _ = 1)) | refine And.intro ?_ ?_ | intro _ | with_reducible exact True.intro | exact rfl | with_reducible exact Or.inl rfl | with_reducible exact Or.inr rfl | exact Nat.le_of_ble_eq_true rfl)
        all_goals (try simp (disch := omega) only [InI, Int.toNat_natCast, Int.tmod_eq_emod_of_nonneg, Int.tdiv_eq_ediv_of_nonneg, true_implies, true_or, or_true, mm_l18, mm_l19, mm_l20, mm_l21, mm_l22] at *)
        all_goals first | omega | exact nxt _ (by assumption) | skip
      refine mm_run_at (stop := [43, 55]) (S := K) kkX5_filled 90 ?_ (fun _ _ _ _ _ _ _ h => hK _ _ _ _ _ _ h)
      repeat' (first | with_reducible assumption | with_reducible exact mm_i17 | with_reducible exact mm_i18 | with_reducible exact mm_i19 | with_reducible exact mm_i20 | with_reducible exact mm_i21 | with_reducible exact mm_i22 | ((with_reducible show mm_rv _ _ _ _ _); first | exact True.intro | exact mm_i17 | exact mm_i18 | exact mm_i19 | exact mm_i20 | exact mm_i21 | exact mm_i22 | ((with_reducible show mV _ _); exact hv)) | ((with_reducible show mV _ _); exact hv) | ((with_reducible show mm_bool _ _); first | exact True.intro | exact Or.inl rfl | exact Or.inr rfl | (show (_ : Int) = 0 ∨ _ = 1)) | refine And.intro ?_ ?_ | intro _ | with_reducible exact True.intro | exact rfl | with_reducible exact Or.inl rfl | with_reducible exact Or.inr rfl | exact Nat.le_of_ble_eq_true rfl)
      all_goals (try simp (disch := omega) only [InI, Int.toNat_natCast, Int.tmod_eq_emod_of_nonneg, Int.tdiv_eq_ediv_of_nonneg, true_implies, true_or, or_true, mm_l18, mm_l19, mm_l20, mm_l21, mm_l22] at *)
      all_goals first | omega | exact k43 _ (by assumption) | skip
    · have e : st = -1 := by omega
      subst e
      have h9 := hq M 0 ⟨fX.rf, rfl, fr.rf, hv, hD, ⟨by rw [en]; exact hst.1, fr.rf⟩, by omega⟩
      obtain ⟨K, hK, hK2⟩ : ∃ K : Nat → mm_K, (∀ t ls st M d u, K t ls st M d u → rr_X5_filled Q t ls st M d u) ∧ (∀ t ls st M d u, rr_X5_filled Q t ls st M d u → K t ls st M d u) := ⟨rr_X5_filled Q, fun _ _ _ _ _ _ h => h, fun _ _ _ _ _ _ h => h⟩
      refine mm_run_at (stop := [30]) (S := K) kkX5_filled 90 ?_ (fun _ _ _ _ _ _ _ h => hK _ _ _ _ _ _ h)
      repeat' (first | with_reducible assumption | with_reducible exact mm_i17 | with_reducible exact mm_i18 | with_reducible exact mm_i19 | with_reducible exact mm_i20 | with_reducible exact mm_i21 | with_reducible exact mm_i22 | ((with_reducible show mm_rv _ _ _ _ _); first | exact True.intro | exact mm_i17 | exact mm_i18 | exact mm_i19 | exact mm_i20 | exact mm_i21 | exact mm_i22) | ((with_reducible show mm_bool _ _); first | exact True.intro | exact Or.inl rfl | exact Or.inr rfl | (show (_ : Int) = 0 ∨ _ = 1)) | refine And.intro ?_ ?_ | intro _ | with_reducible exact True.intro | exact rfl | with_reducible exact Or.inl rfl | with_reducible exact Or.inr rfl | exact Nat.le_of_ble_eq_true rfl)
      all_goals (try simp (disch := omega) only [InI, Int.toNat_natCast, Int.tmod_eq_emod_of_nonneg, Int.tdiv_eq_ediv_of_nonneg, true_implies, true_or, or_true, mm_l18, mm_l19, mm_l20, mm_l21, mm_l22] at *)
      all_goals first | omega | exact h9 | skip
set_option maxRecDepth 20000 in
theorem rn_X5_filled : mm_RN flX5 ct_X5_filled mm_x0 [] 0 0 5 kdX5_filled sp_X5_filled := by
  intro av M d Q h
  unfold sp_X5_filled at h
  split at h
  · rename_i o k up
    obtain ⟨rfl, ht, hk, hv, hD, hu, hq⟩ := h
    have t1 := ht.1
    have v1 := hv.1
    obtain ⟨k, rfl⟩ := Int.eq_ofNat_of_zero_le hk.1
    simp only [Int.toNat_natCast] at *
    have hk4 : k < 4 := by omega
    obtain ⟨K, hK, hK2⟩ : ∃ K : Nat → mm_K, (∀ t ls st M d u, K t ls st M d u → rr_X5_filled Q t ls st M d u) ∧ (∀ t ls st M d u, rr_X5_filled Q t ls st M d u → K t ls st M d u) := ⟨rr_X5_filled Q, fun _ _ _ _ _ _ h => h, fun _ _ _ _ _ _ h => h⟩
    have k24 := fun f st f0 f1 hst => hK2 _ _ _ _ _ _ (lp_X5_filled (f := f) hk4 hu 30 M st (by omega) ht hv hD f0 f1 hst hq)
    refine ⟨Nat.le_of_ble_eq_true rfl, ?_⟩
    refine mm_run_at (stop := [24]) (S := K) kkX5_filled 90 ?_ (fun _ _ _ _ _ _ _ h => hK _ _ _ _ _ _ h)
    repeat' (first | with_reducible assumption | with_reducible exact mm_i17 | with_reducible exact mm_i18 | with_reducible exact mm_i19 | with_reducible exact mm_i20 | with_reducible exact mm_i21 | with_reducible exact mm_i22 | ((with_reducible show mm_rv _ _ _ _ _); first | exact True.intro | exact mm_i17 | exact mm_i18 | exact mm_i19 | exact mm_i20 | exact mm_i21 | exact mm_i22 | ((with_reducible show mV _ _); exact hv)) | ((with_reducible show mV _ _); exact hv) | ((with_reducible show mm_bool _ _); first | exact True.intro | exact Or.inl rfl | exact Or.inr rfl | (show (_ : Int) = 0 ∨ _ = 1)) | refine And.intro ?_ ?_ | intro _ | with_reducible exact True.intro | exact rfl | with_reducible exact Or.inl rfl | with_reducible exact Or.inr rfl | exact Nat.le_of_ble_eq_true rfl)
    all_goals (try simp (disch := omega) only [InI, Int.toNat_natCast, Int.tmod_eq_emod_of_nonneg, Int.tdiv_eq_ediv_of_nonneg, true_implies, true_or, or_true, mm_l18, mm_l19, mm_l20, mm_l21, mm_l22] at *)
    all_goals first | omega | exact k24 _ _ (by omega) (by omega) (by assumption) | skip
  · exact h.elim
theorem me_X5_filled {l : Launch} (hl : l.stackTraces = false) : mm_Met l yX5_filled cX5_filled 5 none [] 12 241 0 sp_X5_filled := mm_mt hl rn_X5_filled ⟨plX5, rfl⟩ kkX5_filled rfl ⟨Nat.le_of_ble_eq_true rfl, Nat.le_of_ble_eq_true rfl⟩ flkX5 (fun _ h => nomatch h) (⟨mm_pe (me_X5_fitting hl) mwX5_fitting (mm_t7 128 rfl rfl) (Nat.le_of_ble_eq_true rfl) (Nat.le_of_ble_eq_true rfl), mm_pe (me_X5_put hl) mwX5_put (mm_t6 197 rfl rfl) (Nat.le_of_ble_eq_true rfl) (Nat.le_of_ble_eq_true rfl), trivial⟩) (mm_xe0 _) n9X5

