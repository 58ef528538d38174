/-! the model's walks: going on -/
theorem nwk_set {V : mm_M} {w : Nat} {set : Int} {n : Nat} (ht : tW V) (hv : wV V w) (hn : V 2 4 = n) (hset : ∀ s : Nat, bt set s = 1 ↔ ∃ i : Nat, i < V w 2 ∧ V (w + 1) i / 2 = s) : ∀ s : Nat, s < n → bt set s + bt (nwk V w (V w 2).toNat) s = 1 := by
  intro s hs
  have t1 := ht.1
  have v1 := hv.1
  have h1 := nwk_bt ht hv (k := s) (by omega) (V w 2).toNat (by omega)
  have h2 := bt_01 set s
  have h3 := bt_01 (nwk V w (V w 2).toNat) s
  by_cases h : bt set s = 1
  · obtain ⟨i, hi, e⟩ := (hset s).mp h
    have : ¬ bt (nwk V w (V w 2).toNat) s = 1 := fun z => (h1.mp z).2 i (by omega) e
    omega
  · have : bt (nwk V w (V w 2).toNat) s = 1 := h1.mpr ⟨by omega, fun j hj e => h ((hset s).mpr ⟨j, by omega, e⟩)⟩
    omega
theorem vX_w2 {M M' : mm_M} (h : M' 17 = M 17) : vX M' 2 = vX M 2 := by
  funext k
  simp [vX, vX2, h]
theorem tX_to {M M' : mm_M} {w : Nat} (ht : tX M) (hf : fr [w, w + 1] (vX M) (vX M') ) (hw : isK w) : tX M' := tWk (M := vX M) (M' := vX M') ht hf hw
theorem at_X5_gone_0 : mm_at 0 kdX5_gone = [(0, .iconst 0, 0), (1, .istore 4, 0), (3, .aload_n 0, 0), (4, .iload_n 1, 0), (5, .invokevirtual 111, 0), (8, .istore 5, 0), (10, .aload_n 0, 0), (11, .iload_n 1, 0), (12, .iload_n 2, 0), (13, .iload 4, 0), (15, .iadd, 0), (16, .invokevirtual 105, 0), (19, .istore 6, 0), (21, .iconst (-1), 0), (22, .istore 7, 0), (24, .iconst 0, 0), (25, .istore 8, 0), (27, .iload 8, 0), (29, .aload_n 0, 0), (30, .getfield 49, 0), (33, .if_icmp .ge 55, 88), (36, .iload 7, 0), (38, .iconst (-1), 0), (39, .if_icmp .ne 49, 88), (42, .iload_n 3, 0), (43, .ifCond .eq 8, 51), (46, .iload 8, 0), (48, .goto 12, 60), (51, .aload_n 0, 0), (52, .getfield 49, 0), (55, .iconst 1, 0), (56, .isub, 0), (57, .iload 8, 0), (59, .isub, 0), (60, .istore 9, 0), (62, .iload 5, 0), (64, .iload 9, 0), (66, .invokestatic 52, 0), (69, .ifCond .ne 13, 82), (72, .aload_n 0, 0), (73, .iload 9, 0), (75, .iload 6, 0), (77, .invokevirtual 124, 0), (80, .istore 7, 0), (82, .iinc 8 1, 0), (85, .goto (-58), 27), (88, .iload 7, 0), (90, .iconst (-1), 0), (91, .if_icmp .ne 6, 97), (94, .iload 4, 0), (96, .ireturn, 0), (97, .aload_n 0, 0), (98, .iload_n 1, 0), (99, .iload_n 2, 0), (100, .iload 4, 0), (102, .iadd, 0), (103, .iload 7, 0), (105, .invokevirtual 120, 0), (108, .iinc 4 1, 0), (111, .goto (-108), 3)] := rfl
theorem at_X5_gone_3 : mm_at 3 kdX5_gone = [(3, .aload_n 0, 0), (4, .iload_n 1, 0), (5, .invokevirtual 111, 0), (8, .istore 5, 0), (10, .aload_n 0, 0), (11, .iload_n 1, 0), (12, .iload_n 2, 0), (13, .iload 4, 0), (15, .iadd, 0), (16, .invokevirtual 105, 0), (19, .istore 6, 0), (21, .iconst (-1), 0), (22, .istore 7, 0), (24, .iconst 0, 0), (25, .istore 8, 0), (27, .iload 8, 0), (29, .aload_n 0, 0), (30, .getfield 49, 0), (33, .if_icmp .ge 55, 88), (36, .iload 7, 0), (38, .iconst (-1), 0), (39, .if_icmp .ne 49, 88), (42, .iload_n 3, 0), (43, .ifCond .eq 8, 51), (46, .iload 8, 0), (48, .goto 12, 60), (51, .aload_n 0, 0), (52, .getfield 49, 0), (55, .iconst 1, 0), (56, .isub, 0), (57, .iload 8, 0), (59, .isub, 0), (60, .istore 9, 0), (62, .iload 5, 0), (64, .iload 9, 0), (66, .invokestatic 52, 0), (69, .ifCond .ne 13, 82), (72, .aload_n 0, 0), (73, .iload 9, 0), (75, .iload 6, 0), (77, .invokevirtual 124, 0), (80, .istore 7, 0), (82, .iinc 8 1, 0), (85, .goto (-58), 27), (88, .iload 7, 0), (90, .iconst (-1), 0), (91, .if_icmp .ne 6, 97), (94, .iload 4, 0), (96, .ireturn, 0), (97, .aload_n 0, 0), (98, .iload_n 1, 0), (99, .iload_n 2, 0), (100, .iload 4, 0), (102, .iadd, 0), (103, .iload 7, 0), (105, .invokevirtual 120, 0), (108, .iinc 4 1, 0), (111, .goto (-108), 3)] := rfl
theorem at_X5_gone_27 : mm_at 27 kdX5_gone = [(27, .iload 8, 0), (29, .aload_n 0, 0), (30, .getfield 49, 0), (33, .if_icmp .ge 55, 88), (36, .iload 7, 0), (38, .iconst (-1), 0), (39, .if_icmp .ne 49, 88), (42, .iload_n 3, 0), (43, .ifCond .eq 8, 51), (46, .iload 8, 0), (48, .goto 12, 60), (51, .aload_n 0, 0), (52, .getfield 49, 0), (55, .iconst 1, 0), (56, .isub, 0), (57, .iload 8, 0), (59, .isub, 0), (60, .istore 9, 0), (62, .iload 5, 0), (64, .iload 9, 0), (66, .invokestatic 52, 0), (69, .ifCond .ne 13, 82), (72, .aload_n 0, 0), (73, .iload 9, 0), (75, .iload 6, 0), (77, .invokevirtual 124, 0), (80, .istore 7, 0), (82, .iinc 8 1, 0), (85, .goto (-58), 27), (88, .iload 7, 0), (90, .iconst (-1), 0), (91, .if_icmp .ne 6, 97), (94, .iload 4, 0), (96, .ireturn, 0), (97, .aload_n 0, 0), (98, .iload_n 1, 0), (99, .iload_n 2, 0), (100, .iload 4, 0), (102, .iadd, 0), (103, .iload 7, 0), (105, .invokevirtual 120, 0), (108, .iinc 4 1, 0), (111, .goto (-108), 3)] := rfl
theorem at_X5_gone_51 : mm_at 51 kdX5_gone = [(51, .aload_n 0, 0), (52, .getfield 49, 0), (55, .iconst 1, 0), (56, .isub, 0), (57, .iload 8, 0), (59, .isub, 0), (60, .istore 9, 0), (62, .iload 5, 0), (64, .iload 9, 0), (66, .invokestatic 52, 0), (69, .ifCond .ne 13, 82), (72, .aload_n 0, 0), (73, .iload 9, 0), (75, .iload 6, 0), (77, .invokevirtual 124, 0), (80, .istore 7, 0), (82, .iinc 8 1, 0), (85, .goto (-58), 27), (88, .iload 7, 0), (90, .iconst (-1), 0), (91, .if_icmp .ne 6, 97), (94, .iload 4, 0), (96, .ireturn, 0), (97, .aload_n 0, 0), (98, .iload_n 1, 0), (99, .iload_n 2, 0), (100, .iload 4, 0), (102, .iadd, 0), (103, .iload 7, 0), (105, .invokevirtual 120, 0), (108, .iinc 4 1, 0), (111, .goto (-108), 3)] := rfl
theorem at_X5_gone_60 : mm_at 60 kdX5_gone = [(60, .istore 9, 0), (62, .iload 5, 0), (64, .iload 9, 0), (66, .invokestatic 52, 0), (69, .ifCond .ne 13, 82), (72, .aload_n 0, 0), (73, .iload 9, 0), (75, .iload 6, 0), (77, .invokevirtual 124, 0), (80, .istore 7, 0), (82, .iinc 8 1, 0), (85, .goto (-58), 27), (88, .iload 7, 0), (90, .iconst (-1), 0), (91, .if_icmp .ne 6, 97), (94, .iload 4, 0), (96, .ireturn, 0), (97, .aload_n 0, 0), (98, .iload_n 1, 0), (99, .iload_n 2, 0), (100, .iload 4, 0), (102, .iadd, 0), (103, .iload 7, 0), (105, .invokevirtual 120, 0), (108, .iinc 4 1, 0), (111, .goto (-108), 3)] := rfl
theorem at_X5_gone_82 : mm_at 82 kdX5_gone = [(82, .iinc 8 1, 0), (85, .goto (-58), 27), (88, .iload 7, 0), (90, .iconst (-1), 0), (91, .if_icmp .ne 6, 97), (94, .iload 4, 0), (96, .ireturn, 0), (97, .aload_n 0, 0), (98, .iload_n 1, 0), (99, .iload_n 2, 0), (100, .iload 4, 0), (102, .iadd, 0), (103, .iload 7, 0), (105, .invokevirtual 120, 0), (108, .iinc 4 1, 0), (111, .goto (-108), 3)] := rfl
theorem at_X5_gone_88 : mm_at 88 kdX5_gone = [(88, .iload 7, 0), (90, .iconst (-1), 0), (91, .if_icmp .ne 6, 97), (94, .iload 4, 0), (96, .ireturn, 0), (97, .aload_n 0, 0), (98, .iload_n 1, 0), (99, .iload_n 2, 0), (100, .iload 4, 0), (102, .iadd, 0), (103, .iload 7, 0), (105, .invokevirtual 120, 0), (108, .iinc 4 1, 0), (111, .goto (-108), 3)] := rfl
theorem at_X5_gone_97 : mm_at 97 kdX5_gone = [(97, .aload_n 0, 0), (98, .iload_n 1, 0), (99, .iload_n 2, 0), (100, .iload 4, 0), (102, .iadd, 0), (103, .iload 7, 0), (105, .invokevirtual 120, 0), (108, .iinc 4 1, 0), (111, .goto (-108), 3)] := rfl
def sp_X5_gone : mm_S := fun av M d Q => match av with
  | [.inr (.inr (.inl o)), .inl k, .inl p, .inl up] =>  o = 17 ∧ tX M ∧ (0 ≤ k ∧ k < 4) ∧ mV M k.toNat ∧ wD (vX M) (8 + 2 * k.toNat) ∧ (0 ≤ p ∧ p ≤ M 21 k.toNat) ∧ (up = 0 ∨ up = 1) ∧ ∀ M' (r : Nat), fX M M' ∧ M' 17 = M 17 ∧ fr [8 + 2 * k.toNat, 8 + 2 * k.toNat + 1] (vX M) (vX M') ∧ mV M' k.toNat ∧ wD (vX M') (8 + 2 * k.toNat) ∧ goR up (8 + 2 * k.toNat) r p (vX M) (vX M') ∧ M' 21 k.toNat = M 21 k.toNat + r → Q (.inl (some (mm_I r))) M' d
  | _ => False
def ct_X5_gone : List (Nat × mm_Ca) := [(111, (0, 2, 14, sp_X5_setOf, 0)), (105, (0, 3, 14, sp_X5_cornerOf, 0)), (52, (1, 2, 0, sp_X5_has, 0)), (124, (0, 3, 14, sp_X5_leaving, 0)), (120, (0, 4, 14, sp_X5_put, 0))]
abbrev rr_X5_gone (Q : mm_Q) := mm_run (mm_look flX5) (mm_look ct_X5_gone) mm_x0 (mm_look ([] : List (Nat × Int))) (fun _ => none) 1 0 (fun _ _ => none) Q kdX5_gone
set_option maxRecDepth 20000 in
theorem lp2_X5_gone {M : mm_M} {d : List Nat} {Q : mm_Q} {k p up many set c S : Int} {n : Nat} (ht : tX M) (hn : M 17 1 = n) (hu : up = 0 ∨ up = 1) (hset : 0 ≤ set ∧ set < 1073741824) (hS : ∀ s : Nat, s < n → bt set s + bt S s = 1) (hc : InI c) (hq : ∀ st kk x9, onR (vX M) S c up st ∧ -1 ≤ st ∧ st < 2 * n ∧ (0 ≤ st → bt S (st / 2).toNat = 1) → rr_X5_gone Q 88 [some (mm_R 17), some (mm_I k), some (mm_I p), some (mm_I up), some (mm_I many), some (mm_I set), some (mm_I c), some (mm_I st), some (mm_I kk), x9] [] M d 0) : ∀ (j kk : Nat) (x9 : Option mm_V), kk + j = n → (∀ s : Nat, s < n → (up = 1 → s < kk) → (up = 0 → n ≤ s + kk) → bt S s = 1 → lv (vX M) s c = -1) → rr_X5_gone Q 27 [some (mm_R 17), some (mm_I k), some (mm_I p), some (mm_I up), some (mm_I many), some (mm_I set), some (mm_I c), some (mm_I (-1)), some (mm_I kk), x9] [] M d 0 := by
  have t1 := ht.1
  have e24 : (vX M 2 4).toNat = n := by rw [vX_24]; omega
  intro j
  induction j with
  | zero =>
    intro kk x9 hk hv
    obtain ⟨K, hK, hK2⟩ : ∃ K : Nat → mm_K, (∀ t ls st M d u, K t ls st M d u → rr_X5_gone Q t ls st M d u) ∧ (∀ t ls st M d u, rr_X5_gone Q t ls st M d u → K t ls st M d u) := ⟨rr_X5_gone Q, fun _ _ _ _ _ _ h => h, fun _ _ _ _ _ _ h => h⟩
    have h88 := hK2 _ _ _ _ _ _ (hq (-1) kk x9 ⟨Or.inl ⟨rfl, fun s hs hb => hv s (by omega) (by omega) (by omega) hb⟩, by omega, by omega, by omega⟩)
    refine mm_run_at (stop := [36, 88]) (S := K) kkX5_gone 90 ?_ (fun _ _ _ _ _ _ _ h => hK _ _ _ _ _ _ h)
    repeat' (first | with_reducible assumption | with_reducible exact mm_i17 | with_reducible exact mm_i18 | with_reducible exact mm_i19 | with_reducible exact mm_i20 | with_reducible exact mm_i21 | with_reducible exact mm_i22 | ((with_reducible show mm_rv _ _ _ _ _); first | exact True.intro | exact mm_i17 | exact mm_i18 | exact mm_i19 | exact mm_i20 | exact mm_i21 | exact mm_i22) | ((with_reducible show mm_bool _ _); first | exact True.intro | exact Or.inl rfl | exact Or.inr rfl | (show (_ : Int) = 0 ∨ _ = 1)) | refine And.intro ?_ ?_ | intro _ | with_reducible exact True.intro | exact rfl | with_reducible exact Or.inl rfl | with_reducible exact Or.inr rfl | exact Nat.le_of_ble_eq_true rfl)
    all_goals (try simp (disch := omega) only [InI, Int.toNat_natCast, Int.tmod_eq_emod_of_nonneg, Int.tdiv_eq_ediv_of_nonneg, true_implies, true_or, or_true, mm_l18, mm_l19, mm_l20, mm_l21, mm_l22] at *)
    all_goals first | omega | exact h88 | skip
  | succ j ih =>
    intro kk x9 hk hv
    obtain ⟨K, hK, hK2⟩ : ∃ K : Nat → mm_K, (∀ t ls st M d u, K t ls st M d u → rr_X5_gone Q t ls st M d u) ∧ (∀ t ls st M d u, rr_X5_gone Q t ls st M d u → K t ls st M d u) := ⟨rr_X5_gone Q, fun _ _ _ _ _ _ h => h, fun _ _ _ _ _ _ h => h⟩
    have step : ∀ (st : Int) (s : Nat) x9, s < n → (up = 1 → s = kk) → (up = 0 → s + kk + 1 = n) → ((st = -1 ∧ bt S s = 0) ∨ ((st = lvX M s c ∧ -1 ≤ st ∧ st < 2 * M 17 1 ∧ (0 ≤ st → st / 2 = s)) ∧ bt S s = 1)) → K 27 [some (mm_R 17), some (mm_I k), some (mm_I p), some (mm_I up), some (mm_I many), some (mm_I set), some (mm_I c), some (mm_I st), some (mm_I ((kk : Int) + 1)), x9] [] M d 0 := by
      intro st s x9 hs h1 h0 h
      by_cases hst : st = -1
      · refine hK2 _ _ _ _ _ _ ?_
        rw [hst]
        refine ih (kk + 1) x9 (by omega) (fun s' hs' a b hb => ?_)
        by_cases e : s' = s
        · subst e
          rcases h with h | h
          · omega
          · rw [← lv_v, ← h.1.1]; exact hst
        · refine hv s' hs' (fun e1 => ?_) (fun e0 => ?_) hb
          · have := a e1
            have := h1 e1
            omega
          · have := b e0
            have := h0 e0
            omega
      · have h9 : st = lv (vX M) s c ∧ -1 ≤ st ∧ st < 2 * n ∧ (0 ≤ st → st / 2 = s) ∧ bt S s = 1 := by
          rcases h with h | h
          · exact absurd h.1 hst
          · exact ⟨h.1.1, h.1.2.1, by omega, h.1.2.2.2, h.2⟩
        obtain ⟨q1, q2, q3, q4, q5⟩ := h9
        have q6 := q4 (by omega)
        have h88 := hK2 _ _ _ _ _ _ (hq st ((kk : Int) + 1) x9 ⟨Or.inr ⟨s, by omega, q5, q1, by omega, fun s' hs' a b hb => hv s' (by omega) (fun e1 => by have := a e1; have := h1 e1; omega) (fun e0 => by have := b e0; have := h0 e0; omega) hb⟩, q2, q3, fun _ => by rw [q6]; exact q5⟩)
        refine hK2 _ _ _ _ _ _ ?_
        refine mm_run_at (stop := [42, 88]) (S := K) kkX5_gone 90 ?_ (fun _ _ _ _ _ _ _ h => hK _ _ _ _ _ _ h)
        repeat' (first | with_reducible assumption | with_reducible exact mm_i17 | with_reducible exact mm_i18 | with_reducible exact mm_i19 | with_reducible exact mm_i20 | with_reducible exact mm_i21 | with_reducible exact mm_i22 | ((with_reducible show mm_rv _ _ _ _ _); first | exact True.intro | exact mm_i17 | exact mm_i18 | exact mm_i19 | exact mm_i20 | exact mm_i21 | exact mm_i22) | ((with_reducible show mm_bool _ _); first | exact True.intro | exact Or.inl rfl | exact Or.inr rfl | (show (_ : Int) = 0 ∨ _ = 1)) | refine And.intro ?_ ?_ | intro _ | with_reducible exact True.intro | exact rfl | with_reducible exact Or.inl rfl | with_reducible exact Or.inr rfl | exact Nat.le_of_ble_eq_true rfl)
        all_goals (try simp (disch := omega) only [InI, Int.toNat_natCast, Int.tmod_eq_emod_of_nonneg, Int.tdiv_eq_ediv_of_nonneg, true_implies, true_or, or_true, mm_l18, mm_l19, mm_l20, mm_l21, mm_l22] at *)
        all_goals first | omega | exact h88 | skip
    rcases hu with rfl | rfl
    · obtain ⟨q, hq'⟩ : ∃ q : Nat, M 17 1 - 1 - (kk : Int) = q := ⟨(M 17 1 - 1 - (kk : Int)).toNat, by omega⟩
      have hSq := hS q (by omega)
      have hbq := bt_01 set q
      have hq2 : q + kk + 1 = n := by omega
      refine mm_run_at (stop := [27, 46, 88]) (S := K) kkX5_gone 90 ?_ (fun _ _ _ _ _ _ _ h => hK _ _ _ _ _ _ h)
      repeat' (first | with_reducible assumption | with_reducible exact mm_i17 | with_reducible exact mm_i18 | with_reducible exact mm_i19 | with_reducible exact mm_i20 | with_reducible exact mm_i21 | with_reducible exact mm_i22 | ((with_reducible show mm_rv _ _ _ _ _); first | exact True.intro | exact mm_i17 | exact mm_i18 | exact mm_i19 | exact mm_i20 | exact mm_i21 | exact mm_i22) | ((with_reducible show mm_bool _ _); first | exact True.intro | exact Or.inl rfl | exact Or.inr rfl | (show (_ : Int) = 0 ∨ _ = 1)) | refine And.intro ?_ ?_ | intro _ | with_reducible exact True.intro | exact rfl | with_reducible exact Or.inl rfl | with_reducible exact Or.inr rfl | exact Nat.le_of_ble_eq_true rfl)
      all_goals (try simp (disch := omega) only [hq', InI, Int.toNat_natCast, Int.tmod_eq_emod_of_nonneg, Int.tdiv_eq_ediv_of_nonneg, true_implies, true_or, or_true, mm_l18, mm_l19, mm_l20, mm_l21, mm_l22] at *)
      all_goals first | omega | exact step (-1) q _ (by omega) (by omega) (by omega) (Or.inl ⟨rfl, by omega⟩) | exact step _ q _ (by omega) (by omega) (by omega) (Or.inr ⟨by assumption, by omega⟩) | skip
    · have hSq := hS kk (by omega)
      have hbq := bt_01 set kk
      refine mm_run_at (stop := [27, 51, 88]) (S := K) kkX5_gone 90 ?_ (fun _ _ _ _ _ _ _ h => hK _ _ _ _ _ _ h)
      repeat' (first | with_reducible assumption | with_reducible exact mm_i17 | with_reducible exact mm_i18 | with_reducible exact mm_i19 | with_reducible exact mm_i20 | with_reducible exact mm_i21 | with_reducible exact mm_i22 | ((with_reducible show mm_rv _ _ _ _ _); first | exact True.intro | exact mm_i17 | exact mm_i18 | exact mm_i19 | exact mm_i20 | exact mm_i21 | exact mm_i22) | ((with_reducible show mm_bool _ _); first | exact True.intro | exact Or.inl rfl | exact Or.inr rfl | (show (_ : Int) = 0 ∨ _ = 1)) | refine And.intro ?_ ?_ | intro _ | with_reducible exact True.intro | exact rfl | with_reducible exact Or.inl rfl | with_reducible exact Or.inr rfl | exact Nat.le_of_ble_eq_true rfl)
      all_goals (try simp (disch := omega) only [InI, Int.toNat_natCast, Int.tmod_eq_emod_of_nonneg, Int.tdiv_eq_ediv_of_nonneg, true_implies, true_or, or_true, mm_l18, mm_l19, mm_l20, mm_l21, mm_l22] at *)
      all_goals first | omega | exact step (-1) kk _ (by omega) (by omega) (by omega) (Or.inl ⟨rfl, by omega⟩) | exact step _ kk _ (by omega) (by omega) (by omega) (Or.inr ⟨by assumption, by omega⟩) | skip
set_option maxRecDepth 20000 in
theorem lp_X5_gone {d : List Nat} {p up : Int} {k : Nat} (hk : k < 4) (hu : up = 0 ∨ up = 1) (hp : 0 ≤ p) : ∀ (j r0 : Nat) (M : mm_M) (Q : mm_Q) (x5 x6 x7 x8 x9 : Option mm_V), M 17 1 ≤ M 21 k + j → tX M → mV M k → wD (vX M) (8 + 2 * k) → p + r0 ≤ M 21 k → (∀ M' (r : Nat), fX M M' ∧ M' 17 = M 17 ∧ fr [8 + 2 * k, 8 + 2 * k + 1] (vX M) (vX M') ∧ mV M' k ∧ wD (vX M') (8 + 2 * k) ∧ goR up (8 + 2 * k) r (p + r0) (vX M) (vX M') ∧ M' 21 k = M 21 k + r → Q (.inl (some (mm_I (r0 + r)))) M' d) → rr_X5_gone Q 3 [some (mm_R 17), some (mm_I k), some (mm_I p), some (mm_I up), some (mm_I r0), x5, x6, x7, x8, x9] [] M d 0 := by
  have hw := isKk hk
  intro j
  induction j with
  | zero => 
    intro r0 M Q x5 x6 x7 x8 x9 hj ht hv hD hpl hq
    have t1 := ht.1
    have v1 := hv.1
    have hwv := (mV_i hk).mp hv
    have en := vX_n (M := M) hk
    obtain ⟨n, hn⟩ := Int.eq_ofNat_of_zero_le t1.1
    have h9 : _ → Q (.inl (some (mm_I r0))) M d := fun h => by
      have := hq M 0 h
      rw [show (r0 : Int) + ((0 : Nat) : Int) = r0 by omega] at this
      exact this
    obtain ⟨K, hK, hK2⟩ : ∃ K : Nat → mm_K, (∀ t ls st M d u, K t ls st M d u → rr_X5_gone Q t ls st M d u) ∧ (∀ t ls st M d u, rr_X5_gone Q t ls st M d u → K t ls st M d u) := ⟨rr_X5_gone Q, fun _ _ _ _ _ _ h => h, fun _ _ _ _ _ _ h => h⟩
    have ec := cor_v (M := M) (p := p + r0) hk hv (by omega)
    have k27 : ∀ set, ((0 ≤ set ∧ set < 1073741824) ∧ (∀ s : Nat, bt set s = 1 ↔ ∃ i : Nat, i < M 21 k ∧ M 20 (30 * k + i) / 2 = s)) → ∀ c, (c = corX M k (p + r0) ∧ 0 ≤ c ∧ c < 10) → K 27 [some (mm_R 17), some (mm_I k), some (mm_I p), some (mm_I up), some (mm_I r0), some (mm_I set), some (mm_I c), some (mm_I (-1)), some (mm_I 0), x9] [] M d 0 := by
      intro set ⟨s1, s2⟩ c ⟨c1, c2⟩
      rw [ec] at c1
      have hS := nwk_set (V := vX M) (w := 8 + 2 * k) (n := n) (set := set) ht hwv (by rw [vX_24]; exact hn) (fun s => by rw [s2 s, en]; constructor <;> (rintro ⟨i, h1, h2⟩; refine ⟨i, h1, ?_⟩; first | (rw [vX_i hk (by omega)]; exact h2) | (rw [vX_i hk (by omega)] at h2; exact h2)))
      refine hK2 _ _ _ _ _ _ (lp2_X5_gone (S := nwk (vX M) (8 + 2 * k) (vX M (8 + 2 * k) 2).toNat) ht hn hu s1 hS ⟨by omega, by omega⟩ (fun st kk x9 hst => ?_) n 0 x9 (by omega) (fun s hs a b => by omega))
      by_cases e : st = -1
      · subst e
        have h9 := h9 ⟨fX.rf, rfl, fr.rf, hv, hD, ⟨by rw [← c1]; exact hst.1, rfl⟩, by omega⟩
        refine mm_run_at (stop := [97]) (S := K) kkX5_gone 90 ?_ (fun _ _ _ _ _ _ _ h => hK _ _ _ _ _ _ h)
        repeat' (first | with_reducible assumption | with_reducible exact mm_i17 | with_reducible exact mm_i18 | with_reducible exact mm_i19 | with_reducible exact mm_i20 | with_reducible exact mm_i21 | with_reducible exact mm_i22 | ((with_reducible show mm_rv _ _ _ _ _); first | exact True.intro | exact mm_i17 | exact mm_i18 | exact mm_i19 | exact mm_i20 | exact mm_i21 | exact mm_i22) | ((with_reducible show mm_bool _ _); first | exact True.intro | exact Or.inl rfl | exact Or.inr rfl | (show (_ : Int) = 0 ∨ _ = 1)) | refine And.intro ?_ ?_ | intro _ | with_reducible exact True.intro | exact rfl | with_reducible exact Or.inl rfl | with_reducible exact Or.inr rfl | exact Nat.le_of_ble_eq_true rfl)
        all_goals (try simp (disch := omega) only [InI, Int.toNat_natCast, Int.tmod_eq_emod_of_nonneg, Int.tdiv_eq_ediv_of_nonneg, true_implies, true_or, or_true, mm_l18, mm_l19, mm_l20, mm_l21, mm_l22] at *)
        all_goals first | omega | exact h9 | skip
      · exfalso
        have hl := lft_r (nwk_lft (M := vX M) (w := 8 + 2 * k) ht hwv) (r := st) (by omega) (hst.2.2.2 (by omega))
        have := wD_lt hwv hD (s := st / 2) (by rw [vX_24]; omega) hl
        rw [en, vX_24] at this
        omega
    refine mm_run_at (stop := [27]) (S := K) kkX5_gone 90 ?_ (fun _ _ _ _ _ _ _ h => hK _ _ _ _ _ _ h)
    repeat' (first | with_reducible assumption | with_reducible exact mm_i17 | with_reducible exact mm_i18 | with_reducible exact mm_i19 | with_reducible exact mm_i20 | with_reducible exact mm_i21 | with_reducible exact mm_i22 | ((with_reducible show mm_rv _ _ _ _ _); first | exact True.intro | exact mm_i17 | exact mm_i18 | exact mm_i19 | exact mm_i20 | exact mm_i21 | exact mm_i22 | ((with_reducible show mV _ _); exact hv) | ((with_reducible show wD _ _); exact hD)) | ((with_reducible show mV _ _); exact hv) | ((with_reducible show wD _ _); exact hD) | ((with_reducible show mm_bool _ _); first | exact True.intro | exact Or.inl rfl | exact Or.inr rfl | (show (_ : Int) = 0 ∨ _ = 1)) | refine And.intro ?_ ?_ | intro _ | with_reducible exact True.intro | exact rfl | with_reducible exact Or.inl rfl | with_reducible exact Or.inr rfl | exact Nat.le_of_ble_eq_true rfl)
    all_goals (try simp (disch := omega) only [InI, Int.toNat_natCast, Int.tmod_eq_emod_of_nonneg, Int.tdiv_eq_ediv_of_nonneg, true_implies, true_or, or_true, mm_l18, mm_l19, mm_l20, mm_l21, mm_l22] at *)
    all_goals first | omega | exact k27 _ (by assumption) _ (by assumption) | skip
  | succ j ih =>
    intro r0 M Q x5 x6 x7 x8 x9 hj ht hv hD hpl hq
    have t1 := ht.1
    have v1 := hv.1
    have hwv := (mV_i hk).mp hv
    have en := vX_n (M := M) hk
    obtain ⟨n, hn⟩ := Int.eq_ofNat_of_zero_le t1.1
    have h9 : _ → Q (.inl (some (mm_I r0))) M d := fun h => by
      have := hq M 0 h
      rw [show (r0 : Int) + ((0 : Nat) : Int) = r0 by omega] at this
      exact this
    obtain ⟨K, hK, hK2⟩ : ∃ K : Nat → mm_K, (∀ t ls st M d u, K t ls st M d u → rr_X5_gone Q t ls st M d u) ∧ (∀ t ls st M d u, rr_X5_gone Q t ls st M d u → K t ls st M d u) := ⟨rr_X5_gone Q, fun _ _ _ _ _ _ h => h, fun _ _ _ _ _ _ h => h⟩
    have ec := cor_v (M := M) (p := p + r0) hk hv (by omega)
    have k27 : ∀ set, ((0 ≤ set ∧ set < 1073741824) ∧ (∀ s : Nat, bt set s = 1 ↔ ∃ i : Nat, i < M 21 k ∧ M 20 (30 * k + i) / 2 = s)) → ∀ c, (c = corX M k (p + r0) ∧ 0 ≤ c ∧ c < 10) → K 27 [some (mm_R 17), some (mm_I k), some (mm_I p), some (mm_I up), some (mm_I r0), some (mm_I set), some (mm_I c), some (mm_I (-1)), some (mm_I 0), x9] [] M d 0 := by
      intro set ⟨s1, s2⟩ c ⟨c1, c2⟩
      rw [ec] at c1
      have hS := nwk_set (V := vX M) (w := 8 + 2 * k) (n := n) (set := set) ht hwv (by rw [vX_24]; exact hn) (fun s => by rw [s2 s, en]; constructor <;> (rintro ⟨i, h1, h2⟩; refine ⟨i, h1, ?_⟩; first | (rw [vX_i hk (by omega)]; exact h2) | (rw [vX_i hk (by omega)] at h2; exact h2)))
      refine hK2 _ _ _ _ _ _ (lp2_X5_gone (S := nwk (vX M) (8 + 2 * k) (vX M (8 + 2 * k) 2).toNat) ht hn hu s1 hS ⟨by omega, by omega⟩ (fun st kk x9 hst => ?_) n 0 x9 (by omega) (fun s hs a b => by omega))
      by_cases e : st = -1
      · subst e
        have h9 := h9 ⟨fX.rf, rfl, fr.rf, hv, hD, ⟨by rw [← c1]; exact hst.1, rfl⟩, by omega⟩
        refine mm_run_at (stop := [97]) (S := K) kkX5_gone 90 ?_ (fun _ _ _ _ _ _ _ h => hK _ _ _ _ _ _ h)
        repeat' (first | with_reducible assumption | with_reducible exact mm_i17 | with_reducible exact mm_i18 | with_reducible exact mm_i19 | with_reducible exact mm_i20 | with_reducible exact mm_i21 | with_reducible exact mm_i22 | ((with_reducible show mm_rv _ _ _ _ _); first | exact True.intro | exact mm_i17 | exact mm_i18 | exact mm_i19 | exact mm_i20 | exact mm_i21 | exact mm_i22) | ((with_reducible show mm_bool _ _); first | exact True.intro | exact Or.inl rfl | exact Or.inr rfl | (show (_ : Int) = 0 ∨ _ = 1)) | refine And.intro ?_ ?_ | intro _ | with_reducible exact True.intro | exact rfl | with_reducible exact Or.inl rfl | with_reducible exact Or.inr rfl | exact Nat.le_of_ble_eq_true rfl)
        all_goals (try simp (disch := omega) only [InI, Int.toNat_natCast, Int.tmod_eq_emod_of_nonneg, Int.tdiv_eq_ediv_of_nonneg, true_implies, true_or, or_true, mm_l18, mm_l19, mm_l20, mm_l21, mm_l22] at *)
        all_goals first | omega | exact h9 | skip
      · have hl := lft_r (nwk_lft (M := vX M) (w := 8 + 2 * k) ht hwv) (r := st) (by omega) (hst.2.2.2 (by omega))
        have hlt := wD_lt hwv hD (s := st / 2) (by rw [vX_24]; omega) hl
        rw [en, vX_24] at hlt
        have nxt : ∀ M1, fX M M1 ∧ fr [8 + 2 * k, 8 + 2 * k + 1] (vX M) (vX M1) ∧ mV M1 k ∧ putR (vX M) (vX M1) (8 + 2 * k) (p + r0) st ∧ M1 17 = M 17 → K 3 [some (mm_R 17), some (mm_I k), some (mm_I p), some (mm_I up), some (mm_I ((r0 : Int) + 1)), some (mm_I set), some (mm_I c), some (mm_I st), some (mm_I kk), x9] [] M1 d 0 := by
          intro M1 g
          obtain ⟨g1, g2, g3, g4, g5⟩ := g
          have hlen : M1 21 k = M 21 k + 1 := by
            rw [← vX_n (M := M1) hk, ← en]
            rcases g4 with h | h
            · exact h.2.1
            · exact absurd ⟨by omega, by rw [en]; omega, by rw [en]; omega⟩ h.1
          refine hK2 _ _ _ _ _ _ (ih (r0 + 1) M1 Q _ _ _ _ _ (by rw [g5]; omega) (tX_to ht g2 hw) g3 (put_wD hD hl g4) (by omega) (fun M' r h => ?_))
          have h10 := hq M' (r + 1) ⟨g1.tr h.1, by rw [h.2.1, g5], g2.tr h.2.2.1, h.2.2.2.1, h.2.2.2.2.1, ⟨st, vX M1, by rw [← c1]; exact hst.1, by omega, by rw [vX_24]; omega, g4, g2, by have := h.2.2.2.2.2.1; rw [show p + ((r0 + 1 : Nat) : Int) = p + r0 + 1 by omega] at this; exact this⟩, by have := h.2.2.2.2.2.2; omega⟩
          rw [show ((r0 + 1 : Nat) : Int) + r = (r0 : Int) + ((r + 1 : Nat) : Int) by omega]
          exact h10
        have e30 : M 21 k < 30 := by omega
        have hsto : stO (vX M) st := ⟨by omega, by rw [vX_24]; omega⟩
        refine mm_run_at (stop := [3, 94]) (S := K) kkX5_gone 90 ?_ (fun _ _ _ _ _ _ _ h => hK _ _ _ _ _ _ h)
        repeat' (first | with_reducible assumption | with_reducible exact mm_i17 | with_reducible exact mm_i18 | with_reducible exact mm_i19 | with_reducible exact mm_i20 | with_reducible exact mm_i21 | with_reducible exact mm_i22 | ((with_reducible show mm_rv _ _ _ _ _); first | exact True.intro | exact mm_i17 | exact mm_i18 | exact mm_i19 | exact mm_i20 | exact mm_i21 | exact mm_i22 | ((with_reducible show mV _ _); exact hv) | ((with_reducible show wD _ _); exact hD)) | ((with_reducible show mV _ _); exact hv) | ((with_reducible show wD _ _); exact hD) | ((with_reducible show mm_bool _ _); first | exact True.intro | exact Or.inl rfl | exact Or.inr rfl | (show (_ : Int) = 0 ∨ _ = 1)) | refine And.intro ?_ ?_ | intro _ | with_reducible exact True.intro | exact rfl | with_reducible exact Or.inl rfl | with_reducible exact Or.inr rfl | exact Nat.le_of_ble_eq_true rfl)
        all_goals (try simp (disch := omega) only [InI, Int.toNat_natCast, Int.tmod_eq_emod_of_nonneg, Int.tdiv_eq_ediv_of_nonneg, true_implies, true_or, or_true, mm_l18, mm_l19, mm_l20, mm_l21, mm_l22] at *)
        all_goals first | omega | exact nxt _ (by assumption) | skip
    refine mm_run_at (stop := [27]) (S := K) kkX5_gone 90 ?_ (fun _ _ _ _ _ _ _ h => hK _ _ _ _ _ _ h)
    repeat' (first | with_reducible assumption | with_reducible exact mm_i17 | with_reducible exact mm_i18 | with_reducible exact mm_i19 | with_reducible exact mm_i20 | with_reducible exact mm_i21 | with_reducible exact mm_i22 | ((with_reducible show mm_rv _ _ _ _ _); first | exact True.intro | exact mm_i17 | exact mm_i18 | exact mm_i19 | exact mm_i20 | exact mm_i21 | exact mm_i22 | ((with_reducible show mV _ _); exact hv) | ((with_reducible show wD _ _); exact hD)) | ((with_reducible show mV _ _); exact hv) | ((with_reducible show wD _ _); exact hD) | ((with_reducible show mm_bool _ _); first | exact True.intro | exact Or.inl rfl | exact Or.inr rfl | (show (_ : Int) = 0 ∨ _ = 1)) | refine And.intro ?_ ?_ | intro _ | with_reducible exact True.intro | exact rfl | with_reducible exact Or.inl rfl | with_reducible exact Or.inr rfl | exact Nat.le_of_ble_eq_true rfl)
    all_goals (try simp (disch := omega) only [InI, Int.toNat_natCast, Int.tmod_eq_emod_of_nonneg, Int.tdiv_eq_ediv_of_nonneg, true_implies, true_or, or_true, mm_l18, mm_l19, mm_l20, mm_l21, mm_l22] at *)
    all_goals first | omega | exact k27 _ (by assumption) _ (by assumption) | skip
set_option maxRecDepth 20000 in
theorem rn_X5_gone : mm_RN flX5 ct_X5_gone mm_x0 [] 1 0 10 kdX5_gone sp_X5_gone := by
  intro av M d Q h
  unfold sp_X5_gone at h
  split at h
  · rename_i o k p up
    obtain ⟨rfl, ht, hk, hv, hD, hp, hu, hq⟩ := h
    have v1 := hv.1
    have t1 := ht.1
    obtain ⟨k, rfl⟩ := Int.eq_ofNat_of_zero_le hk.1
    simp only [Int.toNat_natCast] at *
    have h8 := lp_X5_gone (d := d) (p := p) (k := k) (by omega) hu hp.1 30 0 M Q none none none none none (by omega) ht hv hD (by omega) (fun M' r h => by rw [show ((0 : Nat) : Int) + r = r by omega]; exact hq M' r (by rw [show p + ((0 : Nat) : Int) = p by omega] at h; exact h))
    obtain ⟨K, hK, hK2⟩ : ∃ K : Nat → mm_K, (∀ t ls st M d u, K t ls st M d u → rr_X5_gone Q t ls st M d u) ∧ (∀ t ls st M d u, rr_X5_gone Q t ls st M d u → K t ls st M d u) := ⟨rr_X5_gone Q, fun _ _ _ _ _ _ h => h, fun _ _ _ _ _ _ h => h⟩
    refine ⟨Nat.le_of_ble_eq_true rfl, mm_run_at (stop := [3]) (S := K) kkX5_gone 90 ?_ (fun _ _ _ _ _ _ _ h => hK _ _ _ _ _ _ h)⟩
    have h8 := hK2 _ _ _ _ _ _ h8
    repeat' (first | with_reducible assumption | with_reducible exact mm_i17 | with_reducible exact mm_i18 | with_reducible exact mm_i19 | with_reducible exact mm_i20 | with_reducible exact mm_i21 | with_reducible exact mm_i22 | ((with_reducible show mm_rv _ _ _ _ _); first | exact True.intro | exact mm_i17 | exact mm_i18 | exact mm_i19 | exact mm_i20 | exact mm_i21 | exact mm_i22) | ((with_reducible show mm_bool _ _); first | exact True.intro | exact Or.inl rfl | exact Or.inr rfl | (show (_ : Int) = 0 ∨ _ = 1)) | refine And.intro ?_ ?_ | intro _ | with_reducible exact True.intro | exact rfl | with_reducible exact Or.inl rfl | with_reducible exact Or.inr rfl | exact Nat.le_of_ble_eq_true rfl)
    exact h8
  · exact h.elim
theorem me_X5_gone {l : Launch} (hl : l.stackTraces = false) : mm_Met l yX5_gone cX5_gone 10 (some .int) [] 8 146 0 sp_X5_gone := mm_mt hl rn_X5_gone ⟨plX5, rfl⟩ kkX5_gone rfl ⟨Nat.le_of_ble_eq_true rfl, Nat.le_of_ble_eq_true rfl⟩ flkX5 (fun _ h => nomatch h) (⟨mm_pe (me_X5_setOf hl) mwX5_setOf (mm_t7 72 rfl rfl) (Nat.le_of_ble_eq_true rfl) (Nat.le_of_ble_eq_true rfl), mm_pe (me_X5_cornerOf hl) mwX5_cornerOf (mm_t6 185 rfl rfl) (Nat.le_of_ble_eq_true rfl) (Nat.le_of_ble_eq_true rfl), mm_pe (me_X5_has hl) mwX5_has (mm_t6 221 rfl rfl) (Nat.le_of_ble_eq_true rfl) (Nat.le_of_ble_eq_true rfl), mm_pe (me_X5_leaving hl) mwX5_leaving (mm_t7 52 rfl rfl) (Nat.le_of_ble_eq_true rfl) (Nat.le_of_ble_eq_true rfl), mm_pe (me_X5_put hl) mwX5_put (mm_t6 197 rfl rfl) (Nat.le_of_ble_eq_true rfl) (Nat.le_of_ble_eq_true rfl), trivial⟩) (mm_xe0 _) n9X5
def sp_X5_completed : mm_S := fun av M d Q => match av with
  | [.inr (.inr (.inl o)), .inl k, .inl up] =>  o = 17 ∧ tX M ∧ (0 ≤ k ∧ k < 4) ∧ mV M k.toNat ∧ wD (vX M) (8 + 2 * k.toNat) ∧ (up = 0 ∨ up = 1) ∧ ∀ M' (c : Nat), fX M M' ∧ M' 17 = M 17 ∧ fr [8 + 2 * k.toNat, 8 + 2 * k.toNat + 1] (vX M) (vX M') ∧ mV M' k.toNat ∧ wD (vX M') (8 + 2 * k.toNat) ∧ comR up (8 + 2 * k.toNat) (vX M) (vX M') c ∧ M' 21 k.toNat = M 21 k.toNat + c → Q (.inl (some (mm_I c))) M' d
  | _ => False
def ct_X5_completed : List (Nat × mm_Ca) := [(127, (0, 4, 14, sp_X5_gone, 0))]
abbrev rr_X5_completed (Q : mm_Q) := mm_run (mm_look flX5) (mm_look ct_X5_completed) mm_x0 (mm_look ([] : List (Nat × Int))) (fun _ => none) 1 0 (fun _ _ => none) Q kdX5_completed
set_option maxRecDepth 20000 in
theorem lp_X5_completed {d : List Nat} {up : Int} {k : Nat} (hk : k < 4) (hu : up = 0 ∨ up = 1) : ∀ (j p c0 : Nat) (M : mm_M) (Q : mm_Q), 31 ≤ p + j → p ≤ 31 → tX M → mV M k → wD (vX M) (8 + 2 * k) → (∀ M' (m c : Nat), fX M M' ∧ M' 17 = M 17 ∧ fr [8 + 2 * k, 8 + 2 * k + 1] (vX M) (vX M') ∧ mV M' k ∧ wD (vX M') (8 + 2 * k) ∧ comL up (8 + 2 * k) m p (vX M) (vX M') c ∧ M' 21 k = M 21 k + c → Q (.inl (some (mm_I (c0 + c)))) M' d) → rr_X5_completed Q 16 [some (mm_R 17), some (mm_I k), some (mm_I up), some (mm_I c0), some (mm_I p)] [] M d 0 := by
  have hw := isKk hk
  intro j
  induction j with
  | zero =>
    intro p c0 M Q hj hp ht hv hD hq
    have v1 := hv.1
    have en := vX_n (M := M) hk
    have h9 : M 21 k < p → Q (.inl (some (mm_I c0))) M d := fun h => by
      have := hq M 0 0 ⟨fX.rf, rfl, fr.rf, hv, hD, ⟨by rw [en]; exact h, rfl, rfl⟩, by omega⟩
      rw [show (c0 : Int) + ((0 : Nat) : Int) = c0 by omega] at this
      exact this
    obtain ⟨K, hK, hK2⟩ : ∃ K : Nat → mm_K, (∀ t ls st M d u, K t ls st M d u → rr_X5_completed Q t ls st M d u) ∧ (∀ t ls st M d u, rr_X5_completed Q t ls st M d u → K t ls st M d u) := ⟨rr_X5_completed Q, fun _ _ _ _ _ _ h => h, fun _ _ _ _ _ _ h => h⟩
    refine mm_run_at (stop := [27]) (S := K) kkX5_completed 90 ?_ (fun _ _ _ _ _ _ _ h => hK _ _ _ _ _ _ h)
    repeat' (first | with_reducible assumption | with_reducible exact mm_i17 | with_reducible exact mm_i18 | with_reducible exact mm_i19 | with_reducible exact mm_i20 | with_reducible exact mm_i21 | with_reducible exact mm_i22 | ((with_reducible show mm_rv _ _ _ _ _); first | exact True.intro | exact mm_i17 | exact mm_i18 | exact mm_i19 | exact mm_i20 | exact mm_i21 | exact mm_i22) | ((with_reducible show mm_bool _ _); first | exact True.intro | exact Or.inl rfl | exact Or.inr rfl | (show (_ : Int) = 0 ∨ _ = 1)) | refine And.intro ?_ ?_ | intro _ | with_reducible exact True.intro | exact rfl | with_reducible exact Or.inl rfl | with_reducible exact Or.inr rfl | exact Nat.le_of_ble_eq_true rfl)
    all_goals (try simp (disch := omega) only [InI, Int.toNat_natCast, Int.tmod_eq_emod_of_nonneg, Int.tdiv_eq_ediv_of_nonneg, true_implies, true_or, or_true, mm_l18, mm_l19, mm_l20, mm_l21, mm_l22] at *)
    all_goals first | omega | exact h9 (by omega) | skip
  | succ j ih =>
    intro p c0 M Q hj hp ht hv hD hq
    have v1 := hv.1
    have en := vX_n (M := M) hk
    have h9 : M 21 k < p → Q (.inl (some (mm_I c0))) M d := fun h => by
      have := hq M 0 0 ⟨fX.rf, rfl, fr.rf, hv, hD, ⟨by rw [en]; exact h, rfl, rfl⟩, by omega⟩
      rw [show (c0 : Int) + ((0 : Nat) : Int) = c0 by omega] at this
      exact this
    obtain ⟨K, hK, hK2⟩ : ∃ K : Nat → mm_K, (∀ t ls st M d u, K t ls st M d u → rr_X5_completed Q t ls st M d u) ∧ (∀ t ls st M d u, rr_X5_completed Q t ls st M d u → K t ls st M d u) := ⟨rr_X5_completed Q, fun _ _ _ _ _ _ h => h, fun _ _ _ _ _ _ h => h⟩
    have nxt : p ≤ M 21 k → ∀ M1 (r : Nat), fX M M1 ∧ M1 17 = M 17 ∧ fr [8 + 2 * k, 8 + 2 * k + 1] (vX M) (vX M1) ∧ mV M1 k ∧ wD (vX M1) (8 + 2 * k) ∧ goR up (8 + 2 * k) r p (vX M) (vX M1) ∧ M1 21 k = M 21 k + r → K 16 [some (mm_R 17), some (mm_I k), some (mm_I up), some (mm_I ((c0 : Int) + r)), some (mm_I ((p : Int) + 1))] [] M1 d 0 := by
      intro hpl M1 r g
      obtain ⟨g1, g2, g3, g4, g5, g6, g7⟩ := g
      have h := ih (p + 1) (c0 + r) M1 Q (by omega) (by omega) (tX_to ht g3 hw) g4 g5 (fun M' m c h => by
        have h10 := hq M' (m + 1) (r + c) ⟨g1.tr h.1, by rw [h.2.1, g2], g3.tr h.2.2.1, h.2.2.2.1, h.2.2.2.2.1, ⟨by rw [en]; exact hpl, r, vX M1, c, g6, h.2.2.2.2.2.1, rfl⟩, by have := h.2.2.2.2.2.2; omega⟩
        rw [show ((c0 + r : Nat) : Int) + c = (c0 : Int) + ((r + c : Nat) : Int) by omega]
        exact h10)
      exact hK2 _ _ _ _ _ _ h
    refine mm_run_at (stop := [16]) (S := K) kkX5_completed 90 ?_ (fun _ _ _ _ _ _ _ h => hK _ _ _ _ _ _ h)
    repeat' (first | with_reducible assumption | with_reducible exact mm_i17 | with_reducible exact mm_i18 | with_reducible exact mm_i19 | with_reducible exact mm_i20 | with_reducible exact mm_i21 | with_reducible exact mm_i22 | ((with_reducible show mm_rv _ _ _ _ _); first | exact True.intro | exact mm_i17 | exact mm_i18 | exact mm_i19 | exact mm_i20 | exact mm_i21 | exact mm_i22 | ((with_reducible show mV _ _); exact hv) | ((with_reducible show wD _ _); exact hD)) | ((with_reducible show mV _ _); exact hv) | ((with_reducible show wD _ _); exact hD) | ((with_reducible show mm_bool _ _); first | exact True.intro | exact Or.inl rfl | exact Or.inr rfl | (show (_ : Int) = 0 ∨ _ = 1)) | refine And.intro ?_ ?_ | intro _ | with_reducible exact True.intro | exact rfl | with_reducible exact Or.inl rfl | with_reducible exact Or.inr rfl | exact Nat.le_of_ble_eq_true rfl)
    all_goals (try simp (disch := omega) only [InI, Int.toNat_natCast, Int.tmod_eq_emod_of_nonneg, Int.tdiv_eq_ediv_of_nonneg, true_implies, true_or, or_true, mm_l18, mm_l19, mm_l20, mm_l21, mm_l22] at *)
    all_goals first | omega | exact nxt (by omega) _ _ (by assumption) | exact h9 (by omega) | skip
set_option maxRecDepth 20000 in
theorem rn_X5_completed : mm_RN flX5 ct_X5_completed mm_x0 [] 1 0 5 kdX5_completed sp_X5_completed := by
  intro av M d Q h
  unfold sp_X5_completed at h
  split at h
  · rename_i o k up
    obtain ⟨rfl, ht, hk, hv, hD, hu, hq⟩ := h
    have v1 := hv.1
    obtain ⟨k, rfl⟩ := Int.eq_ofNat_of_zero_le hk.1
    simp only [Int.toNat_natCast] at *
    have hw := isKk (show k < 4 by omega)
    have en := vX_n (M := M) (k := k) (by omega)
    obtain ⟨K, hK, hK2⟩ : ∃ K : Nat → mm_K, (∀ t ls st M d u, K t ls st M d u → rr_X5_completed Q t ls st M d u) ∧ (∀ t ls st M d u, rr_X5_completed Q t ls st M d u → K t ls st M d u) := ⟨rr_X5_completed Q, fun _ _ _ _ _ _ h => h, fun _ _ _ _ _ _ h => h⟩
    have nxt : ∀ M1 (r : Nat), fX M M1 ∧ M1 17 = M 17 ∧ fr [8 + 2 * k, 8 + 2 * k + 1] (vX M) (vX M1) ∧ mV M1 k ∧ wD (vX M1) (8 + 2 * k) ∧ goR up (8 + 2 * k) r (M 21 k) (vX M) (vX M1) ∧ M1 21 k = M 21 k + r → K 16 [some (mm_R 17), some (mm_I k), some (mm_I up), some (mm_I r), some (mm_I 0)] [] M1 d 0 := by
      intro M1 r g
      obtain ⟨g1, g2, g3, g4, g5, g6, g7⟩ := g
      refine hK2 _ _ _ _ _ _ (lp_X5_completed (by omega) hu 31 0 r M1 Q (by omega) (by omega) (tX_to ht g3 hw) g4 g5 (fun M' m c h => ?_))
      have h10 := hq M' (r + c) ⟨g1.tr h.1, by rw [h.2.1, g2], g3.tr h.2.2.1, h.2.2.2.1, h.2.2.2.2.1, ⟨r, vX M1, m, c, by rw [en]; exact g6, h.2.2.2.2.2.1, rfl⟩, by have := h.2.2.2.2.2.2; omega⟩
      rw [show (r : Int) + (c : Int) = ((r + c : Nat) : Int) by omega]
      exact h10
    refine ⟨Nat.le_of_ble_eq_true rfl, ?_⟩
    refine mm_run_at (stop := [16]) (S := K) kkX5_completed 90 ?_ (fun _ _ _ _ _ _ _ h => hK _ _ _ _ _ _ h)
    repeat' (first | with_reducible assumption | with_reducible exact mm_i17 | with_reducible exact mm_i18 | with_reducible exact mm_i19 | with_reducible exact mm_i20 | with_reducible exact mm_i21 | with_reducible exact mm_i22 | ((with_reducible show mm_rv _ _ _ _ _); first | exact True.intro | exact mm_i17 | exact mm_i18 | exact mm_i19 | exact mm_i20 | exact mm_i21 | exact mm_i22 | ((with_reducible show mV _ _); exact hv) | ((with_reducible show wD _ _); exact hD)) | ((with_reducible show mV _ _); exact hv) | ((with_reducible show wD _ _); exact hD) | ((with_reducible show mm_bool _ _); first | exact True.intro | exact Or.inl rfl | exact Or.inr rfl | (show (_ : Int) = 0 ∨ _ = 1)) | refine And.intro ?_ ?_ | intro _ | with_reducible exact True.intro | exact rfl | with_reducible exact Or.inl rfl | with_reducible exact Or.inr rfl | exact Nat.le_of_ble_eq_true rfl)
    all_goals (try simp (disch := omega) only [InI, Int.toNat_natCast, Int.tmod_eq_emod_of_nonneg, Int.tdiv_eq_ediv_of_nonneg, true_implies, true_or, or_true, mm_l18, mm_l19, mm_l20, mm_l21, mm_l22] at *)
    all_goals first | omega | exact nxt _ _ (by assumption) | skip
  · exact h.elim
theorem me_X5_completed {l : Launch} (hl : l.stackTraces = false) : mm_Met l yX5_completed cX5_completed 5 (some .int) [] 9 175 0 sp_X5_completed := mm_mt hl rn_X5_completed ⟨plX5, rfl⟩ kkX5_completed rfl ⟨Nat.le_of_ble_eq_true rfl, Nat.le_of_ble_eq_true rfl⟩ flkX5 (fun _ h => nomatch h) (⟨mm_pe (me_X5_gone hl) mwX5_gone (mm_t7 68 rfl rfl) (Nat.le_of_ble_eq_true rfl) (Nat.le_of_ble_eq_true rfl), trivial⟩) (mm_xe0 _) n9X5

