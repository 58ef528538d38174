/-! the model: acts on two walks -/
theorem rot_rd {V V' : mm_M} {w v t : Nat} (hw : isK w) (hv : isK v) (hr : rdR V w v) (h0 : 0 ≤ V v 2) (h : rotR V V' v t) (hf : fr [v, v + 1] V V') : rdR V' w v := by
  obtain ⟨r1, r2, r3, r4⟩ := hr
  obtain ⟨a1, a2, a3, a4⟩ := h
  have lv := isK_le hv
  obtain ⟨n, hn⟩ := Int.eq_ofNat_of_zero_le h0
  have e3 : V' 3 = V 3 := hf 3 (by simp; omega)
  have e4 : V' 4 = V 4 := hf 4 (by simp; omega)
  have hgl : ∀ s, gl V' s = gl V s := fun s => by unfold gl; rw [e3, e4]
  refine ⟨r1, by rw [a1]; exact r2, ?_, fun j hj => ?_⟩
  · unfold cor at r3 ⊢
    rw [if_pos (by omega)] at r3
    rw [a1, if_pos (by omega), hgl, a2 _ (by omega)]
    by_cases e : t = 0
    · rw [a3 (Or.inl e), e, Nat.add_zero, Nat.mod_eq_of_lt (by omega)]
      exact r3
    · rw [a4 (by omega) (by omega), show (V v 2 - 1).toNat + t = (t - 1) + (V v 2).toNat by omega, Nat.add_mod_right]
  · rw [a1] at hj
    rw [a2 j hj]
    have hm := Nat.mod_lt (j + t) (show 0 < (V v 2).toNat by omega)
    exact wNk (r4 _ (by omega)) hf hw hv r1
theorem xP_sp {M M' : mm_M} {k v : Nat} {p : Int} (ha : xA M) (hk : k < 3) (hv : v < 3) (g1 : fX M M') (g2 : fr [8 + 2 * k, 8 + 2 * k + 1, 8 + 2 * v, 16] (vX M) (vX M')) (g3 : splR (vX M) (vX M') (8 + 2 * k) (8 + 2 * v) p) (g4 : ∀ j, j ≠ 4 → vX M' 16 j = vX M 16 j) (g5 : vX M' 16 4 = (if M 17 10 = k ∨ M 17 10 = v then 1 else M 17 13)) (g6 : mV M' k) (g7 : wD (vX M') (8 + 2 * k)) (g8 : mV M' v) (g9 : ∀ j, j ≠ 13 → M' 17 j = M 17 j) : xP M M' := by
  obtain ⟨at1, at2, c1, c2, c3⟩ := ha.1
  have h10 := ha.2
  have hl := ha.l
  refine ⟨g1, ⟨⟨at1.fr g2 (by simp; omega) (by simp; omega) (by simp; omega), fun x hx => ?_, ?_, ?_, fun h3 h4 => ?_⟩, cF.of g2 (by simp; omega), by rw [g2 1 (by simp; omega)]⟩, by rw [g9 10 (by omega)]; exact ha.2⟩
  · have hl3 := isK_le hx.k
    by_cases e : x = 8 + 2 * k
    · rw [e]
      exact ⟨(mV_i (by omega)).mp g6, g7⟩
    · by_cases e2 : x = 8 + 2 * v
      · rw [e2]
        exact ⟨(mV_i (by omega)).mp g8, wD_0 g3.2.2.1⟩
      · have := wk_ap hx.k (isKk (show k < 4 by omega)) e
        have := wk_ap hx.k (isKk (show v < 4 by omega)) e2
        exact wV.me (at2 x hx) (g2 x (by simp; omega)) (g2 (x + 1) (by simp; omega)) (g2 2 (by simp; omega))
  · rw [g4 1 (by omega)]
    exact c1
  · rw [g5]
    split
    · exact Or.inr rfl
    · exact hl
  · rw [g4 1 (by omega)] at h3 ⊢
    rw [g4 2 (by omega), g4 3 (by omega)]
    rw [g5] at h4
    split at h4
    · exact absurd h4 (by omega)
    · have hc := c3 h3 h4
      have e1 := vX_c1 M
      have h5 : ¬ M 17 10 = -1 := fun e => by rw [if_pos e] at e1; exact h3 e1
      rw [if_neg h5] at e1
      have e : (vX M 16 1).toNat = 8 + 2 * (M 17 10).toNat := by omega
      have e6 : vX M' (vX M 16 1).toNat 2 = vX M (vX M 16 1).toNat 2 := by
        rw [g2 _ (by simp; omega)]
      rw [e6]
      exact hc
theorem xP_two {M M1 : mm_M} {k v : Nat} (ha : xA M) (hk : k < 3) (hv : v < 3) (hx : fX M M1) (h17 : M1 17 = M 17) (hf : fr [8 + 2 * k, 8 + 2 * k + 1, 8 + 2 * v, 8 + 2 * v + 1] (vX M) (vX M1)) (v1 : mV M1 k) (d1 : wD (vX M1) (8 + 2 * k)) (v2 : mV M1 v) (d2 : wD (vX M1) (8 + 2 * v)) : xP M (mm_up (mm_up M1 17 13 (if M1 17 10 = k then 1 else M1 17 13)) 17 13 (if (mm_up M1 17 13 (if M1 17 10 = k then 1 else M1 17 13)) 17 10 = v then 1 else (mm_up M1 17 13 (if M1 17 10 = k then 1 else M1 17 13)) 17 13)) := by
  have h10 : M1 17 10 = M 17 10 := by rw [h17]
  obtain ⟨k1, k2, k3⟩ := ha.1.two (isW3k hv) (isW3k hk) (hf.mono (by intro x hx; simp at hx ⊢; omega)) ⟨(mV_i (by omega)).mp v2, d2⟩ ⟨(mV_i (by omega)).mp v1, d1⟩
  obtain ⟨b1, b2, b3⟩ := k1.one (los_v (M := M1) (k := k) (by rw [h10]; exact ha.2))
  have e10 : (mm_up M1 17 13 (if M1 17 10 = k then 1 else M1 17 13)) 17 10 = M 17 10 := by rw [mm_up_ob2 (by omega)]; exact h10
  have b4 := b1.los (los_v (M := mm_up M1 17 13 (if M1 17 10 = k then 1 else M1 17 13)) (k := v) (by rw [e10]; exact ha.2))
  exact ⟨(hx.tr (fX.rf.up (by omega))).tr (fX.rf.up (by omega)), cP.of (k2.tr b2) (b3.trans k3) b4, by rw [mm_up_ob2 (by omega), e10]; exact ha.2⟩
theorem at_X5_splice_0 : mm_at 0 kdX5_splice = [(0, .aload_n 0, 0), (1, .aload_n 0, 0), (2, .iload_n 1, 0), (3, .invokevirtual 178, 0), (6, .ifCond .ne 25, 31), (9, .aload_n 0, 0), (10, .iload_n 2, 0), (11, .invokevirtual 178, 0), (14, .ifCond .ne 17, 31), (17, .iload_n 3, 0), (18, .iconst 0, 0), (19, .aload_n 0, 0), (20, .getfield 19, 0), (23, .iload_n 1, 0), (24, .iaload, 0), (25, .invokestatic 45, 0), (28, .ifCond .ne 7, 35), (31, .iconst 1, 0), (32, .goto 4, 36), (35, .iconst 0, 0), (36, .iconst 1, 0), (37, .invokevirtual 146, 0), (40, .ifCond .eq 5, 45), (43, .iconst 0, 0), (44, .ireturn, 0), (45, .aload_n 0, 0), (46, .iload_n 1, 0), (47, .iload_n 2, 0), (48, .invokevirtual 194, 0), (51, .ifCond .ne 18, 69), (54, .aload_n 0, 0), (55, .getfield 22, 0), (58, .iload_n 2, 0), (59, .iaload, 0), (60, .aload_n 0, 0), (61, .iload_n 1, 0), (62, .iload_n 3, 0), (63, .invokevirtual 105, 0), (66, .if_icmp .eq 8, 74), (69, .aload_n 0, 0), (70, .invokevirtual 149, 0), (73, .ireturn, 0), (74, .aload_n 0, 0), (75, .iload_n 1, 0), (76, .iload_n 2, 0), (77, .iload_n 3, 0), (78, .invokevirtual 197, 0), (81, .aload_n 0, 0), (82, .aload_n 0, 0), (83, .getfield 19, 0), (86, .iload_n 1, 0), (87, .iaload, 0), (88, .invokevirtual 156, 0), (91, .ireturn, 0)] := rfl
theorem at_X5_splice_31 : mm_at 31 kdX5_splice = [(31, .iconst 1, 0), (32, .goto 4, 36), (35, .iconst 0, 0), (36, .iconst 1, 0), (37, .invokevirtual 146, 0), (40, .ifCond .eq 5, 45), (43, .iconst 0, 0), (44, .ireturn, 0), (45, .aload_n 0, 0), (46, .iload_n 1, 0), (47, .iload_n 2, 0), (48, .invokevirtual 194, 0), (51, .ifCond .ne 18, 69), (54, .aload_n 0, 0), (55, .getfield 22, 0), (58, .iload_n 2, 0), (59, .iaload, 0), (60, .aload_n 0, 0), (61, .iload_n 1, 0), (62, .iload_n 3, 0), (63, .invokevirtual 105, 0), (66, .if_icmp .eq 8, 74), (69, .aload_n 0, 0), (70, .invokevirtual 149, 0), (73, .ireturn, 0), (74, .aload_n 0, 0), (75, .iload_n 1, 0), (76, .iload_n 2, 0), (77, .iload_n 3, 0), (78, .invokevirtual 197, 0), (81, .aload_n 0, 0), (82, .aload_n 0, 0), (83, .getfield 19, 0), (86, .iload_n 1, 0), (87, .iaload, 0), (88, .invokevirtual 156, 0), (91, .ireturn, 0)] := rfl
theorem at_X5_splice_35 : mm_at 35 kdX5_splice = [(35, .iconst 0, 0), (36, .iconst 1, 0), (37, .invokevirtual 146, 0), (40, .ifCond .eq 5, 45), (43, .iconst 0, 0), (44, .ireturn, 0), (45, .aload_n 0, 0), (46, .iload_n 1, 0), (47, .iload_n 2, 0), (48, .invokevirtual 194, 0), (51, .ifCond .ne 18, 69), (54, .aload_n 0, 0), (55, .getfield 22, 0), (58, .iload_n 2, 0), (59, .iaload, 0), (60, .aload_n 0, 0), (61, .iload_n 1, 0), (62, .iload_n 3, 0), (63, .invokevirtual 105, 0), (66, .if_icmp .eq 8, 74), (69, .aload_n 0, 0), (70, .invokevirtual 149, 0), (73, .ireturn, 0), (74, .aload_n 0, 0), (75, .iload_n 1, 0), (76, .iload_n 2, 0), (77, .iload_n 3, 0), (78, .invokevirtual 197, 0), (81, .aload_n 0, 0), (82, .aload_n 0, 0), (83, .getfield 19, 0), (86, .iload_n 1, 0), (87, .iaload, 0), (88, .invokevirtual 156, 0), (91, .ireturn, 0)] := rfl
theorem at_X5_splice_36 : mm_at 36 kdX5_splice = [(36, .iconst 1, 0), (37, .invokevirtual 146, 0), (40, .ifCond .eq 5, 45), (43, .iconst 0, 0), (44, .ireturn, 0), (45, .aload_n 0, 0), (46, .iload_n 1, 0), (47, .iload_n 2, 0), (48, .invokevirtual 194, 0), (51, .ifCond .ne 18, 69), (54, .aload_n 0, 0), (55, .getfield 22, 0), (58, .iload_n 2, 0), (59, .iaload, 0), (60, .aload_n 0, 0), (61, .iload_n 1, 0), (62, .iload_n 3, 0), (63, .invokevirtual 105, 0), (66, .if_icmp .eq 8, 74), (69, .aload_n 0, 0), (70, .invokevirtual 149, 0), (73, .ireturn, 0), (74, .aload_n 0, 0), (75, .iload_n 1, 0), (76, .iload_n 2, 0), (77, .iload_n 3, 0), (78, .invokevirtual 197, 0), (81, .aload_n 0, 0), (82, .aload_n 0, 0), (83, .getfield 19, 0), (86, .iload_n 1, 0), (87, .iaload, 0), (88, .invokevirtual 156, 0), (91, .ireturn, 0)] := rfl
theorem at_X5_splice_45 : mm_at 45 kdX5_splice = [(45, .aload_n 0, 0), (46, .iload_n 1, 0), (47, .iload_n 2, 0), (48, .invokevirtual 194, 0), (51, .ifCond .ne 18, 69), (54, .aload_n 0, 0), (55, .getfield 22, 0), (58, .iload_n 2, 0), (59, .iaload, 0), (60, .aload_n 0, 0), (61, .iload_n 1, 0), (62, .iload_n 3, 0), (63, .invokevirtual 105, 0), (66, .if_icmp .eq 8, 74), (69, .aload_n 0, 0), (70, .invokevirtual 149, 0), (73, .ireturn, 0), (74, .aload_n 0, 0), (75, .iload_n 1, 0), (76, .iload_n 2, 0), (77, .iload_n 3, 0), (78, .invokevirtual 197, 0), (81, .aload_n 0, 0), (82, .aload_n 0, 0), (83, .getfield 19, 0), (86, .iload_n 1, 0), (87, .iaload, 0), (88, .invokevirtual 156, 0), (91, .ireturn, 0)] := rfl
theorem at_X5_splice_69 : mm_at 69 kdX5_splice = [(69, .aload_n 0, 0), (70, .invokevirtual 149, 0), (73, .ireturn, 0), (74, .aload_n 0, 0), (75, .iload_n 1, 0), (76, .iload_n 2, 0), (77, .iload_n 3, 0), (78, .invokevirtual 197, 0), (81, .aload_n 0, 0), (82, .aload_n 0, 0), (83, .getfield 19, 0), (86, .iload_n 1, 0), (87, .iaload, 0), (88, .invokevirtual 156, 0), (91, .ireturn, 0)] := rfl
theorem at_X5_splice_74 : mm_at 74 kdX5_splice = [(74, .aload_n 0, 0), (75, .iload_n 1, 0), (76, .iload_n 2, 0), (77, .iload_n 3, 0), (78, .invokevirtual 197, 0), (81, .aload_n 0, 0), (82, .aload_n 0, 0), (83, .getfield 19, 0), (86, .iload_n 1, 0), (87, .iaload, 0), (88, .invokevirtual 156, 0), (91, .ireturn, 0)] := rfl
def sp_X5_splice : mm_S := fun av M d Q => match av with
  | [.inr (.inr (.inl o)), .inl a, .inl b, .inl p] =>  o = 17 ∧ xA M ∧ InI a ∧ InI b ∧ InI p ∧ ∀ M' r, xP M M' → Q (.inl (some (mm_I r))) M' d
  | _ => False
def ct_X5_splice : List (Nat × mm_Ca) := [(178, (0, 2, 14, sp_X5_isNoWalk, 0)), (45, (1, 3, 0, sp_X5_isIn, 0)), (146, (0, 3, 14, sp_X5_start, 0)), (194, (0, 3, 14, sp_X5_isNoRound, 0)), (105, (0, 3, 14, sp_X5_cornerOf, 0)), (149, (0, 1, 14, sp_X5_cannot, 0)), (197, (0, 4, 14, sp_X5_spliced, 0)), (156, (0, 2, 14, sp_X5_act, 0))]
abbrev rr_X5_splice (Q : mm_Q) := mm_run (mm_look flX5) (mm_look ct_X5_splice) mm_x0 (mm_look ([] : List (Nat × Int))) (fun _ => none) 1 0 (fun _ _ => none) Q kdX5_splice
set_option maxRecDepth 20000 in
theorem rn_X5_splice : mm_RN flX5 ct_X5_splice mm_x0 [] 1 0 4 kdX5_splice sp_X5_splice := by
  intro av M d Q h
  unfold sp_X5_splice at h
  split at h
  · rename_i o a b p
    obtain ⟨rfl, ha, h1, h2, h3, hq⟩ := h
    have hlI : (0 ≤ a ∧ a ≤ 2) → InI (M 21 a.toNat) := fun h => InI_l (ha.v (k := a.toNat) (by omega)) rfl
    obtain ⟨K, hK, hK2⟩ : ∃ K : Nat → mm_K, (∀ t ls st M d u, K t ls st M d u → rr_X5_splice Q t ls st M d u) ∧ (∀ t ls st M d u, rr_X5_splice Q t ls st M d u → K t ls st M d u) := ⟨rr_X5_splice Q, fun _ _ _ _ _ _ h => h, fun _ _ _ _ _ _ h => h⟩
    have k45 : ∀ v, (0 ≤ a ∧ a ≤ 2) → (0 ≤ b ∧ b ≤ 2) → (0 ≤ p ∧ p ≤ M 21 a.toNat) → K 45 [some (mm_R 17), some (mm_I a), some (mm_I b), some (mm_I p)] [] (mm_up M 17 0 v) d 0 := by
      intro v ca cb cp
      obtain ⟨M1, e0, ha1, hP1, e17, eo⟩ := xS (v := v) ha
      rw [e0]
      rw [← eo 21 (by omega)] at cp
      obtain ⟨k, rfl⟩ := Int.eq_ofNat_of_zero_le ca.1
      obtain ⟨w, rfl⟩ := Int.eq_ofNat_of_zero_le cb.1
      have hk : k < 3 := by omega
      have hw : w < 3 := by omega
      have hv := ha1.v hk
      have hvw := ha1.v hw
      have ht := ha1.t
      have v1 := hv.1
      have w2 := hvw.2.1
      have q9 := hq _ (-9) (hP1.tr (xA_u (x := M1 17 15 + 1) ha1))
      have k81 : ∀ M2, (fX M1 M2 ∧ fr [8 + 2 * k, 8 + 2 * k + 1, 8 + 2 * w, 16] (vX M1) (vX M2) ∧ splR (vX M1) (vX M2) (8 + 2 * k) (8 + 2 * w) p ∧ (∀ j, j ≠ 4 → vX M2 16 j = vX M1 16 j) ∧ vX M2 16 4 = (if M1 17 10 = k ∨ M1 17 10 = w then 1 else M1 17 13) ∧ mV M2 k ∧ wD (vX M2) (8 + 2 * k) ∧ mV M2 w ∧ (∀ j, j ≠ 13 → M2 17 j = M1 17 j)) → K 81 [some (mm_R 17), some (mm_I k), some (mm_I w), some (mm_I p)] [] M2 d 0 := by
        intro M2 ⟨g1, g2, g3, g4, g5, g6, g7, g8, g9⟩
        have hP2 := xP_sp ha1 hk hw g1 g2 g3 g4 g5 g6 g7 g8 g9
        have q0 : ∀ x r, Q (.inl (some (mm_I r))) (mm_up M2 17 14 x) d := fun x r => hq _ _ (xP_ac (hP1.tr hP2))
        have g61 := g6.1
        clear g3 g4 g5 g9
        refine hK2 _ _ _ _ _ _ ?_
        refine mm_run_at (stop := []) (S := K) kkX5_splice 90 ?_ (fun _ _ _ _ _ _ _ h => hK _ _ _ _ _ _ h)
        repeat' (first | with_reducible assumption | with_reducible exact True.intro | with_reducible exact mm_i17 | with_reducible exact mm_i18 | with_reducible exact mm_i19 | with_reducible exact mm_i20 | with_reducible exact mm_i21 | with_reducible exact mm_i22 | ((with_reducible show mm_rv _ _ _ _ _); first | exact True.intro | exact mm_i17 | exact mm_i18 | exact mm_i19 | exact mm_i20 | exact mm_i21 | exact mm_i22) | ((with_reducible show mm_bool _ _); first | exact True.intro | exact Or.inl rfl | exact Or.inr rfl | (show (_ : Int) = 0 ∨ _ = 1)) | rfl | with_reducible exact Or.inl rfl | with_reducible exact Or.inr rfl | exact Nat.le_of_ble_eq_true rfl | refine And.intro ?_ ?_ | intro _)
        all_goals (try simp (disch := omega) only [InI, Int.toNat_natCast, Int.tmod_eq_emod_of_nonneg, Int.tdiv_eq_ediv_of_nonneg, true_implies, true_or, or_true, mm_l18, mm_l19, mm_l20, mm_l21, mm_l22] at *)
        all_goals first | omega | exact q0 _ _ | skip
      have k74 : rdR (vX M1) (8 + 2 * k) (8 + 2 * w) → K 74 [some (mm_R 17), some (mm_I k), some (mm_I w), some (mm_I p)] [] M1 d 0 := by
        intro hr
        refine hK2 _ _ _ _ _ _ ?_
        refine mm_run_at (stop := [81]) (S := K) kkX5_splice 90 ?_ (fun _ _ _ _ _ _ _ h => hK _ _ _ _ _ _ h)
        exact mm_c5 rfl (Nat.le_of_ble_eq_true rfl) (by exact mm_i17) (Nat.le_of_ble_eq_true rfl) (Nat.le_of_ble_eq_true rfl) (mm_a7 rfl ha1 ⟨by omega, by omega⟩ ⟨by omega, by omega⟩ hr cp (fun M2 h => k81 M2 h))
      have k54 : rdR (vX M1) (8 + 2 * k) (8 + 2 * w) → K 54 [some (mm_R 17), some (mm_I k), some (mm_I w), some (mm_I p)] [] M1 d 0 := by
        intro hr
        have k74 := k74 hr
        clear hr k81
        refine hK2 _ _ _ _ _ _ ?_
        refine mm_run_at (stop := [74]) (S := K) kkX5_splice 90 ?_ (fun _ _ _ _ _ _ _ h => hK _ _ _ _ _ _ h)
        repeat' (first | with_reducible assumption | with_reducible exact True.intro | with_reducible exact mm_i17 | with_reducible exact mm_i18 | with_reducible exact mm_i19 | with_reducible exact mm_i20 | with_reducible exact mm_i21 | with_reducible exact mm_i22 | ((with_reducible show mm_rv _ _ _ _ _); first | exact True.intro | exact mm_i17 | exact mm_i18 | exact mm_i19 | exact mm_i20 | exact mm_i21 | exact mm_i22 | ((with_reducible show mV _ _); exact hv)) | ((with_reducible show mV _ _); exact hv) | ((with_reducible show mm_bool _ _); first | exact True.intro | exact Or.inl rfl | exact Or.inr rfl | (show (_ : Int) = 0 ∨ _ = 1)) | rfl | with_reducible exact Or.inl rfl | with_reducible exact Or.inr rfl | exact Nat.le_of_ble_eq_true rfl | refine And.intro ?_ ?_ | intro _)
        all_goals (try simp (disch := omega) only [InI, Int.toNat_natCast, Int.tmod_eq_emod_of_nonneg, Int.tdiv_eq_ediv_of_nonneg, true_implies, true_or, or_true, mm_l18, mm_l19, mm_l20, mm_l21, mm_l22] at *)
        all_goals first | omega | exact q9 | exact k74 | skip
      have k51 : ∀ r, (r = 0 ∨ r = 1) ∧ (r = 0 ↔ rdR (vX M1) (8 + 2 * k) (8 + 2 * w)) → K 51 [some (mm_R 17), some (mm_I k), some (mm_I w), some (mm_I p)] [mm_I r] M1 d 0 := by
        intro r ⟨hr, hr2⟩
        have k54 := fun h => k54 (hr2.mp h)
        clear hr2 k81 k74
        refine hK2 _ _ _ _ _ _ ?_
        refine mm_run_at (stop := [54]) (S := K) kkX5_splice 90 ?_ (fun _ _ _ _ _ _ _ h => hK _ _ _ _ _ _ h)
        repeat' (first | with_reducible assumption | with_reducible exact True.intro | with_reducible exact mm_i17 | with_reducible exact mm_i18 | with_reducible exact mm_i19 | with_reducible exact mm_i20 | with_reducible exact mm_i21 | with_reducible exact mm_i22 | ((with_reducible show mm_rv _ _ _ _ _); first | exact True.intro | exact mm_i17 | exact mm_i18 | exact mm_i19 | exact mm_i20 | exact mm_i21 | exact mm_i22) | ((with_reducible show mm_bool _ _); first | exact True.intro | exact Or.inl rfl | exact Or.inr rfl | (show (_ : Int) = 0 ∨ _ = 1)) | rfl | with_reducible exact Or.inl rfl | with_reducible exact Or.inr rfl | exact Nat.le_of_ble_eq_true rfl | refine And.intro ?_ ?_ | intro _)
        all_goals (try simp (disch := omega) only [InI, Int.toNat_natCast, Int.tmod_eq_emod_of_nonneg, Int.tdiv_eq_ediv_of_nonneg, true_implies, true_or, or_true, mm_l18, mm_l19, mm_l20, mm_l21, mm_l22] at *)
        all_goals first | omega | exact q9 | exact k54 (by omega) | skip
      refine hK2 _ _ _ _ _ _ ?_
      refine mm_run_at (stop := [51]) (S := K) kkX5_splice 90 ?_ (fun _ _ _ _ _ _ _ h => hK _ _ _ _ _ _ h)
      repeat' (first | with_reducible assumption | with_reducible exact True.intro | with_reducible exact mm_i17 | with_reducible exact mm_i18 | with_reducible exact mm_i19 | with_reducible exact mm_i20 | with_reducible exact mm_i21 | with_reducible exact mm_i22 | ((with_reducible show mm_rv _ _ _ _ _); first | exact True.intro | exact mm_i17 | exact mm_i18 | exact mm_i19 | exact mm_i20 | exact mm_i21 | exact mm_i22 | ((with_reducible show mV _ _); exact hv) | ((with_reducible show mV _ _); exact hvw)) | ((with_reducible show mV _ _); exact hv) | ((with_reducible show mV _ _); exact hvw) | ((with_reducible show mm_bool _ _); first | exact True.intro | exact Or.inl rfl | exact Or.inr rfl | (show (_ : Int) = 0 ∨ _ = 1)) | rfl | with_reducible exact Or.inl rfl | with_reducible exact Or.inr rfl | exact Nat.le_of_ble_eq_true rfl | refine And.intro ?_ ?_ | intro _)
      all_goals (try simp (disch := omega) only [InI, Int.toNat_natCast, Int.tmod_eq_emod_of_nonneg, Int.tdiv_eq_ediv_of_nonneg, true_implies, true_or, or_true, mm_l18, mm_l19, mm_l20, mm_l21, mm_l22] at *)
      all_goals first | omega | exact k51 _ (by assumption) | skip
    refine ⟨Nat.le_of_ble_eq_true rfl, ?_⟩
    refine mm_run_at (stop := [45]) (S := K) kkX5_splice 90 ?_ (fun _ _ _ _ _ _ _ h => hK _ _ _ _ _ _ h)
    repeat' (first | with_reducible assumption | with_reducible exact True.intro | with_reducible exact mm_i17 | with_reducible exact mm_i18 | with_reducible exact mm_i19 | with_reducible exact mm_i20 | with_reducible exact mm_i21 | with_reducible exact mm_i22 | ((with_reducible show mm_rv _ _ _ _ _); first | exact True.intro | exact mm_i17 | exact mm_i18 | exact mm_i19 | exact mm_i20 | exact mm_i21 | exact mm_i22 | ((with_reducible show InI _); exact hlI (by omega))) | ((with_reducible show InI _); exact hlI (by omega)) | ((with_reducible show mm_bool _ _); first | exact True.intro | exact Or.inl rfl | exact Or.inr rfl | (show (_ : Int) = 0 ∨ _ = 1)) | rfl | with_reducible exact Or.inl rfl | with_reducible exact Or.inr rfl | exact Nat.le_of_ble_eq_true rfl | refine And.intro ?_ ?_ | intro _)
    all_goals (try simp (disch := omega) only [InI, Int.toNat_natCast, Int.tmod_eq_emod_of_nonneg, Int.tdiv_eq_ediv_of_nonneg, true_implies, true_or, or_true, mm_l18, mm_l19, mm_l20, mm_l21, mm_l22] at *)
    all_goals first | omega | exact hq _ _ (xP_s ha) | exact k45 _ (by omega) (by omega) (by omega) | skip
  · exact h.elim
theorem me_X5_splice {l : Launch} (hl : l.stackTraces = false) : mm_Met l yX5_splice cX5_splice 4 (some .int) [] 11 208 0 sp_X5_splice := mm_mt hl rn_X5_splice ⟨by decide, rfl⟩ kkX5_splice rfl ⟨by decide, by decide⟩ flkX5 (fun _ h => nomatch h) (⟨mm_pe (me_X5_isNoWalk hl) mwX5_isNoWalk (mm_t7 40 rfl rfl) (Nat.le_of_ble_eq_true rfl) (Nat.le_of_ble_eq_true rfl), mm_pe (me_X5_isIn hl) mwX5_isIn (mm_t6 111 rfl rfl) (Nat.le_of_ble_eq_true rfl) (Nat.le_of_ble_eq_true rfl), mm_pe (me_X5_start hl) mwX5_start (mm_t6 114 rfl rfl) (Nat.le_of_ble_eq_true rfl) (Nat.le_of_ble_eq_true rfl), mm_pe (me_X5_isNoRound hl) mwX5_isNoRound (mm_t7 92 rfl rfl) (Nat.le_of_ble_eq_true rfl) (Nat.le_of_ble_eq_true rfl), mm_pe (me_X5_cornerOf hl) mwX5_cornerOf (mm_t6 189 rfl rfl) (Nat.le_of_ble_eq_true rfl) (Nat.le_of_ble_eq_true rfl), mm_pe (me_X5_cannot hl) mwX5_cannot (mm_t6 122 rfl rfl) (Nat.le_of_ble_eq_true rfl) (Nat.le_of_ble_eq_true rfl), mm_pe (me_X5_spliced hl) mwX5_spliced (mm_t7 100 rfl rfl) (Nat.le_of_ble_eq_true rfl) (Nat.le_of_ble_eq_true rfl), mm_pe (me_X5_act hl) mwX5_act (mm_t6 134 rfl rfl) (Nat.le_of_ble_eq_true rfl) (Nat.le_of_ble_eq_true rfl), trivial⟩) (mm_xe0 _)
theorem at_X5_join_0 : mm_at 0 kdX5_join = [(0, .aload_n 0, 0), (1, .aload_n 0, 0), (2, .iload_n 1, 0), (3, .invokevirtual 178, 0), (6, .ifCond .ne 11, 17), (9, .aload_n 0, 0), (10, .iload_n 2, 0), (11, .invokevirtual 178, 0), (14, .ifCond .eq 7, 21), (17, .iconst 1, 0), (18, .goto 4, 22), (21, .iconst 0, 0), (22, .iconst 1, 0), (23, .invokevirtual 146, 0), (26, .ifCond .eq 5, 31), (29, .iconst 0, 0), (30, .ireturn, 0), (31, .aload_n 0, 0), (32, .iload_n 1, 0), (33, .iload_n 2, 0), (34, .invokevirtual 194, 0), (37, .ifCond .eq 8, 45), (40, .aload_n 0, 0), (41, .invokevirtual 149, 0), (44, .ireturn, 0), (45, .iconst 0, 0), (46, .istore_n 3, 0), (47, .iload_n 3, 0), (48, .aload_n 0, 0), (49, .getfield 19, 0), (52, .iload_n 1, 0), (53, .iaload, 0), (54, .if_icmp .gt 68, 122), (57, .iconst 0, 0), (58, .istore 4, 0), (60, .iload 4, 0), (62, .aload_n 0, 0), (63, .getfield 19, 0), (66, .iload_n 2, 0), (67, .iaload, 0), (68, .if_icmp .ge 48, 116), (71, .aload_n 0, 0), (72, .iload_n 1, 0), (73, .iload_n 3, 0), (74, .invokevirtual 105, 0), (77, .aload_n 0, 0), (78, .iload_n 2, 0), (79, .iload 4, 0), (81, .invokevirtual 105, 0), (84, .if_icmp .eq 6, 90), (87, .goto 23, 110), (90, .aload_n 0, 0), (91, .iload_n 2, 0), (92, .iload 4, 0), (94, .invokevirtual 200, 0), (97, .aload_n 0, 0), (98, .iload_n 1, 0), (99, .iload_n 2, 0), (100, .iload_n 3, 0), (101, .invokevirtual 197, 0), (104, .aload_n 0, 0), (105, .iload_n 3, 0), (106, .invokevirtual 156, 0), (109, .ireturn, 0), (110, .iinc 4 1, 0), (113, .goto (-53), 60), (116, .iinc 3 1, 0), (119, .goto (-72), 47), (122, .aload_n 0, 0), (123, .invokevirtual 149, 0), (126, .ireturn, 0)] := rfl
theorem at_X5_join_17 : mm_at 17 kdX5_join = [(17, .iconst 1, 0), (18, .goto 4, 22), (21, .iconst 0, 0), (22, .iconst 1, 0), (23, .invokevirtual 146, 0), (26, .ifCond .eq 5, 31), (29, .iconst 0, 0), (30, .ireturn, 0), (31, .aload_n 0, 0), (32, .iload_n 1, 0), (33, .iload_n 2, 0), (34, .invokevirtual 194, 0), (37, .ifCond .eq 8, 45), (40, .aload_n 0, 0), (41, .invokevirtual 149, 0), (44, .ireturn, 0), (45, .iconst 0, 0), (46, .istore_n 3, 0), (47, .iload_n 3, 0), (48, .aload_n 0, 0), (49, .getfield 19, 0), (52, .iload_n 1, 0), (53, .iaload, 0), (54, .if_icmp .gt 68, 122), (57, .iconst 0, 0), (58, .istore 4, 0), (60, .iload 4, 0), (62, .aload_n 0, 0), (63, .getfield 19, 0), (66, .iload_n 2, 0), (67, .iaload, 0), (68, .if_icmp .ge 48, 116), (71, .aload_n 0, 0), (72, .iload_n 1, 0), (73, .iload_n 3, 0), (74, .invokevirtual 105, 0), (77, .aload_n 0, 0), (78, .iload_n 2, 0), (79, .iload 4, 0), (81, .invokevirtual 105, 0), (84, .if_icmp .eq 6, 90), (87, .goto 23, 110), (90, .aload_n 0, 0), (91, .iload_n 2, 0), (92, .iload 4, 0), (94, .invokevirtual 200, 0), (97, .aload_n 0, 0), (98, .iload_n 1, 0), (99, .iload_n 2, 0), (100, .iload_n 3, 0), (101, .invokevirtual 197, 0), (104, .aload_n 0, 0), (105, .iload_n 3, 0), (106, .invokevirtual 156, 0), (109, .ireturn, 0), (110, .iinc 4 1, 0), (113, .goto (-53), 60), (116, .iinc 3 1, 0), (119, .goto (-72), 47), (122, .aload_n 0, 0), (123, .invokevirtual 149, 0), (126, .ireturn, 0)] := rfl
theorem at_X5_join_21 : mm_at 21 kdX5_join = [(21, .iconst 0, 0), (22, .iconst 1, 0), (23, .invokevirtual 146, 0), (26, .ifCond .eq 5, 31), (29, .iconst 0, 0), (30, .ireturn, 0), (31, .aload_n 0, 0), (32, .iload_n 1, 0), (33, .iload_n 2, 0), (34, .invokevirtual 194, 0), (37, .ifCond .eq 8, 45), (40, .aload_n 0, 0), (41, .invokevirtual 149, 0), (44, .ireturn, 0), (45, .iconst 0, 0), (46, .istore_n 3, 0), (47, .iload_n 3, 0), (48, .aload_n 0, 0), (49, .getfield 19, 0), (52, .iload_n 1, 0), (53, .iaload, 0), (54, .if_icmp .gt 68, 122), (57, .iconst 0, 0), (58, .istore 4, 0), (60, .iload 4, 0), (62, .aload_n 0, 0), (63, .getfield 19, 0), (66, .iload_n 2, 0), (67, .iaload, 0), (68, .if_icmp .ge 48, 116), (71, .aload_n 0, 0), (72, .iload_n 1, 0), (73, .iload_n 3, 0), (74, .invokevirtual 105, 0), (77, .aload_n 0, 0), (78, .iload_n 2, 0), (79, .iload 4, 0), (81, .invokevirtual 105, 0), (84, .if_icmp .eq 6, 90), (87, .goto 23, 110), (90, .aload_n 0, 0), (91, .iload_n 2, 0), (92, .iload 4, 0), (94, .invokevirtual 200, 0), (97, .aload_n 0, 0), (98, .iload_n 1, 0), (99, .iload_n 2, 0), (100, .iload_n 3, 0), (101, .invokevirtual 197, 0), (104, .aload_n 0, 0), (105, .iload_n 3, 0), (106, .invokevirtual 156, 0), (109, .ireturn, 0), (110, .iinc 4 1, 0), (113, .goto (-53), 60), (116, .iinc 3 1, 0), (119, .goto (-72), 47), (122, .aload_n 0, 0), (123, .invokevirtual 149, 0), (126, .ireturn, 0)] := rfl
theorem at_X5_join_22 : mm_at 22 kdX5_join = [(22, .iconst 1, 0), (23, .invokevirtual 146, 0), (26, .ifCond .eq 5, 31), (29, .iconst 0, 0), (30, .ireturn, 0), (31, .aload_n 0, 0), (32, .iload_n 1, 0), (33, .iload_n 2, 0), (34, .invokevirtual 194, 0), (37, .ifCond .eq 8, 45), (40, .aload_n 0, 0), (41, .invokevirtual 149, 0), (44, .ireturn, 0), (45, .iconst 0, 0), (46, .istore_n 3, 0), (47, .iload_n 3, 0), (48, .aload_n 0, 0), (49, .getfield 19, 0), (52, .iload_n 1, 0), (53, .iaload, 0), (54, .if_icmp .gt 68, 122), (57, .iconst 0, 0), (58, .istore 4, 0), (60, .iload 4, 0), (62, .aload_n 0, 0), (63, .getfield 19, 0), (66, .iload_n 2, 0), (67, .iaload, 0), (68, .if_icmp .ge 48, 116), (71, .aload_n 0, 0), (72, .iload_n 1, 0), (73, .iload_n 3, 0), (74, .invokevirtual 105, 0), (77, .aload_n 0, 0), (78, .iload_n 2, 0), (79, .iload 4, 0), (81, .invokevirtual 105, 0), (84, .if_icmp .eq 6, 90), (87, .goto 23, 110), (90, .aload_n 0, 0), (91, .iload_n 2, 0), (92, .iload 4, 0), (94, .invokevirtual 200, 0), (97, .aload_n 0, 0), (98, .iload_n 1, 0), (99, .iload_n 2, 0), (100, .iload_n 3, 0), (101, .invokevirtual 197, 0), (104, .aload_n 0, 0), (105, .iload_n 3, 0), (106, .invokevirtual 156, 0), (109, .ireturn, 0), (110, .iinc 4 1, 0), (113, .goto (-53), 60), (116, .iinc 3 1, 0), (119, .goto (-72), 47), (122, .aload_n 0, 0), (123, .invokevirtual 149, 0), (126, .ireturn, 0)] := rfl
theorem at_X5_join_31 : mm_at 31 kdX5_join = [(31, .aload_n 0, 0), (32, .iload_n 1, 0), (33, .iload_n 2, 0), (34, .invokevirtual 194, 0), (37, .ifCond .eq 8, 45), (40, .aload_n 0, 0), (41, .invokevirtual 149, 0), (44, .ireturn, 0), (45, .iconst 0, 0), (46, .istore_n 3, 0), (47, .iload_n 3, 0), (48, .aload_n 0, 0), (49, .getfield 19, 0), (52, .iload_n 1, 0), (53, .iaload, 0), (54, .if_icmp .gt 68, 122), (57, .iconst 0, 0), (58, .istore 4, 0), (60, .iload 4, 0), (62, .aload_n 0, 0), (63, .getfield 19, 0), (66, .iload_n 2, 0), (67, .iaload, 0), (68, .if_icmp .ge 48, 116), (71, .aload_n 0, 0), (72, .iload_n 1, 0), (73, .iload_n 3, 0), (74, .invokevirtual 105, 0), (77, .aload_n 0, 0), (78, .iload_n 2, 0), (79, .iload 4, 0), (81, .invokevirtual 105, 0), (84, .if_icmp .eq 6, 90), (87, .goto 23, 110), (90, .aload_n 0, 0), (91, .iload_n 2, 0), (92, .iload 4, 0), (94, .invokevirtual 200, 0), (97, .aload_n 0, 0), (98, .iload_n 1, 0), (99, .iload_n 2, 0), (100, .iload_n 3, 0), (101, .invokevirtual 197, 0), (104, .aload_n 0, 0), (105, .iload_n 3, 0), (106, .invokevirtual 156, 0), (109, .ireturn, 0), (110, .iinc 4 1, 0), (113, .goto (-53), 60), (116, .iinc 3 1, 0), (119, .goto (-72), 47), (122, .aload_n 0, 0), (123, .invokevirtual 149, 0), (126, .ireturn, 0)] := rfl
theorem at_X5_join_45 : mm_at 45 kdX5_join = [(45, .iconst 0, 0), (46, .istore_n 3, 0), (47, .iload_n 3, 0), (48, .aload_n 0, 0), (49, .getfield 19, 0), (52, .iload_n 1, 0), (53, .iaload, 0), (54, .if_icmp .gt 68, 122), (57, .iconst 0, 0), (58, .istore 4, 0), (60, .iload 4, 0), (62, .aload_n 0, 0), (63, .getfield 19, 0), (66, .iload_n 2, 0), (67, .iaload, 0), (68, .if_icmp .ge 48, 116), (71, .aload_n 0, 0), (72, .iload_n 1, 0), (73, .iload_n 3, 0), (74, .invokevirtual 105, 0), (77, .aload_n 0, 0), (78, .iload_n 2, 0), (79, .iload 4, 0), (81, .invokevirtual 105, 0), (84, .if_icmp .eq 6, 90), (87, .goto 23, 110), (90, .aload_n 0, 0), (91, .iload_n 2, 0), (92, .iload 4, 0), (94, .invokevirtual 200, 0), (97, .aload_n 0, 0), (98, .iload_n 1, 0), (99, .iload_n 2, 0), (100, .iload_n 3, 0), (101, .invokevirtual 197, 0), (104, .aload_n 0, 0), (105, .iload_n 3, 0), (106, .invokevirtual 156, 0), (109, .ireturn, 0), (110, .iinc 4 1, 0), (113, .goto (-53), 60), (116, .iinc 3 1, 0), (119, .goto (-72), 47), (122, .aload_n 0, 0), (123, .invokevirtual 149, 0), (126, .ireturn, 0)] := rfl
theorem at_X5_join_47 : mm_at 47 kdX5_join = [(47, .iload_n 3, 0), (48, .aload_n 0, 0), (49, .getfield 19, 0), (52, .iload_n 1, 0), (53, .iaload, 0), (54, .if_icmp .gt 68, 122), (57, .iconst 0, 0), (58, .istore 4, 0), (60, .iload 4, 0), (62, .aload_n 0, 0), (63, .getfield 19, 0), (66, .iload_n 2, 0), (67, .iaload, 0), (68, .if_icmp .ge 48, 116), (71, .aload_n 0, 0), (72, .iload_n 1, 0), (73, .iload_n 3, 0), (74, .invokevirtual 105, 0), (77, .aload_n 0, 0), (78, .iload_n 2, 0), (79, .iload 4, 0), (81, .invokevirtual 105, 0), (84, .if_icmp .eq 6, 90), (87, .goto 23, 110), (90, .aload_n 0, 0), (91, .iload_n 2, 0), (92, .iload 4, 0), (94, .invokevirtual 200, 0), (97, .aload_n 0, 0), (98, .iload_n 1, 0), (99, .iload_n 2, 0), (100, .iload_n 3, 0), (101, .invokevirtual 197, 0), (104, .aload_n 0, 0), (105, .iload_n 3, 0), (106, .invokevirtual 156, 0), (109, .ireturn, 0), (110, .iinc 4 1, 0), (113, .goto (-53), 60), (116, .iinc 3 1, 0), (119, .goto (-72), 47), (122, .aload_n 0, 0), (123, .invokevirtual 149, 0), (126, .ireturn, 0)] := rfl
theorem at_X5_join_60 : mm_at 60 kdX5_join = [(60, .iload 4, 0), (62, .aload_n 0, 0), (63, .getfield 19, 0), (66, .iload_n 2, 0), (67, .iaload, 0), (68, .if_icmp .ge 48, 116), (71, .aload_n 0, 0), (72, .iload_n 1, 0), (73, .iload_n 3, 0), (74, .invokevirtual 105, 0), (77, .aload_n 0, 0), (78, .iload_n 2, 0), (79, .iload 4, 0), (81, .invokevirtual 105, 0), (84, .if_icmp .eq 6, 90), (87, .goto 23, 110), (90, .aload_n 0, 0), (91, .iload_n 2, 0), (92, .iload 4, 0), (94, .invokevirtual 200, 0), (97, .aload_n 0, 0), (98, .iload_n 1, 0), (99, .iload_n 2, 0), (100, .iload_n 3, 0), (101, .invokevirtual 197, 0), (104, .aload_n 0, 0), (105, .iload_n 3, 0), (106, .invokevirtual 156, 0), (109, .ireturn, 0), (110, .iinc 4 1, 0), (113, .goto (-53), 60), (116, .iinc 3 1, 0), (119, .goto (-72), 47), (122, .aload_n 0, 0), (123, .invokevirtual 149, 0), (126, .ireturn, 0)] := rfl
theorem at_X5_join_90 : mm_at 90 kdX5_join = [(90, .aload_n 0, 0), (91, .iload_n 2, 0), (92, .iload 4, 0), (94, .invokevirtual 200, 0), (97, .aload_n 0, 0), (98, .iload_n 1, 0), (99, .iload_n 2, 0), (100, .iload_n 3, 0), (101, .invokevirtual 197, 0), (104, .aload_n 0, 0), (105, .iload_n 3, 0), (106, .invokevirtual 156, 0), (109, .ireturn, 0), (110, .iinc 4 1, 0), (113, .goto (-53), 60), (116, .iinc 3 1, 0), (119, .goto (-72), 47), (122, .aload_n 0, 0), (123, .invokevirtual 149, 0), (126, .ireturn, 0)] := rfl
theorem at_X5_join_110 : mm_at 110 kdX5_join = [(110, .iinc 4 1, 0), (113, .goto (-53), 60), (116, .iinc 3 1, 0), (119, .goto (-72), 47), (122, .aload_n 0, 0), (123, .invokevirtual 149, 0), (126, .ireturn, 0)] := rfl
theorem at_X5_join_116 : mm_at 116 kdX5_join = [(116, .iinc 3 1, 0), (119, .goto (-72), 47), (122, .aload_n 0, 0), (123, .invokevirtual 149, 0), (126, .ireturn, 0)] := rfl
theorem at_X5_join_122 : mm_at 122 kdX5_join = [(122, .aload_n 0, 0), (123, .invokevirtual 149, 0), (126, .ireturn, 0)] := rfl
def sp_X5_join : mm_S := fun av M d Q => match av with
  | [.inr (.inr (.inl o)), .inl a, .inl b] =>  o = 17 ∧ xA M ∧ InI a ∧ InI b ∧ ∀ M' r, xP M M' → Q (.inl (some (mm_I r))) M' d
  | _ => False
def ct_X5_join : List (Nat × mm_Ca) := [(178, (0, 2, 14, sp_X5_isNoWalk, 0)), (146, (0, 3, 14, sp_X5_start, 0)), (194, (0, 3, 14, sp_X5_isNoRound, 0)), (149, (0, 1, 14, sp_X5_cannot, 0)), (105, (0, 3, 14, sp_X5_cornerOf, 0)), (200, (0, 3, 14, sp_X5_rotated, 0)), (197, (0, 4, 14, sp_X5_spliced, 0)), (156, (0, 2, 14, sp_X5_act, 0))]
abbrev rr_X5_join (Q : mm_Q) := mm_run (mm_look flX5) (mm_look ct_X5_join) mm_x0 (mm_look ([] : List (Nat × Int))) (fun _ => none) 1 0 (fun _ _ => none) Q kdX5_join
set_option maxRecDepth 20000 in
theorem lp2_X5_join {M : mm_M} {d : List Nat} {Q : mm_Q} {k v n m i : Nat} (hk : k < 3) (hv : v < 3) (ha : xA M) (hn : M 21 k = n) (hm : M 21 v = m) (hi : i ≤ n) (h90 : ∀ j : Nat, j < m → rr_X5_join Q 90 [some (mm_R 17), some (mm_I k), some (mm_I v), some (mm_I i), some (mm_I j)] [] M d 0) (h116 : ∀ x4, rr_X5_join Q 116 [some (mm_R 17), some (mm_I k), some (mm_I v), some (mm_I i), x4] [] M d 0) : ∀ (b j : Nat), j + b = m → rr_X5_join Q 60 [some (mm_R 17), some (mm_I k), some (mm_I v), some (mm_I i), some (mm_I j)] [] M d 0 := by
  have ht := ha.t
  have mk := ha.v hk
  have mv := ha.v hv
  have b1 := mk.1
  have b2 := mv.1
  intro b
  induction b with
  | zero =>
    intro j hj
    have e : j = m := by omega
    subst e
    obtain ⟨K, hK, hK2⟩ : ∃ K : Nat → mm_K, (∀ t ls st M d u, K t ls st M d u → rr_X5_join Q t ls st M d u) ∧ (∀ t ls st M d u, rr_X5_join Q t ls st M d u → K t ls st M d u) := ⟨rr_X5_join Q, fun _ _ _ _ _ _ h => h, fun _ _ _ _ _ _ h => h⟩
    have h9 := hK2 _ _ _ _ _ _ (h116 (some (mm_I j)))
    refine mm_run_at (stop := [71, 116]) (S := K) kkX5_join 90 ?_ (fun _ _ _ _ _ _ _ h => hK _ _ _ _ _ _ h)
    repeat' (first | with_reducible assumption | with_reducible exact True.intro | with_reducible exact mm_i17 | with_reducible exact mm_i18 | with_reducible exact mm_i19 | with_reducible exact mm_i20 | with_reducible exact mm_i21 | with_reducible exact mm_i22 | ((with_reducible show mm_rv _ _ _ _ _); first | exact True.intro | exact mm_i17 | exact mm_i18 | exact mm_i19 | exact mm_i20 | exact mm_i21 | exact mm_i22) | ((with_reducible show mm_bool _ _); first | exact True.intro | exact Or.inl rfl | exact Or.inr rfl | (show (_ : Int) = 0 ∨ _ = 1)) | rfl | with_reducible exact Or.inl rfl | with_reducible exact Or.inr rfl | exact Nat.le_of_ble_eq_true rfl | refine And.intro ?_ ?_ | intro _)
    all_goals (try simp (disch := omega) only [InI, Int.toNat_natCast, Int.tmod_eq_emod_of_nonneg, Int.tdiv_eq_ediv_of_nonneg, true_implies, true_or, or_true, mm_l18, mm_l19, mm_l20, mm_l21, mm_l22] at *)
    all_goals first | omega | exact h9 | skip
  | succ b ih =>
    intro j hj
    obtain ⟨K, hK, hK2⟩ : ∃ K : Nat → mm_K, (∀ t ls st M d u, K t ls st M d u → rr_X5_join Q t ls st M d u) ∧ (∀ t ls st M d u, rr_X5_join Q t ls st M d u → K t ls st M d u) := ⟨rr_X5_join Q, fun _ _ _ _ _ _ h => h, fun _ _ _ _ _ _ h => h⟩
    have s1 := hK2 _ _ _ _ _ _ (ih (j + 1) (by omega))
    have s2 := hK2 _ _ _ _ _ _ (h90 j (by omega))
    clear ih
    refine mm_run_at (stop := [60, 90, 116]) (S := K) kkX5_join 90 ?_ (fun _ _ _ _ _ _ _ h => hK _ _ _ _ _ _ h)
    repeat' (first | with_reducible assumption | with_reducible exact True.intro | with_reducible exact mm_i17 | with_reducible exact mm_i18 | with_reducible exact mm_i19 | with_reducible exact mm_i20 | with_reducible exact mm_i21 | with_reducible exact mm_i22 | ((with_reducible show mm_rv _ _ _ _ _); first | exact True.intro | exact mm_i17 | exact mm_i18 | exact mm_i19 | exact mm_i20 | exact mm_i21 | exact mm_i22 | ((with_reducible show mV _ _); exact mk) | ((with_reducible show mV _ _); exact mv)) | ((with_reducible show mV _ _); exact mk) | ((with_reducible show mV _ _); exact mv) | ((with_reducible show mm_bool _ _); first | exact True.intro | exact Or.inl rfl | exact Or.inr rfl | (show (_ : Int) = 0 ∨ _ = 1)) | rfl | with_reducible exact Or.inl rfl | with_reducible exact Or.inr rfl | exact Nat.le_of_ble_eq_true rfl | refine And.intro ?_ ?_ | intro _)
    all_goals (try simp (disch := omega) only [InI, Int.toNat_natCast, Int.tmod_eq_emod_of_nonneg, Int.tdiv_eq_ediv_of_nonneg, true_implies, true_or, or_true, mm_l18, mm_l19, mm_l20, mm_l21, mm_l22] at *)
    all_goals first | omega | exact s1 | exact s2 | skip
set_option maxRecDepth 20000 in
theorem lp_X5_join {M : mm_M} {d : List Nat} {Q : mm_Q} {k v n m : Nat} (hk : k < 3) (hv : v < 3) (ha : xA M) (hn : M 21 k = n) (hm : M 21 v = m) (q9 : Q (.inl (some (mm_I (-9)))) (mm_up M 17 15 (M 17 15 + 1)) d) (h90 : ∀ i j : Nat, i ≤ n → j < m → rr_X5_join Q 90 [some (mm_R 17), some (mm_I k), some (mm_I v), some (mm_I i), some (mm_I j)] [] M d 0) : ∀ (b i : Nat) (x4 : Option mm_V), i + b = n + 1 → rr_X5_join Q 47 [some (mm_R 17), some (mm_I k), some (mm_I v), some (mm_I i), x4] [] M d 0 := by
  have b1 := (ha.v hk).1
  have b2 := (ha.v hv).1
  intro b
  induction b with
  | zero =>
    intro i x4 hi
    obtain ⟨K, hK, hK2⟩ : ∃ K : Nat → mm_K, (∀ t ls st M d u, K t ls st M d u → rr_X5_join Q t ls st M d u) ∧ (∀ t ls st M d u, rr_X5_join Q t ls st M d u → K t ls st M d u) := ⟨rr_X5_join Q, fun _ _ _ _ _ _ h => h, fun _ _ _ _ _ _ h => h⟩
    refine mm_run_at (stop := [57]) (S := K) kkX5_join 90 ?_ (fun _ _ _ _ _ _ _ h => hK _ _ _ _ _ _ h)
    repeat' (first | with_reducible assumption | with_reducible exact True.intro | with_reducible exact mm_i17 | with_reducible exact mm_i18 | with_reducible exact mm_i19 | with_reducible exact mm_i20 | with_reducible exact mm_i21 | with_reducible exact mm_i22 | ((with_reducible show mm_rv _ _ _ _ _); first | exact True.intro | exact mm_i17 | exact mm_i18 | exact mm_i19 | exact mm_i20 | exact mm_i21 | exact mm_i22) | ((with_reducible show mm_bool _ _); first | exact True.intro | exact Or.inl rfl | exact Or.inr rfl | (show (_ : Int) = 0 ∨ _ = 1)) | rfl | with_reducible exact Or.inl rfl | with_reducible exact Or.inr rfl | exact Nat.le_of_ble_eq_true rfl | refine And.intro ?_ ?_ | intro _)
    all_goals (try simp (disch := omega) only [InI, Int.toNat_natCast, Int.tmod_eq_emod_of_nonneg, Int.tdiv_eq_ediv_of_nonneg, true_implies, true_or, or_true, mm_l18, mm_l19, mm_l20, mm_l21, mm_l22] at *)
    all_goals first | omega | exact q9 | skip
  | succ b ih =>
    intro i x4 hi
    have k116 : ∀ x4, rr_X5_join Q 116 [some (mm_R 17), some (mm_I k), some (mm_I v), some (mm_I i), x4] [] M d 0 := by
      intro x4
      obtain ⟨K, hK, hK2⟩ : ∃ K : Nat → mm_K, (∀ t ls st M d u, K t ls st M d u → rr_X5_join Q t ls st M d u) ∧ (∀ t ls st M d u, rr_X5_join Q t ls st M d u → K t ls st M d u) := ⟨rr_X5_join Q, fun _ _ _ _ _ _ h => h, fun _ _ _ _ _ _ h => h⟩
      have st := hK2 _ _ _ _ _ _ (ih (i + 1) x4 (by omega))
      refine mm_run_at (stop := [47]) (S := K) kkX5_join 90 ?_ (fun _ _ _ _ _ _ _ h => hK _ _ _ _ _ _ h)
      repeat' (first | with_reducible assumption | with_reducible exact True.intro | with_reducible exact mm_i17 | with_reducible exact mm_i18 | with_reducible exact mm_i19 | with_reducible exact mm_i20 | with_reducible exact mm_i21 | with_reducible exact mm_i22 | ((with_reducible show mm_rv _ _ _ _ _); first | exact True.intro | exact mm_i17 | exact mm_i18 | exact mm_i19 | exact mm_i20 | exact mm_i21 | exact mm_i22) | ((with_reducible show mm_bool _ _); first | exact True.intro | exact Or.inl rfl | exact Or.inr rfl | (show (_ : Int) = 0 ∨ _ = 1)) | rfl | with_reducible exact Or.inl rfl | with_reducible exact Or.inr rfl | exact Nat.le_of_ble_eq_true rfl | refine And.intro ?_ ?_ | intro _)
      all_goals (try simp (disch := omega) only [InI, Int.toNat_natCast, Int.tmod_eq_emod_of_nonneg, Int.tdiv_eq_ediv_of_nonneg, true_implies, true_or, or_true, mm_l18, mm_l19, mm_l20, mm_l21, mm_l22] at *)
      all_goals first | omega | exact st | skip
    have h60 := lp2_X5_join (d := d) (Q := Q) hk hv ha hn hm (show i ≤ n by omega) (fun j hj => h90 i j (by omega) hj) k116 m 0 (by omega)
    obtain ⟨K, hK, hK2⟩ : ∃ K : Nat → mm_K, (∀ t ls st M d u, K t ls st M d u → rr_X5_join Q t ls st M d u) ∧ (∀ t ls st M d u, rr_X5_join Q t ls st M d u → K t ls st M d u) := ⟨rr_X5_join Q, fun _ _ _ _ _ _ h => h, fun _ _ _ _ _ _ h => h⟩
    have h60 := hK2 _ _ _ _ _ _ h60
    clear ih
    refine mm_run_at (stop := [60, 122]) (S := K) kkX5_join 90 ?_ (fun _ _ _ _ _ _ _ h => hK _ _ _ _ _ _ h)
    repeat' (first | with_reducible assumption | with_reducible exact True.intro | with_reducible exact mm_i17 | with_reducible exact mm_i18 | with_reducible exact mm_i19 | with_reducible exact mm_i20 | with_reducible exact mm_i21 | with_reducible exact mm_i22 | ((with_reducible show mm_rv _ _ _ _ _); first | exact True.intro | exact mm_i17 | exact mm_i18 | exact mm_i19 | exact mm_i20 | exact mm_i21 | exact mm_i22) | ((with_reducible show mm_bool _ _); first | exact True.intro | exact Or.inl rfl | exact Or.inr rfl | (show (_ : Int) = 0 ∨ _ = 1)) | rfl | with_reducible exact Or.inl rfl | with_reducible exact Or.inr rfl | exact Nat.le_of_ble_eq_true rfl | refine And.intro ?_ ?_ | intro _)
    all_goals (try simp (disch := omega) only [InI, Int.toNat_natCast, Int.tmod_eq_emod_of_nonneg, Int.tdiv_eq_ediv_of_nonneg, true_implies, true_or, or_true, mm_l18, mm_l19, mm_l20, mm_l21, mm_l22] at *)
    all_goals first | omega | exact h60 | skip
set_option maxRecDepth 20000 in
theorem rn_X5_join : mm_RN flX5 ct_X5_join mm_x0 [] 1 0 5 kdX5_join sp_X5_join := by
  intro av M d Q h
  unfold sp_X5_join at h
  split at h
  · rename_i o a b
    obtain ⟨rfl, ha, h1, h2, hq⟩ := h
    obtain ⟨K, hK, hK2⟩ : ∃ K : Nat → mm_K, (∀ t ls st M d u, K t ls st M d u → rr_X5_join Q t ls st M d u) ∧ (∀ t ls st M d u, rr_X5_join Q t ls st M d u → K t ls st M d u) := ⟨rr_X5_join Q, fun _ _ _ _ _ _ h => h, fun _ _ _ _ _ _ h => h⟩
    have k31 : ∀ v, (0 ≤ a ∧ a ≤ 2) → (0 ≤ b ∧ b ≤ 2) → K 31 [some (mm_R 17), some (mm_I a), some (mm_I b), none, none] [] (mm_up M 17 0 v) d 0 := by
      intro v ca cb
      obtain ⟨M1, e0, ha1, hP1, e17, eo⟩ := xS (v := v) ha
      rw [e0]
      obtain ⟨k, rfl⟩ := Int.eq_ofNat_of_zero_le ca.1
      obtain ⟨w, rfl⟩ := Int.eq_ofNat_of_zero_le cb.1
      have hk : k < 3 := by omega
      have hw : w < 3 := by omega
      have hv := ha1.v hk
      have hvw := ha1.v hw
      have hDw := ha1.d hw
      have ht := ha1.t
      have v1 := hv.1
      have w1 := hvw.1
      obtain ⟨n, hn⟩ := Int.eq_ofNat_of_zero_le v1.1
      obtain ⟨m, hm⟩ := Int.eq_ofNat_of_zero_le w1.1
      have q9 := hq _ (-9) (hP1.tr (xA_u (x := M1 17 15 + 1) ha1))
      have k90 : rdR (vX M1) (8 + 2 * k) (8 + 2 * w) → ∀ i j : Nat, i ≤ n → j < m → rr_X5_join Q 90 [some (mm_R 17), some (mm_I k), some (mm_I w), some (mm_I i), some (mm_I j)] [] M1 d 0 := by
        intro hr i j hi hj
        have k97 : ∀ M2, fX M1 M2 ∧ M2 17 = M1 17 ∧ fr [8 + 2 * w, 8 + 2 * w + 1] (vX M1) (vX M2) ∧ rotR (vX M1) (vX M2) (8 + 2 * w) (if M1 21 w = 0 then 0 else j) ∧ mV M2 w → K 97 [some (mm_R 17), some (mm_I k), some (mm_I w), some (mm_I i), some (mm_I j)] [] M2 d 0 := by
          intro M2 ⟨g1, g2, g3, g4, g5⟩
          have el : M2 21 w = M1 21 w := by
            have := g4.1
            rw [vX_n (by omega), vX_n (by omega)] at this
            exact this
          have hP2 := (xP_q ha1 hw g1 g2 g3 g5 (rot_wD hDw g4)).1 (by omega)
          have hr2 := rot_rd (isKk (show k < 4 by omega)) (isKk (show w < 4 by omega)) hr (by rw [vX_n (by omega)]; omega) g4 g3
          have hkw : k ≠ w := fun e => hr.1 (by rw [e])
          have elk : M2 21 k = n := by rw [← hn, ← vX_n (M := M2) (by omega), ← vX_n (M := M1) (by omega), g3 (8 + 2 * k) (by simp; omega)]
          have k104 : ∀ M3, (fX M2 M3 ∧ fr [8 + 2 * k, 8 + 2 * k + 1, 8 + 2 * w, 16] (vX M2) (vX M3) ∧ splR (vX M2) (vX M3) (8 + 2 * k) (8 + 2 * w) i ∧ (∀ j, j ≠ 4 → vX M3 16 j = vX M2 16 j) ∧ vX M3 16 4 = (if M2 17 10 = k ∨ M2 17 10 = w then 1 else M2 17 13) ∧ mV M3 k ∧ wD (vX M3) (8 + 2 * k) ∧ mV M3 w ∧ (∀ j, j ≠ 13 → M3 17 j = M2 17 j)) → K 104 [some (mm_R 17), some (mm_I k), some (mm_I w), some (mm_I i), some (mm_I j)] [] M3 d 0 := by
            intro M3 ⟨b1, b2, b3, b4, b5, b6, b7, b8, b9⟩
            have hP3 := xP_sp hP2.a hk hw b1 b2 b3 b4 b5 b6 b7 b8 b9
            have q0 : ∀ x r, Q (.inl (some (mm_I r))) (mm_up M3 17 14 x) d := fun x r => hq _ _ (xP_ac ((hP1.tr hP2).tr hP3))
            clear b3 b4 b5 b9
            refine hK2 _ _ _ _ _ _ ?_
            refine mm_run_at (stop := []) (S := K) kkX5_join 90 ?_ (fun _ _ _ _ _ _ _ h => hK _ _ _ _ _ _ h)
            repeat' (first | with_reducible assumption | with_reducible exact True.intro | with_reducible exact mm_i17 | with_reducible exact mm_i18 | with_reducible exact mm_i19 | with_reducible exact mm_i20 | with_reducible exact mm_i21 | with_reducible exact mm_i22 | ((with_reducible show mm_rv _ _ _ _ _); first | exact True.intro | exact mm_i17 | exact mm_i18 | exact mm_i19 | exact mm_i20 | exact mm_i21 | exact mm_i22) | ((with_reducible show mm_bool _ _); first | exact True.intro | exact Or.inl rfl | exact Or.inr rfl | (show (_ : Int) = 0 ∨ _ = 1)) | rfl | with_reducible exact Or.inl rfl | with_reducible exact Or.inr rfl | exact Nat.le_of_ble_eq_true rfl | refine And.intro ?_ ?_ | intro _)
            all_goals (try simp (disch := omega) only [InI, Int.toNat_natCast, Int.tmod_eq_emod_of_nonneg, Int.tdiv_eq_ediv_of_nonneg, true_implies, true_or, or_true, mm_l18, mm_l19, mm_l20, mm_l21, mm_l22] at *)
            all_goals first | omega | exact q0 _ _ | skip
          refine hK2 _ _ _ _ _ _ ?_
          refine mm_run_at (stop := [104]) (S := K) kkX5_join 90 ?_ (fun _ _ _ _ _ _ _ h => hK _ _ _ _ _ _ h)
          exact mm_c5 rfl (Nat.le_of_ble_eq_true rfl) (by exact mm_i17) (Nat.le_of_ble_eq_true rfl) (Nat.le_of_ble_eq_true rfl) (mm_a7 rfl hP2.a ⟨by omega, by omega⟩ ⟨by omega, by omega⟩ hr2 ⟨by omega, by rw [Int.toNat_natCast, elk]; omega⟩ (fun M3 h => k104 M3 h))
        refine mm_run_at (stop := [97]) (S := K) kkX5_join 90 ?_ (fun _ _ _ _ _ _ _ h => hK _ _ _ _ _ _ h)
        exact mm_c5 rfl (Nat.le_of_ble_eq_true rfl) (by exact mm_i17) (Nat.le_of_ble_eq_true rfl) (Nat.le_of_ble_eq_true rfl) (mm_a6 rfl ht ⟨by omega, by omega⟩ (by rw [Int.toNat_natCast]; exact hvw) ⟨by omega, by omega⟩ (fun M2 h => k97 M2 h))
      have k40 : rdR (vX M1) (8 + 2 * k) (8 + 2 * w) → K 45 [some (mm_R 17), some (mm_I k), some (mm_I w), none, none] [] M1 d 0 := by
        intro hr
        have k47 := hK2 _ _ _ _ _ _ (lp_X5_join (d := d) (Q := Q) hk hw ha1 hn hm q9 (k90 hr) (n + 1) 0 none (by omega))
        clear hr
        refine hK2 _ _ _ _ _ _ ?_
        refine mm_run_at (stop := [47]) (S := K) kkX5_join 90 ?_ (fun _ _ _ _ _ _ _ h => hK _ _ _ _ _ _ h)
        repeat' (first | with_reducible assumption | with_reducible exact True.intro | with_reducible exact mm_i17 | with_reducible exact mm_i18 | with_reducible exact mm_i19 | with_reducible exact mm_i20 | with_reducible exact mm_i21 | with_reducible exact mm_i22 | ((with_reducible show mm_rv _ _ _ _ _); first | exact True.intro | exact mm_i17 | exact mm_i18 | exact mm_i19 | exact mm_i20 | exact mm_i21 | exact mm_i22) | ((with_reducible show mm_bool _ _); first | exact True.intro | exact Or.inl rfl | exact Or.inr rfl | (show (_ : Int) = 0 ∨ _ = 1)) | rfl | with_reducible exact Or.inl rfl | with_reducible exact Or.inr rfl | exact Nat.le_of_ble_eq_true rfl | refine And.intro ?_ ?_ | intro _)
        all_goals (try simp (disch := omega) only [InI, Int.toNat_natCast, Int.tmod_eq_emod_of_nonneg, Int.tdiv_eq_ediv_of_nonneg, true_implies, true_or, or_true, mm_l18, mm_l19, mm_l20, mm_l21, mm_l22] at *)
        all_goals first | omega | exact k47 | skip
      have k37 : ∀ r, (r = 0 ∨ r = 1) ∧ (r = 0 ↔ rdR (vX M1) (8 + 2 * k) (8 + 2 * w)) → K 37 [some (mm_R 17), some (mm_I k), some (mm_I w), none, none] [mm_I r] M1 d 0 := by
        intro r ⟨hr, hr2⟩
        have k45 := fun h => k40 (hr2.mp h)
        clear hr2 k90 k40
        refine hK2 _ _ _ _ _ _ ?_
        refine mm_run_at (stop := [45]) (S := K) kkX5_join 90 ?_ (fun _ _ _ _ _ _ _ h => hK _ _ _ _ _ _ h)
        repeat' (first | with_reducible assumption | with_reducible exact True.intro | with_reducible exact mm_i17 | with_reducible exact mm_i18 | with_reducible exact mm_i19 | with_reducible exact mm_i20 | with_reducible exact mm_i21 | with_reducible exact mm_i22 | ((with_reducible show mm_rv _ _ _ _ _); first | exact True.intro | exact mm_i17 | exact mm_i18 | exact mm_i19 | exact mm_i20 | exact mm_i21 | exact mm_i22) | ((with_reducible show mm_bool _ _); first | exact True.intro | exact Or.inl rfl | exact Or.inr rfl | (show (_ : Int) = 0 ∨ _ = 1)) | rfl | with_reducible exact Or.inl rfl | with_reducible exact Or.inr rfl | exact Nat.le_of_ble_eq_true rfl | refine And.intro ?_ ?_ | intro _)
        all_goals (try simp (disch := omega) only [InI, Int.toNat_natCast, Int.tmod_eq_emod_of_nonneg, Int.tdiv_eq_ediv_of_nonneg, true_implies, true_or, or_true, mm_l18, mm_l19, mm_l20, mm_l21, mm_l22] at *)
        all_goals first | omega | exact q9 | exact k45 (by omega) | skip
      clear k90 k40
      refine hK2 _ _ _ _ _ _ ?_
      refine mm_run_at (stop := [37]) (S := K) kkX5_join 90 ?_ (fun _ _ _ _ _ _ _ h => hK _ _ _ _ _ _ h)
      repeat' (first | with_reducible assumption | with_reducible exact True.intro | with_reducible exact mm_i17 | with_reducible exact mm_i18 | with_reducible exact mm_i19 | with_reducible exact mm_i20 | with_reducible exact mm_i21 | with_reducible exact mm_i22 | ((with_reducible show mm_rv _ _ _ _ _); first | exact True.intro | exact mm_i17 | exact mm_i18 | exact mm_i19 | exact mm_i20 | exact mm_i21 | exact mm_i22 | ((with_reducible show mV _ _); exact hv) | ((with_reducible show mV _ _); exact hvw)) | ((with_reducible show mV _ _); exact hv) | ((with_reducible show mV _ _); exact hvw) | ((with_reducible show mm_bool _ _); first | exact True.intro | exact Or.inl rfl | exact Or.inr rfl | (show (_ : Int) = 0 ∨ _ = 1)) | rfl | with_reducible exact Or.inl rfl | with_reducible exact Or.inr rfl | exact Nat.le_of_ble_eq_true rfl | refine And.intro ?_ ?_ | intro _)
      all_goals (try simp (disch := omega) only [InI, Int.toNat_natCast, Int.tmod_eq_emod_of_nonneg, Int.tdiv_eq_ediv_of_nonneg, true_implies, true_or, or_true, mm_l18, mm_l19, mm_l20, mm_l21, mm_l22] at *)
      all_goals first | omega | exact k37 _ (by assumption) | skip
    refine ⟨Nat.le_of_ble_eq_true rfl, ?_⟩
    refine mm_run_at (stop := [31]) (S := K) kkX5_join 90 ?_ (fun _ _ _ _ _ _ _ h => hK _ _ _ _ _ _ h)
    repeat' (first | with_reducible assumption | with_reducible exact True.intro | with_reducible exact mm_i17 | with_reducible exact mm_i18 | with_reducible exact mm_i19 | with_reducible exact mm_i20 | with_reducible exact mm_i21 | with_reducible exact mm_i22 | ((with_reducible show mm_rv _ _ _ _ _); first | exact True.intro | exact mm_i17 | exact mm_i18 | exact mm_i19 | exact mm_i20 | exact mm_i21 | exact mm_i22) | ((with_reducible show mm_bool _ _); first | exact True.intro | exact Or.inl rfl | exact Or.inr rfl | (show (_ : Int) = 0 ∨ _ = 1)) | rfl | with_reducible exact Or.inl rfl | with_reducible exact Or.inr rfl | exact Nat.le_of_ble_eq_true rfl | refine And.intro ?_ ?_ | intro _)
    all_goals (try simp (disch := omega) only [InI, Int.toNat_natCast, Int.tmod_eq_emod_of_nonneg, Int.tdiv_eq_ediv_of_nonneg, true_implies, true_or, or_true, mm_l18, mm_l19, mm_l20, mm_l21, mm_l22] at *)
    all_goals first | omega | exact hq _ _ (xP_s ha) | exact k31 _ (by omega) (by omega) | skip
  · exact h.elim
theorem me_X5_join {l : Launch} (hl : l.stackTraces = false) : mm_Met l yX5_join cX5_join 5 (some .int) [] 11 208 0 sp_X5_join := mm_mt hl rn_X5_join ⟨by decide, rfl⟩ kkX5_join rfl ⟨by decide, by decide⟩ flkX5 (fun _ h => nomatch h) (⟨mm_pe (me_X5_isNoWalk hl) mwX5_isNoWalk (mm_t7 40 rfl rfl) (Nat.le_of_ble_eq_true rfl) (Nat.le_of_ble_eq_true rfl), mm_pe (me_X5_start hl) mwX5_start (mm_t6 114 rfl rfl) (Nat.le_of_ble_eq_true rfl) (Nat.le_of_ble_eq_true rfl), mm_pe (me_X5_isNoRound hl) mwX5_isNoRound (mm_t7 92 rfl rfl) (Nat.le_of_ble_eq_true rfl) (Nat.le_of_ble_eq_true rfl), mm_pe (me_X5_cannot hl) mwX5_cannot (mm_t6 122 rfl rfl) (Nat.le_of_ble_eq_true rfl) (Nat.le_of_ble_eq_true rfl), mm_pe (me_X5_cornerOf hl) mwX5_cornerOf (mm_t6 189 rfl rfl) (Nat.le_of_ble_eq_true rfl) (Nat.le_of_ble_eq_true rfl), mm_pe (me_X5_rotated hl) mwX5_rotated (mm_t7 108 rfl rfl) (Nat.le_of_ble_eq_true rfl) (Nat.le_of_ble_eq_true rfl), mm_pe (me_X5_spliced hl) mwX5_spliced (mm_t7 100 rfl rfl) (Nat.le_of_ble_eq_true rfl) (Nat.le_of_ble_eq_true rfl), mm_pe (me_X5_act hl) mwX5_act (mm_t6 134 rfl rfl) (Nat.le_of_ble_eq_true rfl) (Nat.le_of_ble_eq_true rfl), trivial⟩) (mm_xe0 _)

