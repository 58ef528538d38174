/-! the model: acts on two walks -/
theorem rot_rd {V V' : mm_M} {w v t : Nat} (hw : isK w) (hv : isK v) (hr : rdR V w v) (h0 : 0 ≤ V v 2) (h : rotR V V' v t) (hf : fr [v, v + 1] V V') : rdR V' w v := by
  obtain ⟨r1, r2, r3, r4⟩ := hr
  obtain ⟨a1, a2, a3, a4⟩ := h
  have lv := isK_le hv
  obtain ⟨n, hn⟩ := Int.eq_ofNat_of_zero_le h0
  have e3 : V' 3 = V 3 := hf 3 (by simp; omega)
  have e4 : V' 4 = V 4 := hf 4 (by simp; omega)
  have hgl : ∀ s, gl V' s = gl V s := fun s => by unfold gl; rw [e3, e4]
  refine ⟨r1, by rw [a1]; exact r2, ?_, fun j hj => ?_⟩
  · unfold cor at r3 ⊢
    rw [if_pos (by omega)] at r3
    rw [a1, if_pos (by omega), hgl, a2 _ (by omega)]
    by_cases e : t = 0
    · rw [a3 (Or.inl e), e, Nat.add_zero, Nat.mod_eq_of_lt (by omega)]
      exact r3
    · rw [a4 (by omega) (by omega), show (V v 2 - 1).toNat + t = (t - 1) + (V v 2).toNat by omega, Nat.add_mod_right]
  · rw [a1] at hj
    rw [a2 j hj]
    have hm := Nat.mod_lt (j + t) (show 0 < (V v 2).toNat by omega)
    exact wNk (r4 _ (by omega)) hf hw hv r1
theorem xP_sp {M M' : mm_M} {k v : Nat} {p : Int} (ha : xA M) (hk : k < 3) (hv : v < 3) (g1 : fX M M') (g2 : fr [8 + 2 * k, 8 + 2 * k + 1, 8 + 2 * v, 16] (vX M) (vX M')) (g3 : splR (vX M) (vX M') (8 + 2 * k) (8 + 2 * v) p) (g4 : ∀ j, j ≠ 4 → vX M' 16 j = vX M 16 j) (g5 : vX M' 16 4 = (if M 17 10 = k ∨ M 17 10 = v then 1 else M 17 13)) (g6 : mV M' k) (g7 : wD (vX M') (8 + 2 * k)) (g8 : mV M' v) (g9 : ∀ j, j ≠ 13 → M' 17 j = M 17 j) : xP M M' := by
  obtain ⟨at1, at2, c1, c2, c3⟩ := ha.1
  have h10 := ha.2
  have hl := ha.l
  refine ⟨g1, ⟨⟨at1.fr g2 (by simp; omega) (by simp; omega) (by simp; omega), fun x hx => ?_, ?_, ?_, fun h3 h4 => ?_⟩, cF.of g2 (by simp; omega), by rw [g2 1 (by simp; omega)]⟩, by rw [g9 10 (by omega)]; exact ha.2⟩
  · have hl3 := isK_le hx.k
    by_cases e : x = 8 + 2 * k
    · rw [e]
      exact ⟨(mV_i (by omega)).mp g6, g7⟩
    · by_cases e2 : x = 8 + 2 * v
      · rw [e2]
        exact ⟨(mV_i (by omega)).mp g8, wD_0 g3.2.2.1⟩
      · have := wk_ap hx.k (isKk (show k < 4 by omega)) e
        have := wk_ap hx.k (isKk (show v < 4 by omega)) e2
        exact wV.me (at2 x hx) (g2 x (by simp; omega)) (g2 (x + 1) (by simp; omega)) (g2 2 (by simp; omega))
  · rw [g4 1 (by omega)]
    exact c1
  · rw [g5]
    split
    · exact Or.inr rfl
    · exact hl
  · rw [g4 1 (by omega)] at h3 ⊢
    rw [g4 2 (by omega), g4 3 (by omega)]
    rw [g5] at h4
    split at h4
    · exact absurd h4 (by omega)
    · have hc := c3 h3 h4
      have e1 := vX_c1 M
      have h5 : ¬ M 17 10 = -1 := fun e => by rw [if_pos e] at e1; exact h3 e1
      rw [if_neg h5] at e1
      have e : (vX M 16 1).toNat = 8 + 2 * (M 17 10).toNat := by omega
      have e6 : vX M' (vX M 16 1).toNat 2 = vX M (vX M 16 1).toNat 2 := by
        rw [g2 _ (by simp; omega)]
      rw [e6]
      exact hc
theorem xP_two {M M1 : mm_M} {k v : Nat} (ha : xA M) (hk : k < 3) (hv : v < 3) (hx : fX M M1) (h17 : M1 17 = M 17) (hf : fr [8 + 2 * k, 8 + 2 * k + 1, 8 + 2 * v, 8 + 2 * v + 1] (vX M) (vX M1)) (v1 : mV M1 k) (d1 : wD (vX M1) (8 + 2 * k)) (v2 : mV M1 v) (d2 : wD (vX M1) (8 + 2 * v)) : xP M (mm_up (mm_up M1 17 13 (if M1 17 10 = k then 1 else M1 17 13)) 17 13 (if (mm_up M1 17 13 (if M1 17 10 = k then 1 else M1 17 13)) 17 10 = v then 1 else (mm_up M1 17 13 (if M1 17 10 = k then 1 else M1 17 13)) 17 13)) := by
  have h10 : M1 17 10 = M 17 10 := by rw [h17]
  obtain ⟨k1, k2, k3⟩ := ha.1.two (isW3k hv) (isW3k hk) (hf.mono (by intro x hx; simp at hx ⊢; omega)) ⟨(mV_i (by omega)).mp v2, d2⟩ ⟨(mV_i (by omega)).mp v1, d1⟩
  obtain ⟨b1, b2, b3⟩ := k1.one (los_v (M := M1) (k := k) (by rw [h10]; exact ha.2))
  have e10 : (mm_up M1 17 13 (if M1 17 10 = k then 1 else M1 17 13)) 17 10 = M 17 10 := by rw [mm_up_ob2 (by omega)]; exact h10
  have b4 := b1.los (los_v (M := mm_up M1 17 13 (if M1 17 10 = k then 1 else M1 17 13)) (k := v) (by rw [e10]; exact ha.2))
  exact ⟨(hx.tr (fX.rf.up (by omega))).tr (fX.rf.up (by omega)), cP.of (k2.tr b2) (b3.trans k3) b4, by rw [mm_up_ob2 (by omega), e10]; exact ha.2⟩
/-- the losing is told apart from the splicing -/
theorem spl_los {M1 M2 : mm_M} {k w : Nat} (h10 : -1 ≤ M1 17 10 ∧ M1 17 10 ≤ 2) (g4 : ∀ j, j ≠ 4 → vX M2 16 j = vX M1 16 j) (g5 : vX M2 16 4 = (if M1 17 10 = k ∨ M1 17 10 = w then 1 else M1 17 13)) : ∃ V1 : mm_M, (∀ o, o ≠ 16 → V1 o = vX M2 o) ∧ V1 16 = vX M1 16 ∧ losM (losM V1 (8 + 2 * w)) (8 + 2 * k) = vX M2 := by
  refine ⟨fun o => if o = 16 then vX M1 16 else vX M2 o, fun o ho => if_neg ho, if_pos rfl, ?_⟩
  have e1 : ∀ x : Nat, vX M1 16 1 = ((8 + 2 * x : Nat) : Int) ↔ M1 17 10 = x := fun x => by
    rw [vX_c1]
    split <;> omega
  funext o j
  by_cases ho : o = 16
  · subst ho
    unfold losM
    simp only [if_true, e1]
    by_cases a : M1 17 10 = w
    · simp only [a, if_true, or_true] at g5 ⊢
      by_cases b : (w : Int) = k
      · simp only [mm_up, if_true, e1, a, b, show ¬ (1 = 4) by decide, and_false, if_false, true_and]
        by_cases hj : j = 4
        · rw [if_pos hj, hj, g5]
        · rw [if_neg hj, if_neg hj, g4 j hj]
      · simp only [mm_up, if_true, e1, a, b, show ¬ (1 = 4) by decide, and_false, if_false, true_and]
        by_cases hj : j = 4
        · rw [if_pos hj, hj, g5]
        · rw [if_neg hj, g4 j hj]
    · simp only [a, if_false, or_false, if_true, e1] at g5 ⊢
      by_cases b : M1 17 10 = k
      · simp only [mm_up, if_true, b, true_and] at g5 ⊢
        by_cases hj : j = 4
        · rw [if_pos hj, hj, g5]
        · rw [if_neg hj, g4 j hj]
      · simp only [b, if_false, if_true] at g5 ⊢
        by_cases hj : j = 4
        · rw [hj, g5]
          rfl
        · rw [g4 j hj]
  · rw [losM_o ho, losM_o ho, if_neg ho]
theorem spl_e {A B B' : mm_M} {w v : Nat} {p : Int} (h1 : B' w = B w) (h2 : B' (w + 1) = B (w + 1)) (h3 : B' v = B v) (h : splR A B w v p) : splR A B' w v p := by
  unfold splR at h ⊢
  rw [h1, h2, h3]
  exact h
theorem at_X5_splice_0 : mm_at 0 kdX5_splice = [(0, .aload_n 0, 0), (1, .aload_n 0, 0), (2, .iload_n 1, 0), (3, .invokevirtual 178, 0), (6, .ifCond .ne 25, 31), (9, .aload_n 0, 0), (10, .iload_n 2, 0), (11, .invokevirtual 178, 0), (14, .ifCond .ne 17, 31), (17, .iload_n 3, 0), (18, .iconst 0, 0), (19, .aload_n 0, 0), (20, .getfield 19, 0), (23, .iload_n 1, 0), (24, .iaload, 0), (25, .invokestatic 45, 0), (28, .ifCond .ne 7, 35), (31, .iconst 1, 0), (32, .goto 4, 36), (35, .iconst 0, 0), (36, .iconst 1, 0), (37, .invokevirtual 146, 0), (40, .ifCond .eq 5, 45), (43, .iconst 0, 0), (44, .ireturn, 0), (45, .aload_n 0, 0), (46, .iload_n 1, 0), (47, .iload_n 2, 0), (48, .invokevirtual 194, 0), (51, .ifCond .ne 18, 69), (54, .aload_n 0, 0), (55, .getfield 22, 0), (58, .iload_n 2, 0), (59, .iaload, 0), (60, .aload_n 0, 0), (61, .iload_n 1, 0), (62, .iload_n 3, 0), (63, .invokevirtual 105, 0), (66, .if_icmp .eq 8, 74), (69, .aload_n 0, 0), (70, .invokevirtual 149, 0), (73, .ireturn, 0), (74, .aload_n 0, 0), (75, .iload_n 1, 0), (76, .iload_n 2, 0), (77, .iload_n 3, 0), (78, .invokevirtual 197, 0), (81, .aload_n 0, 0), (82, .aload_n 0, 0), (83, .getfield 19, 0), (86, .iload_n 1, 0), (87, .iaload, 0), (88, .invokevirtual 156, 0), (91, .ireturn, 0)] := rfl
theorem at_X5_splice_31 : mm_at 31 kdX5_splice = [(31, .iconst 1, 0), (32, .goto 4, 36), (35, .iconst 0, 0), (36, .iconst 1, 0), (37, .invokevirtual 146, 0), (40, .ifCond .eq 5, 45), (43, .iconst 0, 0), (44, .ireturn, 0), (45, .aload_n 0, 0), (46, .iload_n 1, 0), (47, .iload_n 2, 0), (48, .invokevirtual 194, 0), (51, .ifCond .ne 18, 69), (54, .aload_n 0, 0), (55, .getfield 22, 0), (58, .iload_n 2, 0), (59, .iaload, 0), (60, .aload_n 0, 0), (61, .iload_n 1, 0), (62, .iload_n 3, 0), (63, .invokevirtual 105, 0), (66, .if_icmp .eq 8, 74), (69, .aload_n 0, 0), (70, .invokevirtual 149, 0), (73, .ireturn, 0), (74, .aload_n 0, 0), (75, .iload_n 1, 0), (76, .iload_n 2, 0), (77, .iload_n 3, 0), (78, .invokevirtual 197, 0), (81, .aload_n 0, 0), (82, .aload_n 0, 0), (83, .getfield 19, 0), (86, .iload_n 1, 0), (87, .iaload, 0), (88, .invokevirtual 156, 0), (91, .ireturn, 0)] := rfl
theorem at_X5_splice_35 : mm_at 35 kdX5_splice = [(35, .iconst 0, 0), (36, .iconst 1, 0), (37, .invokevirtual 146, 0), (40, .ifCond .eq 5, 45), (43, .iconst 0, 0), (44, .ireturn, 0), (45, .aload_n 0, 0), (46, .iload_n 1, 0), (47, .iload_n 2, 0), (48, .invokevirtual 194, 0), (51, .ifCond .ne 18, 69), (54, .aload_n 0, 0), (55, .getfield 22, 0), (58, .iload_n 2, 0), (59, .iaload, 0), (60, .aload_n 0, 0), (61, .iload_n 1, 0), (62, .iload_n 3, 0), (63, .invokevirtual 105, 0), (66, .if_icmp .eq 8, 74), (69, .aload_n 0, 0), (70, .invokevirtual 149, 0), (73, .ireturn, 0), (74, .aload_n 0, 0), (75, .iload_n 1, 0), (76, .iload_n 2, 0), (77, .iload_n 3, 0), (78, .invokevirtual 197, 0), (81, .aload_n 0, 0), (82, .aload_n 0, 0), (83, .getfield 19, 0), (86, .iload_n 1, 0), (87, .iaload, 0), (88, .invokevirtual 156, 0), (91, .ireturn, 0)] := rfl
theorem at_X5_splice_36 : mm_at 36 kdX5_splice = [(36, .iconst 1, 0), (37, .invokevirtual 146, 0), (40, .ifCond .eq 5, 45), (43, .iconst 0, 0), (44, .ireturn, 0), (45, .aload_n 0, 0), (46, .iload_n 1, 0), (47, .iload_n 2, 0), (48, .invokevirtual 194, 0), (51, .ifCond .ne 18, 69), (54, .aload_n 0, 0), (55, .getfield 22, 0), (58, .iload_n 2, 0), (59, .iaload, 0), (60, .aload_n 0, 0), (61, .iload_n 1, 0), (62, .iload_n 3, 0), (63, .invokevirtual 105, 0), (66, .if_icmp .eq 8, 74), (69, .aload_n 0, 0), (70, .invokevirtual 149, 0), (73, .ireturn, 0), (74, .aload_n 0, 0), (75, .iload_n 1, 0), (76, .iload_n 2, 0), (77, .iload_n 3, 0), (78, .invokevirtual 197, 0), (81, .aload_n 0, 0), (82, .aload_n 0, 0), (83, .getfield 19, 0), (86, .iload_n 1, 0), (87, .iaload, 0), (88, .invokevirtual 156, 0), (91, .ireturn, 0)] := rfl
theorem at_X5_splice_45 : mm_at 45 kdX5_splice = [(45, .aload_n 0, 0), (46, .iload_n 1, 0), (47, .iload_n 2, 0), (48, .invokevirtual 194, 0), (51, .ifCond .ne 18, 69), (54, .aload_n 0, 0), (55, .getfield 22, 0), (58, .iload_n 2, 0), (59, .iaload, 0), (60, .aload_n 0, 0), (61, .iload_n 1, 0), (62, .iload_n 3, 0), (63, .invokevirtual 105, 0), (66, .if_icmp .eq 8, 74), (69, .aload_n 0, 0), (70, .invokevirtual 149, 0), (73, .ireturn, 0), (74, .aload_n 0, 0), (75, .iload_n 1, 0), (76, .iload_n 2, 0), (77, .iload_n 3, 0), (78, .invokevirtual 197, 0), (81, .aload_n 0, 0), (82, .aload_n 0, 0), (83, .getfield 19, 0), (86, .iload_n 1, 0), (87, .iaload, 0), (88, .invokevirtual 156, 0), (91, .ireturn, 0)] := rfl
theorem at_X5_splice_69 : mm_at 69 kdX5_splice = [(69, .aload_n 0, 0), (70, .invokevirtual 149, 0), (73, .ireturn, 0), (74, .aload_n 0, 0), (75, .iload_n 1, 0), (76, .iload_n 2, 0), (77, .iload_n 3, 0), (78, .invokevirtual 197, 0), (81, .aload_n 0, 0), (82, .aload_n 0, 0), (83, .getfield 19, 0), (86, .iload_n 1, 0), (87, .iaload, 0), (88, .invokevirtual 156, 0), (91, .ireturn, 0)] := rfl
theorem at_X5_splice_74 : mm_at 74 kdX5_splice = [(74, .aload_n 0, 0), (75, .iload_n 1, 0), (76, .iload_n 2, 0), (77, .iload_n 3, 0), (78, .invokevirtual 197, 0), (81, .aload_n 0, 0), (82, .aload_n 0, 0), (83, .getfield 19, 0), (86, .iload_n 1, 0), (87, .iaload, 0), (88, .invokevirtual 156, 0), (91, .ireturn, 0)] := rfl
def sp_X5_splice : mm_S := fun av M d Q => match av with
  | [.inr (.inr (.inl o)), .inl a, .inl b, .inl p] =>  o = 17 ∧ xA M ∧ InI a ∧ InI b ∧ InI p ∧ ∀ M' r, xP M M' → C_splice a b p (vX M) (vX M') (M' 17 0) r → Q (.inl (some (mm_I r))) M' d
  | _ => False
def ct_X5_splice : List (Nat × mm_Ca) := [(178, (0, 2, 14, sp_X5_isNoWalk, 0)), (45, (1, 3, 0, sp_X5_isIn, 0)), (146, (0, 3, 14, sp_X5_start, 0)), (194, (0, 3, 14, sp_X5_isNoRound, 0)), (105, (0, 3, 14, sp_X5_cornerOf, 0)), (149, (0, 1, 14, sp_X5_cannot, 0)), (197, (0, 4, 14, sp_X5_spliced, 0)), (156, (0, 2, 14, sp_X5_act, 0))]
abbrev rr_X5_splice (Q : mm_Q) := mm_run (mm_look flX5) (mm_look ct_X5_splice) mm_x0 (mm_look ([] : List (Nat × Int))) (fun _ => none) 1 0 (fun _ _ => none) Q kdX5_splice
set_option maxRecDepth 20000 in
theorem rn_X5_splice : mm_RN flX5 ct_X5_splice mm_x0 [] 1 0 4 kdX5_splice sp_X5_splice := by
  intro av M d Q h
  unfold sp_X5_splice at h
  split at h
  · rename_i o a b p
    obtain ⟨rfl, ha, h1, h2, h3, hq⟩ := h
    have hlI : (0 ≤ a ∧ a ≤ 2) → InI (M 21 a.toNat) := fun h => InI_l (ha.v (k := a.toNat) (by omega)) rfl
    obtain ⟨K, hK, hK2⟩ : ∃ K : Nat → mm_K, (∀ t ls st M d u, K t ls st M d u → rr_X5_splice Q t ls st M d u) ∧ (∀ t ls st M d u, rr_X5_splice Q t ls st M d u → K t ls st M d u) := ⟨rr_X5_splice Q, fun _ _ _ _ _ _ h => h, fun _ _ _ _ _ _ h => h⟩
    have hn2 : (0 ≤ a ∧ a ≤ 2) → vX M (wk a) 2 = M 21 a.toNat := fun h => vX_n (wk_in h).2.2
    have q1 : ∀ v, v = 1 → (¬ (0 ≤ a ∧ a ≤ 2) ∨ ¬ (0 ≤ b ∧ b ≤ 2) ∨ ((0 ≤ a ∧ a ≤ 2) ∧ ¬ (0 ≤ p ∧ p ≤ M 21 a.toNat))) → Q (.inl (some (mm_I 0))) (mm_up M 17 0 v) d := fun v hv hn => hq _ _ (xP_s ha) (xq1 (fun h => by
      obtain ⟨g1, g2, g3⟩ := h
      unfold iw at g1 g2
      unfold onW at g3
      rcases hn with hn | hn | ⟨hn, hn'⟩
      · omega
      · omega
      · rw [hn2 hn] at g3
        exact hn' g3) hv)
    have k45 : ∀ v, v = 0 → (0 ≤ a ∧ a ≤ 2) → (0 ≤ b ∧ b ≤ 2) → (0 ≤ p ∧ p ≤ M 21 a.toNat) → K 45 [some (mm_R 17), some (mm_I a), some (mm_I b), some (mm_I p)] [] (mm_up M 17 0 v) d 0 := by
      intro v hv0 ca cb cp
      have hcc : iw a ∧ iw b ∧ onW (vX M) (wk a) p := ⟨(wk_in ca).1, (wk_in cb).1, by unfold onW; rw [hn2 ca]; exact cp⟩
      obtain ⟨M1, e0, ha1, hP1, e17, eo⟩ := xS (v := v) ha
      have e00 : M1 17 0 = 0 := by rw [← e0, hv0]; exact x00
      have eV : vX M1 = vX M := by rw [← e0, vX_u0]
      rw [e0]
      rw [← eo 21 (by omega)] at cp
      obtain ⟨k, rfl⟩ := Int.eq_ofNat_of_zero_le ca.1
      obtain ⟨w, rfl⟩ := Int.eq_ofNat_of_zero_le cb.1
      have hk : k < 3 := by omega
      have hw : w < 3 := by omega
      have hv := ha1.v hk
      have hvw := ha1.v hw
      have ht := ha1.t
      have v1 := hv.1
      have w2 := hvw.2.1
      have h10 := ha1.2
      have ecv := cor_v (M := M1) (show k < 4 by omega) hv cp
      have ebw := vX_b (M := M1) (show w < 4 by omega)
      obtain ⟨PR, ePR⟩ : ∃ PR : Prop, PR ↔ rdR (vX M1) (8 + 2 * k) (8 + 2 * w) := ⟨_, Iff.rfl⟩
      have q9 : ¬ (PR ∧ M1 22 w = corX M1 k p) → Q (.inl (some (mm_I (-9)))) (mm_up M1 17 15 (M1 17 15 + 1)) d := fun h => hq _ (-9) (hP1.tr (xA_u (x := M1 17 15 + 1) ha1)) (Or.inr ⟨hcc, by rw [mm_up_ob2 (by omega)]; exact e00, by rw [← eV]; exact no9.n (fun h2 => h ⟨ePR.mpr h2.1, by rw [← ebw, ecv]; exact h2.2⟩) cX_9⟩)
      have k81 : PR → M1 22 w = corX M1 k p → ∀ M2, (fX M1 M2 ∧ fr [8 + 2 * k, 8 + 2 * k + 1, 8 + 2 * w, 16] (vX M1) (vX M2) ∧ splR (vX M1) (vX M2) (8 + 2 * k) (8 + 2 * w) p ∧ (∀ j, j ≠ 4 → vX M2 16 j = vX M1 16 j) ∧ vX M2 16 4 = (if M1 17 10 = k ∨ M1 17 10 = w then 1 else M1 17 13) ∧ mV M2 k ∧ wD (vX M2) (8 + 2 * k) ∧ mV M2 w ∧ (∀ j, j ≠ 13 → M2 17 j = M1 17 j)) → K 81 [some (mm_R 17), some (mm_I k), some (mm_I w), some (mm_I p)] [] M2 d 0 := by
        intro hPR hb M2 ⟨g1, g2, g3, g4, g5, g6, g7, g8, g9⟩
        have hP2 := xP_sp ha1 hk hw g1 g2 g3 g4 g5 g6 g7 g8 g9
        have g61 := g6.1
        obtain ⟨V1, z1, z2, z3⟩ := spl_los h10 g4 g5
        have lk := isK_le (isKk (show k < 4 by omega))
        have lw := isK_le (isKk (show w < 4 by omega))
        have gs : splR (vX M1) V1 (8 + 2 * k) (8 + 2 * w) p := spl_e (z1 _ (by omega)) (z1 _ (by omega)) (z1 _ (by omega)) g3
        have er : M2 21 k = vX M1 (8 + 2 * k) 2 + vX M1 (8 + 2 * w) 2 := by rw [← g3.1, vX_n (by omega)]
        have q0 : Q (.inl (some (mm_I (M2 21 k)))) (mm_up M2 17 14 (M2 17 14 + 1)) d := hq _ _ (xP_ac (hP1.tr hP2)) (Or.inr ⟨hcc, by rw [mm_up_ob2 (by omega), g9 0 (by omega)]; exact e00, by
          rw [← eV]
          exact no9.y ⟨ePR.mp hPR, by rw [show vX M1 (wk (w : Int)) 3 = M1 22 w from ebw, hb]; exact ecv⟩ ⟨er, V1, gs, fun o ho => by
            by_cases e : o = 16
            · rw [e]; exact z2
            · rw [z1 o e]
              exact g2 o (by
                have ho2 : o ∉ [8 + 2 * k, 8 + 2 * k + 1, 8 + 2 * w] := ho
                simp at ho2 ⊢
                omega), SE.eq (by rw [show losM (losM V1 (wk (w : Int))) (wk (k : Int)) = vX M2 from z3]; exact cX_n (by omega))⟩⟩)
        clear g3 g4 g5 g9 z1 z2 z3 hq q1 q9 ePR er gs
        refine hK2 _ _ _ _ _ _ ?_
        refine mm_run_at (stop := []) (S := K) kkX5_splice 90 ?_ (fun _ _ _ _ _ _ _ h => hK _ _ _ _ _ _ h)
        repeat' (first | with_reducible assumption | with_reducible exact mm_i17 | with_reducible exact mm_i18 | with_reducible exact mm_i19 | with_reducible exact mm_i20 | with_reducible exact mm_i21 | with_reducible exact mm_i22 | ((with_reducible show mm_rv _ _ _ _ _); first | exact True.intro | exact mm_i17 | exact mm_i18 | exact mm_i19 | exact mm_i20 | exact mm_i21 | exact mm_i22) | ((with_reducible show mm_bool _ _); first | exact True.intro | exact Or.inl rfl | exact Or.inr rfl | (show (_ : Int) = 0 ∨ _ = 1)) | refine And.intro ?_ ?_ | intro _ | with_reducible exact True.intro | exact rfl | with_reducible exact Or.inl rfl | with_reducible exact Or.inr rfl | exact Nat.le_of_ble_eq_true rfl)
        all_goals (try simp (disch := omega) only [InI, Int.toNat_natCast, Int.tmod_eq_emod_of_nonneg, Int.tdiv_eq_ediv_of_nonneg, true_implies, true_or, or_true, mm_l18, mm_l19, mm_l20, mm_l21, mm_l22] at *)
        all_goals first | omega | exact q0 | skip
      have k74 : PR → M1 22 w = corX M1 k p → K 74 [some (mm_R 17), some (mm_I k), some (mm_I w), some (mm_I p)] [] M1 d 0 := by
        intro hPR hb
        have hr := ePR.mp hPR
        refine hK2 _ _ _ _ _ _ ?_
        refine mm_run_at (stop := [81]) (S := K) kkX5_splice 90 ?_ (fun _ _ _ _ _ _ _ h => hK _ _ _ _ _ _ h)
        exact mm_c5 rfl (Nat.le_of_ble_eq_true rfl) (by exact mm_i17) (Nat.le_of_ble_eq_true rfl) (Nat.le_of_ble_eq_true rfl) (mm_a7 rfl ha1 ⟨by omega, by omega⟩ ⟨by omega, by omega⟩ hr cp (fun M2 h => k81 hPR hb M2 h))
      have k54 : PR → K 54 [some (mm_R 17), some (mm_I k), some (mm_I w), some (mm_I p)] [] M1 d 0 := by
        intro hPR
        have k744 := k74 hPR
        have q99 : M1 22 w ≠ corX M1 k p → Q (.inl (some (mm_I (-9)))) (mm_up M1 17 15 (M1 17 15 + 1)) d := fun h => q9 (fun h2 => h h2.2)
        clear k81 k74 hq q1 q9 ePR ecv
        refine hK2 _ _ _ _ _ _ ?_
        refine mm_run_at (stop := [74]) (S := K) kkX5_splice 90 ?_ (fun _ _ _ _ _ _ _ h => hK _ _ _ _ _ _ h)
        repeat' (first | with_reducible assumption | with_reducible exact mm_i17 | with_reducible exact mm_i18 | with_reducible exact mm_i19 | with_reducible exact mm_i20 | with_reducible exact mm_i21 | with_reducible exact mm_i22 | ((with_reducible show mm_rv _ _ _ _ _); first | exact True.intro | exact mm_i17 | exact mm_i18 | exact mm_i19 | exact mm_i20 | exact mm_i21 | exact mm_i22 | ((with_reducible show mV _ _); exact hv)) | ((with_reducible show mV _ _); exact hv) | ((with_reducible show mm_bool _ _); first | exact True.intro | exact Or.inl rfl | exact Or.inr rfl | (show (_ : Int) = 0 ∨ _ = 1)) | refine And.intro ?_ ?_ | intro _ | with_reducible exact True.intro | exact rfl | with_reducible exact Or.inl rfl | with_reducible exact Or.inr rfl | exact Nat.le_of_ble_eq_true rfl)
        all_goals (try simp (disch := omega) only [InI, Int.toNat_natCast, Int.tmod_eq_emod_of_nonneg, Int.tdiv_eq_ediv_of_nonneg, true_implies, true_or, or_true, mm_l18, mm_l19, mm_l20, mm_l21, mm_l22] at *)
        all_goals first | omega | exact q99 (by omega) | exact k744 (by omega) | skip
      have k51 : ∀ r, (r = 0 ∨ r = 1) ∧ (r = 0 ↔ rdR (vX M1) (8 + 2 * k) (8 + 2 * w)) → K 51 [some (mm_R 17), some (mm_I k), some (mm_I w), some (mm_I p)] [mm_I r] M1 d 0 := by
        intro r ⟨hr, hr2⟩
        rw [← ePR] at hr2
        have k544 := fun h => k54 (hr2.mp h)
        have q99 : r = 1 → Q (.inl (some (mm_I (-9)))) (mm_up M1 17 15 (M1 17 15 + 1)) d := fun h => q9 (fun h2 => by have := hr2.mpr h2.1; omega)
        clear hr2 k81 k74 k54 hq q1 q9 ePR ecv
        refine hK2 _ _ _ _ _ _ ?_
        refine mm_run_at (stop := [54]) (S := K) kkX5_splice 90 ?_ (fun _ _ _ _ _ _ _ h => hK _ _ _ _ _ _ h)
        repeat' (first | with_reducible assumption | with_reducible exact mm_i17 | with_reducible exact mm_i18 | with_reducible exact mm_i19 | with_reducible exact mm_i20 | with_reducible exact mm_i21 | with_reducible exact mm_i22 | ((with_reducible show mm_rv _ _ _ _ _); first | exact True.intro | exact mm_i17 | exact mm_i18 | exact mm_i19 | exact mm_i20 | exact mm_i21 | exact mm_i22) | ((with_reducible show mm_bool _ _); first | exact True.intro | exact Or.inl rfl | exact Or.inr rfl | (show (_ : Int) = 0 ∨ _ = 1)) | refine And.intro ?_ ?_ | intro _ | with_reducible exact True.intro | exact rfl | with_reducible exact Or.inl rfl | with_reducible exact Or.inr rfl | exact Nat.le_of_ble_eq_true rfl)
        all_goals (try simp (disch := omega) only [InI, Int.toNat_natCast, Int.tmod_eq_emod_of_nonneg, Int.tdiv_eq_ediv_of_nonneg, true_implies, true_or, or_true, mm_l18, mm_l19, mm_l20, mm_l21, mm_l22] at *)
        all_goals first | omega | exact q99 (by omega) | exact k544 (by omega) | skip
      clear k81 k74 k54 hq q1 q9 ePR ecv
      refine hK2 _ _ _ _ _ _ ?_
      refine mm_run_at (stop := [51]) (S := K) kkX5_splice 90 ?_ (fun _ _ _ _ _ _ _ h => hK _ _ _ _ _ _ h)
      repeat' (first | with_reducible assumption | with_reducible exact mm_i17 | with_reducible exact mm_i18 | with_reducible exact mm_i19 | with_reducible exact mm_i20 | with_reducible exact mm_i21 | with_reducible exact mm_i22 | ((with_reducible show mm_rv _ _ _ _ _); first | exact True.intro | exact mm_i17 | exact mm_i18 | exact mm_i19 | exact mm_i20 | exact mm_i21 | exact mm_i22 | ((with_reducible show mV _ _); exact hv) | ((with_reducible show mV _ _); exact hvw)) | ((with_reducible show mV _ _); exact hv) | ((with_reducible show mV _ _); exact hvw) | ((with_reducible show mm_bool _ _); first | exact True.intro | exact Or.inl rfl | exact Or.inr rfl | (show (_ : Int) = 0 ∨ _ = 1)) | refine And.intro ?_ ?_ | intro _ | with_reducible exact True.intro | exact rfl | with_reducible exact Or.inl rfl | with_reducible exact Or.inr rfl | exact Nat.le_of_ble_eq_true rfl)
      all_goals (try simp (disch := omega) only [InI, Int.toNat_natCast, Int.tmod_eq_emod_of_nonneg, Int.tdiv_eq_ediv_of_nonneg, true_implies, true_or, or_true, mm_l18, mm_l19, mm_l20, mm_l21, mm_l22] at *)
      all_goals first | omega | exact k51 _ (by assumption) | skip
    clear hq
    refine ⟨Nat.le_of_ble_eq_true rfl, ?_⟩
    refine mm_run_at (stop := [45]) (S := K) kkX5_splice 90 ?_ (fun _ _ _ _ _ _ _ h => hK _ _ _ _ _ _ h)
    repeat' (first | with_reducible assumption | with_reducible exact mm_i17 | with_reducible exact mm_i18 | with_reducible exact mm_i19 | with_reducible exact mm_i20 | with_reducible exact mm_i21 | with_reducible exact mm_i22 | ((with_reducible show mm_rv _ _ _ _ _); first | exact True.intro | exact mm_i17 | exact mm_i18 | exact mm_i19 | exact mm_i20 | exact mm_i21 | exact mm_i22 | ((with_reducible show InI _); exact hlI (by omega))) | ((with_reducible show InI _); exact hlI (by omega)) | ((with_reducible show mm_bool _ _); first | exact True.intro | exact Or.inl rfl | exact Or.inr rfl | (show (_ : Int) = 0 ∨ _ = 1)) | refine And.intro ?_ ?_ | intro _ | with_reducible exact True.intro | exact rfl | with_reducible exact Or.inl rfl | with_reducible exact Or.inr rfl | exact Nat.le_of_ble_eq_true rfl)
    all_goals (try simp (disch := omega) only [InI, Int.toNat_natCast, Int.tmod_eq_emod_of_nonneg, Int.tdiv_eq_ediv_of_nonneg, true_implies, true_or, or_true, mm_l18, mm_l19, mm_l20, mm_l21, mm_l22] at *)
    all_goals first | omega | exact q1 _ (by omega) (by omega) | exact k45 _ (by omega) (by omega) (by omega) (by omega) | skip
  · exact h.elim
theorem me_X5_splice {l : Launch} (hl : l.stackTraces = false) : mm_Met l yX5_splice cX5_splice 4 (some .int) [] 11 208 0 sp_X5_splice := mm_mt hl rn_X5_splice ⟨plX5, rfl⟩ kkX5_splice rfl ⟨Nat.le_of_ble_eq_true rfl, Nat.le_of_ble_eq_true rfl⟩ flkX5 (fun _ h => nomatch h) (⟨mm_pe (me_X5_isNoWalk hl) mwX5_isNoWalk (mm_t7 36 rfl rfl) (Nat.le_of_ble_eq_true rfl) (Nat.le_of_ble_eq_true rfl), mm_pe (me_X5_isIn hl) mwX5_isIn (mm_t6 107 rfl rfl) (Nat.le_of_ble_eq_true rfl) (Nat.le_of_ble_eq_true rfl), mm_pe (me_X5_start hl) mwX5_start (mm_t6 110 rfl rfl) (Nat.le_of_ble_eq_true rfl) (Nat.le_of_ble_eq_true rfl), mm_pe (me_X5_isNoRound hl) mwX5_isNoRound (mm_t7 88 rfl rfl) (Nat.le_of_ble_eq_true rfl) (Nat.le_of_ble_eq_true rfl), mm_pe (me_X5_cornerOf hl) mwX5_cornerOf (mm_t6 185 rfl rfl) (Nat.le_of_ble_eq_true rfl) (Nat.le_of_ble_eq_true rfl), mm_pe (me_X5_cannot hl) mwX5_cannot (mm_t6 118 rfl rfl) (Nat.le_of_ble_eq_true rfl) (Nat.le_of_ble_eq_true rfl), mm_pe (me_X5_spliced hl) mwX5_spliced (mm_t7 96 rfl rfl) (Nat.le_of_ble_eq_true rfl) (Nat.le_of_ble_eq_true rfl), mm_pe (me_X5_act hl) mwX5_act (mm_t6 130 rfl rfl) (Nat.le_of_ble_eq_true rfl) (Nat.le_of_ble_eq_true rfl), trivial⟩) (mm_xe0 _) n9X5
theorem at_X5_join_0 : mm_at 0 kdX5_join = [(0, .aload_n 0, 0), (1, .aload_n 0, 0), (2, .iload_n 1, 0), (3, .invokevirtual 178, 0), (6, .ifCond .ne 11, 17), (9, .aload_n 0, 0), (10, .iload_n 2, 0), (11, .invokevirtual 178, 0), (14, .ifCond .eq 7, 21), (17, .iconst 1, 0), (18, .goto 4, 22), (21, .iconst 0, 0), (22, .iconst 1, 0), (23, .invokevirtual 146, 0), (26, .ifCond .eq 5, 31), (29, .iconst 0, 0), (30, .ireturn, 0), (31, .aload_n 0, 0), (32, .iload_n 1, 0), (33, .iload_n 2, 0), (34, .invokevirtual 194, 0), (37, .ifCond .eq 8, 45), (40, .aload_n 0, 0), (41, .invokevirtual 149, 0), (44, .ireturn, 0), (45, .iconst 0, 0), (46, .istore_n 3, 0), (47, .iload_n 3, 0), (48, .aload_n 0, 0), (49, .getfield 19, 0), (52, .iload_n 1, 0), (53, .iaload, 0), (54, .if_icmp .gt 68, 122), (57, .iconst 0, 0), (58, .istore 4, 0), (60, .iload 4, 0), (62, .aload_n 0, 0), (63, .getfield 19, 0), (66, .iload_n 2, 0), (67, .iaload, 0), (68, .if_icmp .ge 48, 116), (71, .aload_n 0, 0), (72, .iload_n 1, 0), (73, .iload_n 3, 0), (74, .invokevirtual 105, 0), (77, .aload_n 0, 0), (78, .iload_n 2, 0), (79, .iload 4, 0), (81, .invokevirtual 105, 0), (84, .if_icmp .eq 6, 90), (87, .goto 23, 110), (90, .aload_n 0, 0), (91, .iload_n 2, 0), (92, .iload 4, 0), (94, .invokevirtual 200, 0), (97, .aload_n 0, 0), (98, .iload_n 1, 0), (99, .iload_n 2, 0), (100, .iload_n 3, 0), (101, .invokevirtual 197, 0), (104, .aload_n 0, 0), (105, .iload_n 3, 0), (106, .invokevirtual 156, 0), (109, .ireturn, 0), (110, .iinc 4 1, 0), (113, .goto (-53), 60), (116, .iinc 3 1, 0), (119, .goto (-72), 47), (122, .aload_n 0, 0), (123, .invokevirtual 149, 0), (126, .ireturn, 0)] := rfl
theorem at_X5_join_17 : mm_at 17 kdX5_join = [(17, .iconst 1, 0), (18, .goto 4, 22), (21, .iconst 0, 0), (22, .iconst 1, 0), (23, .invokevirtual 146, 0), (26, .ifCond .eq 5, 31), (29, .iconst 0, 0), (30, .ireturn, 0), (31, .aload_n 0, 0), (32, .iload_n 1, 0), (33, .iload_n 2, 0), (34, .invokevirtual 194, 0), (37, .ifCond .eq 8, 45), (40, .aload_n 0, 0), (41, .invokevirtual 149, 0), (44, .ireturn, 0), (45, .iconst 0, 0), (46, .istore_n 3, 0), (47, .iload_n 3, 0), (48, .aload_n 0, 0), (49, .getfield 19, 0), (52, .iload_n 1, 0), (53, .iaload, 0), (54, .if_icmp .gt 68, 122), (57, .iconst 0, 0), (58, .istore 4, 0), (60, .iload 4, 0), (62, .aload_n 0, 0), (63, .getfield 19, 0), (66, .iload_n 2, 0), (67, .iaload, 0), (68, .if_icmp .ge 48, 116), (71, .aload_n 0, 0), (72, .iload_n 1, 0), (73, .iload_n 3, 0), (74, .invokevirtual 105, 0), (77, .aload_n 0, 0), (78, .iload_n 2, 0), (79, .iload 4, 0), (81, .invokevirtual 105, 0), (84, .if_icmp .eq 6, 90), (87, .goto 23, 110), (90, .aload_n 0, 0), (91, .iload_n 2, 0), (92, .iload 4, 0), (94, .invokevirtual 200, 0), (97, .aload_n 0, 0), (98, .iload_n 1, 0), (99, .iload_n 2, 0), (100, .iload_n 3, 0), (101, .invokevirtual 197, 0), (104, .aload_n 0, 0), (105, .iload_n 3, 0), (106, .invokevirtual 156, 0), (109, .ireturn, 0), (110, .iinc 4 1, 0), (113, .goto (-53), 60), (116, .iinc 3 1, 0), (119, .goto (-72), 47), (122, .aload_n 0, 0), (123, .invokevirtual 149, 0), (126, .ireturn, 0)] := rfl
theorem at_X5_join_21 : mm_at 21 kdX5_join = [(21, .iconst 0, 0), (22, .iconst 1, 0), (23, .invokevirtual 146, 0), (26, .ifCond .eq 5, 31), (29, .iconst 0, 0), (30, .ireturn, 0), (31, .aload_n 0, 0), (32, .iload_n 1, 0), (33, .iload_n 2, 0), (34, .invokevirtual 194, 0), (37, .ifCond .eq 8, 45), (40, .aload_n 0, 0), (41, .invokevirtual 149, 0), (44, .ireturn, 0), (45, .iconst 0, 0), (46, .istore_n 3, 0), (47, .iload_n 3, 0), (48, .aload_n 0, 0), (49, .getfield 19, 0), (52, .iload_n 1, 0), (53, .iaload, 0), (54, .if_icmp .gt 68, 122), (57, .iconst 0, 0), (58, .istore 4, 0), (60, .iload 4, 0), (62, .aload_n 0, 0), (63, .getfield 19, 0), (66, .iload_n 2, 0), (67, .iaload, 0), (68, .if_icmp .ge 48, 116), (71, .aload_n 0, 0), (72, .iload_n 1, 0), (73, .iload_n 3, 0), (74, .invokevirtual 105, 0), (77, .aload_n 0, 0), (78, .iload_n 2, 0), (79, .iload 4, 0), (81, .invokevirtual 105, 0), (84, .if_icmp .eq 6, 90), (87, .goto 23, 110), (90, .aload_n 0, 0), (91, .iload_n 2, 0), (92, .iload 4, 0), (94, .invokevirtual 200, 0), (97, .aload_n 0, 0), (98, .iload_n 1, 0), (99, .iload_n 2, 0), (100, .iload_n 3, 0), (101, .invokevirtual 197, 0), (104, .aload_n 0, 0), (105, .iload_n 3, 0), (106, .invokevirtual 156, 0), (109, .ireturn, 0), (110, .iinc 4 1, 0), (113, .goto (-53), 60), (116, .iinc 3 1, 0), (119, .goto (-72), 47), (122, .aload_n 0, 0), (123, .invokevirtual 149, 0), (126, .ireturn, 0)] := rfl
theorem at_X5_join_22 : mm_at 22 kdX5_join = [(22, .iconst 1, 0), (23, .invokevirtual 146, 0), (26, .ifCond .eq 5, 31), (29, .iconst 0, 0), (30, .ireturn, 0), (31, .aload_n 0, 0), (32, .iload_n 1, 0), (33, .iload_n 2, 0), (34, .invokevirtual 194, 0), (37, .ifCond .eq 8, 45), (40, .aload_n 0, 0), (41, .invokevirtual 149, 0), (44, .ireturn, 0), (45, .iconst 0, 0), (46, .istore_n 3, 0), (47, .iload_n 3, 0), (48, .aload_n 0, 0), (49, .getfield 19, 0), (52, .iload_n 1, 0), (53, .iaload, 0), (54, .if_icmp .gt 68, 122), (57, .iconst 0, 0), (58, .istore 4, 0), (60, .iload 4, 0), (62, .aload_n 0, 0), (63, .getfield 19, 0), (66, .iload_n 2, 0), (67, .iaload, 0), (68, .if_icmp .ge 48, 116), (71, .aload_n 0, 0), (72, .iload_n 1, 0), (73, .iload_n 3, 0), (74, .invokevirtual 105, 0), (77, .aload_n 0, 0), (78, .iload_n 2, 0), (79, .iload 4, 0), (81, .invokevirtual 105, 0), (84, .if_icmp .eq 6, 90), (87, .goto 23, 110), (90, .aload_n 0, 0), (91, .iload_n 2, 0), (92, .iload 4, 0), (94, .invokevirtual 200, 0), (97, .aload_n 0, 0), (98, .iload_n 1, 0), (99, .iload_n 2, 0), (100, .iload_n 3, 0), (101, .invokevirtual 197, 0), (104, .aload_n 0, 0), (105, .iload_n 3, 0), (106, .invokevirtual 156, 0), (109, .ireturn, 0), (110, .iinc 4 1, 0), (113, .goto (-53), 60), (116, .iinc 3 1, 0), (119, .goto (-72), 47), (122, .aload_n 0, 0), (123, .invokevirtual 149, 0), (126, .ireturn, 0)] := rfl
theorem at_X5_join_31 : mm_at 31 kdX5_join = [(31, .aload_n 0, 0), (32, .iload_n 1, 0), (33, .iload_n 2, 0), (34, .invokevirtual 194, 0), (37, .ifCond .eq 8, 45), (40, .aload_n 0, 0), (41, .invokevirtual 149, 0), (44, .ireturn, 0), (45, .iconst 0, 0), (46, .istore_n 3, 0), (47, .iload_n 3, 0), (48, .aload_n 0, 0), (49, .getfield 19, 0), (52, .iload_n 1, 0), (53, .iaload, 0), (54, .if_icmp .gt 68, 122), (57, .iconst 0, 0), (58, .istore 4, 0), (60, .iload 4, 0), (62, .aload_n 0, 0), (63, .getfield 19, 0), (66, .iload_n 2, 0), (67, .iaload, 0), (68, .if_icmp .ge 48, 116), (71, .aload_n 0, 0), (72, .iload_n 1, 0), (73, .iload_n 3, 0), (74, .invokevirtual 105, 0), (77, .aload_n 0, 0), (78, .iload_n 2, 0), (79, .iload 4, 0), (81, .invokevirtual 105, 0), (84, .if_icmp .eq 6, 90), (87, .goto 23, 110), (90, .aload_n 0, 0), (91, .iload_n 2, 0), (92, .iload 4, 0), (94, .invokevirtual 200, 0), (97, .aload_n 0, 0), (98, .iload_n 1, 0), (99, .iload_n 2, 0), (100, .iload_n 3, 0), (101, .invokevirtual 197, 0), (104, .aload_n 0, 0), (105, .iload_n 3, 0), (106, .invokevirtual 156, 0), (109, .ireturn, 0), (110, .iinc 4 1, 0), (113, .goto (-53), 60), (116, .iinc 3 1, 0), (119, .goto (-72), 47), (122, .aload_n 0, 0), (123, .invokevirtual 149, 0), (126, .ireturn, 0)] := rfl
theorem at_X5_join_45 : mm_at 45 kdX5_join = [(45, .iconst 0, 0), (46, .istore_n 3, 0), (47, .iload_n 3, 0), (48, .aload_n 0, 0), (49, .getfield 19, 0), (52, .iload_n 1, 0), (53, .iaload, 0), (54, .if_icmp .gt 68, 122), (57, .iconst 0, 0), (58, .istore 4, 0), (60, .iload 4, 0), (62, .aload_n 0, 0), (63, .getfield 19, 0), (66, .iload_n 2, 0), (67, .iaload, 0), (68, .if_icmp .ge 48, 116), (71, .aload_n 0, 0), (72, .iload_n 1, 0), (73, .iload_n 3, 0), (74, .invokevirtual 105, 0), (77, .aload_n 0, 0), (78, .iload_n 2, 0), (79, .iload 4, 0), (81, .invokevirtual 105, 0), (84, .if_icmp .eq 6, 90), (87, .goto 23, 110), (90, .aload_n 0, 0), (91, .iload_n 2, 0), (92, .iload 4, 0), (94, .invokevirtual 200, 0), (97, .aload_n 0, 0), (98, .iload_n 1, 0), (99, .iload_n 2, 0), (100, .iload_n 3, 0), (101, .invokevirtual 197, 0), (104, .aload_n 0, 0), (105, .iload_n 3, 0), (106, .invokevirtual 156, 0), (109, .ireturn, 0), (110, .iinc 4 1, 0), (113, .goto (-53), 60), (116, .iinc 3 1, 0), (119, .goto (-72), 47), (122, .aload_n 0, 0), (123, .invokevirtual 149, 0), (126, .ireturn, 0)] := rfl
theorem at_X5_join_47 : mm_at 47 kdX5_join = [(47, .iload_n 3, 0), (48, .aload_n 0, 0), (49, .getfield 19, 0), (52, .iload_n 1, 0), (53, .iaload, 0), (54, .if_icmp .gt 68, 122), (57, .iconst 0, 0), (58, .istore 4, 0), (60, .iload 4, 0), (62, .aload_n 0, 0), (63, .getfield 19, 0), (66, .iload_n 2, 0), (67, .iaload, 0), (68, .if_icmp .ge 48, 116), (71, .aload_n 0, 0), (72, .iload_n 1, 0), (73, .iload_n 3, 0), (74, .invokevirtual 105, 0), (77, .aload_n 0, 0), (78, .iload_n 2, 0), (79, .iload 4, 0), (81, .invokevirtual 105, 0), (84, .if_icmp .eq 6, 90), (87, .goto 23, 110), (90, .aload_n 0, 0), (91, .iload_n 2, 0), (92, .iload 4, 0), (94, .invokevirtual 200, 0), (97, .aload_n 0, 0), (98, .iload_n 1, 0), (99, .iload_n 2, 0), (100, .iload_n 3, 0), (101, .invokevirtual 197, 0), (104, .aload_n 0, 0), (105, .iload_n 3, 0), (106, .invokevirtual 156, 0), (109, .ireturn, 0), (110, .iinc 4 1, 0), (113, .goto (-53), 60), (116, .iinc 3 1, 0), (119, .goto (-72), 47), (122, .aload_n 0, 0), (123, .invokevirtual 149, 0), (126, .ireturn, 0)] := rfl
theorem at_X5_join_60 : mm_at 60 kdX5_join = [(60, .iload 4, 0), (62, .aload_n 0, 0), (63, .getfield 19, 0), (66, .iload_n 2, 0), (67, .iaload, 0), (68, .if_icmp .ge 48, 116), (71, .aload_n 0, 0), (72, .iload_n 1, 0), (73, .iload_n 3, 0), (74, .invokevirtual 105, 0), (77, .aload_n 0, 0), (78, .iload_n 2, 0), (79, .iload 4, 0), (81, .invokevirtual 105, 0), (84, .if_icmp .eq 6, 90), (87, .goto 23, 110), (90, .aload_n 0, 0), (91, .iload_n 2, 0), (92, .iload 4, 0), (94, .invokevirtual 200, 0), (97, .aload_n 0, 0), (98, .iload_n 1, 0), (99, .iload_n 2, 0), (100, .iload_n 3, 0), (101, .invokevirtual 197, 0), (104, .aload_n 0, 0), (105, .iload_n 3, 0), (106, .invokevirtual 156, 0), (109, .ireturn, 0), (110, .iinc 4 1, 0), (113, .goto (-53), 60), (116, .iinc 3 1, 0), (119, .goto (-72), 47), (122, .aload_n 0, 0), (123, .invokevirtual 149, 0), (126, .ireturn, 0)] := rfl
theorem at_X5_join_90 : mm_at 90 kdX5_join = [(90, .aload_n 0, 0), (91, .iload_n 2, 0), (92, .iload 4, 0), (94, .invokevirtual 200, 0), (97, .aload_n 0, 0), (98, .iload_n 1, 0), (99, .iload_n 2, 0), (100, .iload_n 3, 0), (101, .invokevirtual 197, 0), (104, .aload_n 0, 0), (105, .iload_n 3, 0), (106, .invokevirtual 156, 0), (109, .ireturn, 0), (110, .iinc 4 1, 0), (113, .goto (-53), 60), (116, .iinc 3 1, 0), (119, .goto (-72), 47), (122, .aload_n 0, 0), (123, .invokevirtual 149, 0), (126, .ireturn, 0)] := rfl
theorem at_X5_join_110 : mm_at 110 kdX5_join = [(110, .iinc 4 1, 0), (113, .goto (-53), 60), (116, .iinc 3 1, 0), (119, .goto (-72), 47), (122, .aload_n 0, 0), (123, .invokevirtual 149, 0), (126, .ireturn, 0)] := rfl
theorem at_X5_join_116 : mm_at 116 kdX5_join = [(116, .iinc 3 1, 0), (119, .goto (-72), 47), (122, .aload_n 0, 0), (123, .invokevirtual 149, 0), (126, .ireturn, 0)] := rfl
theorem at_X5_join_122 : mm_at 122 kdX5_join = [(122, .aload_n 0, 0), (123, .invokevirtual 149, 0), (126, .ireturn, 0)] := rfl
def sp_X5_join : mm_S := fun av M d Q => match av with
  | [.inr (.inr (.inl o)), .inl a, .inl b] =>  o = 17 ∧ xA M ∧ InI a ∧ InI b ∧ ∀ M' r, xP M M' → C_join a b (vX M) (vX M') (M' 17 0) r → Q (.inl (some (mm_I r))) M' d
  | _ => False
def ct_X5_join : List (Nat × mm_Ca) := [(178, (0, 2, 14, sp_X5_isNoWalk, 0)), (146, (0, 3, 14, sp_X5_start, 0)), (194, (0, 3, 14, sp_X5_isNoRound, 0)), (149, (0, 1, 14, sp_X5_cannot, 0)), (105, (0, 3, 14, sp_X5_cornerOf, 0)), (200, (0, 3, 14, sp_X5_rotated, 0)), (197, (0, 4, 14, sp_X5_spliced, 0)), (156, (0, 2, 14, sp_X5_act, 0))]
abbrev rr_X5_join (Q : mm_Q) := mm_run (mm_look flX5) (mm_look ct_X5_join) mm_x0 (mm_look ([] : List (Nat × Int))) (fun _ => none) 1 0 (fun _ _ => none) Q kdX5_join
set_option maxRecDepth 20000 in
theorem lp2_X5_join {M : mm_M} {d : List Nat} {Q : mm_Q} {k v n m i : Nat} (hk : k < 3) (hv : v < 3) (ha : xA M) (hn : M 21 k = n) (hm : M 21 v = m) (hi : i ≤ n) (h90 : ∀ j : Nat, j < m → corX M k i = corX M v j → (∀ j' : Nat, j' < j → corX M k i ≠ corX M v j') → rr_X5_join Q 90 [some (mm_R 17), some (mm_I k), some (mm_I v), some (mm_I i), some (mm_I j)] [] M d 0) (h116 : (∀ j' : Nat, j' < m → corX M k i ≠ corX M v j') → ∀ x4, rr_X5_join Q 116 [some (mm_R 17), some (mm_I k), some (mm_I v), some (mm_I i), x4] [] M d 0) : ∀ (b j : Nat), j + b = m → (∀ j' : Nat, j' < j → corX M k i ≠ corX M v j') → rr_X5_join Q 60 [some (mm_R 17), some (mm_I k), some (mm_I v), some (mm_I i), some (mm_I j)] [] M d 0 := by
  have ht := ha.t
  have mk := ha.v hk
  have mv := ha.v hv
  have b1 := mk.1
  have b2 := mv.1
  intro b
  induction b with
  | zero =>
    intro j hj hN
    have e : j = m := by omega
    subst e
    obtain ⟨K, hK, hK2⟩ : ∃ K : Nat → mm_K, (∀ t ls st M d u, K t ls st M d u → rr_X5_join Q t ls st M d u) ∧ (∀ t ls st M d u, rr_X5_join Q t ls st M d u → K t ls st M d u) := ⟨rr_X5_join Q, fun _ _ _ _ _ _ h => h, fun _ _ _ _ _ _ h => h⟩
    have h9 := hK2 _ _ _ _ _ _ (h116 hN (some (mm_I j)))
    clear h116 h90 hN
    refine mm_run_at (stop := [71, 116]) (S := K) kkX5_join 90 ?_ (fun _ _ _ _ _ _ _ h => hK _ _ _ _ _ _ h)
    repeat' (first | with_reducible assumption | with_reducible exact mm_i17 | with_reducible exact mm_i18 | with_reducible exact mm_i19 | with_reducible exact mm_i20 | with_reducible exact mm_i21 | with_reducible exact mm_i22 | ((with_reducible show mm_rv _ _ _ _ _); first | exact True.intro | exact mm_i17 | exact mm_i18 | exact mm_i19 | exact mm_i20 | exact mm_i21 | exact mm_i22) | ((with_reducible show mm_bool _ _); first | exact True.intro | exact Or.inl rfl | exact Or.inr rfl | (show (_ : Int) = 0 ∨ _ = 1)) | refine And.intro ?_ ?_ | intro _ | with_reducible exact True.intro | exact rfl | with_reducible exact Or.inl rfl | with_reducible exact Or.inr rfl | exact Nat.le_of_ble_eq_true rfl)
    all_goals (try simp (disch := omega) only [InI, Int.toNat_natCast, Int.tmod_eq_emod_of_nonneg, Int.tdiv_eq_ediv_of_nonneg, true_implies, true_or, or_true, mm_l18, mm_l19, mm_l20, mm_l21, mm_l22] at *)
    all_goals first | omega | exact h9 | skip
  | succ b ih =>
    intro j hj hN
    obtain ⟨K, hK, hK2⟩ : ∃ K : Nat → mm_K, (∀ t ls st M d u, K t ls st M d u → rr_X5_join Q t ls st M d u) ∧ (∀ t ls st M d u, rr_X5_join Q t ls st M d u → K t ls st M d u) := ⟨rr_X5_join Q, fun _ _ _ _ _ _ h => h, fun _ _ _ _ _ _ h => h⟩
    have s1 : corX M k i ≠ corX M v j → _ := fun h => hK2 _ _ _ _ _ _ (ih (j + 1) (by omega) (fun j' hj' => by
      by_cases e : j' = j
      · rw [e]; exact h
      · exact hN j' (by omega)))
    have s2 : corX M k i = corX M v j → _ := fun h => hK2 _ _ _ _ _ _ (h90 j (by omega) h hN)
    clear ih h90 h116 hN
    refine mm_run_at (stop := [60, 90, 116]) (S := K) kkX5_join 90 ?_ (fun _ _ _ _ _ _ _ h => hK _ _ _ _ _ _ h)
    repeat' (first | with_reducible assumption | with_reducible exact mm_i17 | with_reducible exact mm_i18 | with_reducible exact mm_i19 | with_reducible exact mm_i20 | with_reducible exact mm_i21 | with_reducible exact mm_i22 | ((with_reducible show mm_rv _ _ _ _ _); first | exact True.intro | exact mm_i17 | exact mm_i18 | exact mm_i19 | exact mm_i20 | exact mm_i21 | exact mm_i22 | ((with_reducible show mV _ _); exact mk) | ((with_reducible show mV _ _); exact mv)) | ((with_reducible show mV _ _); exact mk) | ((with_reducible show mV _ _); exact mv) | ((with_reducible show mm_bool _ _); first | exact True.intro | exact Or.inl rfl | exact Or.inr rfl | (show (_ : Int) = 0 ∨ _ = 1)) | refine And.intro ?_ ?_ | intro _ | with_reducible exact True.intro | exact rfl | with_reducible exact Or.inl rfl | with_reducible exact Or.inr rfl | exact Nat.le_of_ble_eq_true rfl)
    all_goals (try simp (disch := omega) only [InI, Int.toNat_natCast, Int.tmod_eq_emod_of_nonneg, Int.tdiv_eq_ediv_of_nonneg, true_implies, true_or, or_true, mm_l18, mm_l19, mm_l20, mm_l21, mm_l22] at *)
    all_goals first | omega | exact s1 (by omega) | exact s2 (by omega) | skip
set_option maxRecDepth 20000 in
theorem lp_X5_join {M : mm_M} {d : List Nat} {Q : mm_Q} {k v n m : Nat} (hk : k < 3) (hv : v < 3) (ha : xA M) (hn : M 21 k = n) (hm : M 21 v = m) (q9 : (∀ i j : Nat, i ≤ n → j < m → corX M k i ≠ corX M v j) → Q (.inl (some (mm_I (-9)))) (mm_up M 17 15 (M 17 15 + 1)) d) (h90 : ∀ i j : Nat, i ≤ n → j < m → corX M k i = corX M v j → (∀ i' j' : Nat, i' < i → j' < m → corX M k i' ≠ corX M v j') → (∀ j' : Nat, j' < j → corX M k i ≠ corX M v j') → rr_X5_join Q 90 [some (mm_R 17), some (mm_I k), some (mm_I v), some (mm_I i), some (mm_I j)] [] M d 0) : ∀ (b i : Nat) (x4 : Option mm_V), i + b = n + 1 → (∀ i' j' : Nat, i' < i → j' < m → corX M k i' ≠ corX M v j') → rr_X5_join Q 47 [some (mm_R 17), some (mm_I k), some (mm_I v), some (mm_I i), x4] [] M d 0 := by
  have b1 := (ha.v hk).1
  have b2 := (ha.v hv).1
  intro b
  induction b with
  | zero =>
    intro i x4 hi hN
    have q99 := q9 (fun i' j' h1 h2 => hN i' j' (by omega) h2)
    clear q9 h90 hN
    obtain ⟨K, hK, hK2⟩ : ∃ K : Nat → mm_K, (∀ t ls st M d u, K t ls st M d u → rr_X5_join Q t ls st M d u) ∧ (∀ t ls st M d u, rr_X5_join Q t ls st M d u → K t ls st M d u) := ⟨rr_X5_join Q, fun _ _ _ _ _ _ h => h, fun _ _ _ _ _ _ h => h⟩
    refine mm_run_at (stop := [57]) (S := K) kkX5_join 90 ?_ (fun _ _ _ _ _ _ _ h => hK _ _ _ _ _ _ h)
    repeat' (first | with_reducible assumption | with_reducible exact mm_i17 | with_reducible exact mm_i18 | with_reducible exact mm_i19 | with_reducible exact mm_i20 | with_reducible exact mm_i21 | with_reducible exact mm_i22 | ((with_reducible show mm_rv _ _ _ _ _); first | exact True.intro | exact mm_i17 | exact mm_i18 | exact mm_i19 | exact mm_i20 | exact mm_i21 | exact mm_i22) | ((with_reducible show mm_bool _ _); first | exact True.intro | exact Or.inl rfl | exact Or.inr rfl | (show (_ : Int) = 0 ∨ _ = 1)) | refine And.intro ?_ ?_ | intro _ | with_reducible exact True.intro | exact rfl | with_reducible exact Or.inl rfl | with_reducible exact Or.inr rfl | exact Nat.le_of_ble_eq_true rfl)
    all_goals (try simp (disch := omega) only [InI, Int.toNat_natCast, Int.tmod_eq_emod_of_nonneg, Int.tdiv_eq_ediv_of_nonneg, true_implies, true_or, or_true, mm_l18, mm_l19, mm_l20, mm_l21, mm_l22] at *)
    all_goals first | omega | exact q99 | skip
  | succ b ih =>
    intro i x4 hi hN
    have k116 : (∀ j' : Nat, j' < m → corX M k i ≠ corX M v j') → ∀ x4, rr_X5_join Q 116 [some (mm_R 17), some (mm_I k), some (mm_I v), some (mm_I i), x4] [] M d 0 := by
      intro hz x4
      obtain ⟨K, hK, hK2⟩ : ∃ K : Nat → mm_K, (∀ t ls st M d u, K t ls st M d u → rr_X5_join Q t ls st M d u) ∧ (∀ t ls st M d u, rr_X5_join Q t ls st M d u → K t ls st M d u) := ⟨rr_X5_join Q, fun _ _ _ _ _ _ h => h, fun _ _ _ _ _ _ h => h⟩
      have st := hK2 _ _ _ _ _ _ (ih (i + 1) x4 (by omega) (fun i' j' h1 h2 => by
        by_cases e : i' = i
        · rw [e]; exact hz j' h2
        · exact hN i' j' (by omega) h2))
      clear ih q9 h90 hN hz
      refine mm_run_at (stop := [47]) (S := K) kkX5_join 90 ?_ (fun _ _ _ _ _ _ _ h => hK _ _ _ _ _ _ h)
      repeat' (first | with_reducible assumption | with_reducible exact mm_i17 | with_reducible exact mm_i18 | with_reducible exact mm_i19 | with_reducible exact mm_i20 | with_reducible exact mm_i21 | with_reducible exact mm_i22 | ((with_reducible show mm_rv _ _ _ _ _); first | exact True.intro | exact mm_i17 | exact mm_i18 | exact mm_i19 | exact mm_i20 | exact mm_i21 | exact mm_i22) | ((with_reducible show mm_bool _ _); first | exact True.intro | exact Or.inl rfl | exact Or.inr rfl | (show (_ : Int) = 0 ∨ _ = 1)) | refine And.intro ?_ ?_ | intro _ | with_reducible exact True.intro | exact rfl | with_reducible exact Or.inl rfl | with_reducible exact Or.inr rfl | exact Nat.le_of_ble_eq_true rfl)
      all_goals (try simp (disch := omega) only [InI, Int.toNat_natCast, Int.tmod_eq_emod_of_nonneg, Int.tdiv_eq_ediv_of_nonneg, true_implies, true_or, or_true, mm_l18, mm_l19, mm_l20, mm_l21, mm_l22] at *)
      all_goals first | omega | exact st | skip
    have h60 := lp2_X5_join (d := d) (Q := Q) hk hv ha hn hm (show i ≤ n by omega) (fun j hj e hz => h90 i j (by omega) hj e hN hz) k116 m 0 (by omega) (fun j' hj' => by omega)
    clear k116 q9 h90 hN
    obtain ⟨K, hK, hK2⟩ : ∃ K : Nat → mm_K, (∀ t ls st M d u, K t ls st M d u → rr_X5_join Q t ls st M d u) ∧ (∀ t ls st M d u, rr_X5_join Q t ls st M d u → K t ls st M d u) := ⟨rr_X5_join Q, fun _ _ _ _ _ _ h => h, fun _ _ _ _ _ _ h => h⟩
    have h600 := hK2 _ _ _ _ _ _ h60
    clear ih h60
    refine mm_run_at (stop := [60, 122]) (S := K) kkX5_join 90 ?_ (fun _ _ _ _ _ _ _ h => hK _ _ _ _ _ _ h)
    repeat' (first | with_reducible assumption | with_reducible exact mm_i17 | with_reducible exact mm_i18 | with_reducible exact mm_i19 | with_reducible exact mm_i20 | with_reducible exact mm_i21 | with_reducible exact mm_i22 | ((with_reducible show mm_rv _ _ _ _ _); first | exact True.intro | exact mm_i17 | exact mm_i18 | exact mm_i19 | exact mm_i20 | exact mm_i21 | exact mm_i22) | ((with_reducible show mm_bool _ _); first | exact True.intro | exact Or.inl rfl | exact Or.inr rfl | (show (_ : Int) = 0 ∨ _ = 1)) | refine And.intro ?_ ?_ | intro _ | with_reducible exact True.intro | exact rfl | with_reducible exact Or.inl rfl | with_reducible exact Or.inr rfl | exact Nat.le_of_ble_eq_true rfl)
    all_goals (try simp (disch := omega) only [InI, Int.toNat_natCast, Int.tmod_eq_emod_of_nonneg, Int.tdiv_eq_ediv_of_nonneg, true_implies, true_or, or_true, mm_l18, mm_l19, mm_l20, mm_l21, mm_l22] at *)
    all_goals first | omega | exact h600 | skip
set_option maxRecDepth 20000 in
theorem rn_X5_join : mm_RN flX5 ct_X5_join mm_x0 [] 1 0 5 kdX5_join sp_X5_join := by
  intro av M d Q h
  unfold sp_X5_join at h
  split at h
  · rename_i o a b
    obtain ⟨rfl, ha, h1, h2, hq⟩ := h
    obtain ⟨K, hK, hK2⟩ : ∃ K : Nat → mm_K, (∀ t ls st M d u, K t ls st M d u → rr_X5_join Q t ls st M d u) ∧ (∀ t ls st M d u, rr_X5_join Q t ls st M d u → K t ls st M d u) := ⟨rr_X5_join Q, fun _ _ _ _ _ _ h => h, fun _ _ _ _ _ _ h => h⟩
    have q1 : ∀ v, v = 1 → ¬ ((0 ≤ a ∧ a ≤ 2) ∧ (0 ≤ b ∧ b ≤ 2)) → Q (.inl (some (mm_I 0))) (mm_up M 17 0 v) d := fun v hv hn => hq _ _ (xP_s ha) (xq1 (fun h => by unfold iw at h; omega) hv)
    have k31 : ∀ v, v = 0 → (0 ≤ a ∧ a ≤ 2) → (0 ≤ b ∧ b ≤ 2) → K 31 [some (mm_R 17), some (mm_I a), some (mm_I b), none, none] [] (mm_up M 17 0 v) d 0 := by
      intro v hv0 ca cb
      have hcc : iw a ∧ iw b := ⟨(wk_in ca).1, (wk_in cb).1⟩
      obtain ⟨M1, e0, ha1, hP1, e17, eo⟩ := xS (v := v) ha
      have e00 : M1 17 0 = 0 := by rw [← e0, hv0]; exact x00
      have eV : vX M1 = vX M := by rw [← e0, vX_u0]
      rw [e0]
      obtain ⟨k, rfl⟩ := Int.eq_ofNat_of_zero_le ca.1
      obtain ⟨w, rfl⟩ := Int.eq_ofNat_of_zero_le cb.1
      have hk : k < 3 := by omega
      have hw : w < 3 := by omega
      have hv := ha1.v hk
      have hvw := ha1.v hw
      have hDw := ha1.d hw
      have ht := ha1.t
      have v1 := hv.1
      have w1 := hvw.1
      obtain ⟨n, hn⟩ := Int.eq_ofNat_of_zero_le v1.1
      obtain ⟨m, hm⟩ := Int.eq_ofNat_of_zero_le w1.1
      have en := vX_n (M := M1) (show k < 4 by omega)
      have enw := vX_n (M := M1) (show w < 4 by omega)
      have ecv : ∀ i : Nat, i ≤ n → corX M1 k i = cor (vX M1) (8 + 2 * k) i := fun i hi => cor_v (by omega) hv (by omega)
      have ecw : ∀ i : Nat, i ≤ m → corX M1 w i = cor (vX M1) (8 + 2 * w) i := fun i hi => cor_v (by omega) hvw (by omega)
      obtain ⟨PR, ePR⟩ : ∃ PR : Prop, PR ↔ rdR (vX M1) (8 + 2 * k) (8 + 2 * w) := ⟨_, Iff.rfl⟩
      have q9 : ¬ (PR ∧ ∃ i j : Nat, i ≤ n ∧ j < m ∧ corX M1 k i = corX M1 w j) → Q (.inl (some (mm_I (-9)))) (mm_up M1 17 15 (M1 17 15 + 1)) d := fun h => hq _ (-9) (hP1.tr (xA_u (x := M1 17 15 + 1) ha1)) (Or.inr ⟨hcc, by rw [mm_up_ob2 (by omega)]; exact e00, by
        rw [← eV]
        refine no9.n (fun h2 => h ⟨ePR.mpr h2.1, ?_⟩) cX_9
        obtain ⟨i, j, h3, h4, h5⟩ := h2.2
        rw [show vX M1 (wk (k : Int)) 2 = M1 21 k from en] at h3
        rw [show vX M1 (wk (w : Int)) 2 = M1 21 w from enw] at h4
        exact ⟨i, j, by omega, by omega, by rw [ecv i (by omega), ecw j (by omega)]; exact h5⟩⟩)
      have k90 : PR → ∀ i j : Nat, i ≤ n → j < m → corX M1 k i = corX M1 w j → (∀ i' j' : Nat, i' < i → j' < m → corX M1 k i' ≠ corX M1 w j') → (∀ j' : Nat, j' < j → corX M1 k i ≠ corX M1 w j') → rr_X5_join Q 90 [some (mm_R 17), some (mm_I k), some (mm_I w), some (mm_I i), some (mm_I j)] [] M1 d 0 := by
        intro hPR i j hi hj hee hN1 hN2
        have hr := ePR.mp hPR
        have hmt : mtR (vX M1) (8 + 2 * k) (8 + 2 * w) i j := ⟨by rw [en]; omega, by rw [enw]; omega, by rw [← ecv i hi, ← ecw j (by omega)]; exact hee, fun i' j' h1 h2 => by rw [enw] at h2; rw [← ecv i' (by omega), ← ecw j' (by omega)]; exact hN1 i' j' h1 (by omega), fun j' h1 => by rw [← ecv i hi, ← ecw j' (by omega)]; exact hN2 j' h1⟩
        have k97 : ∀ M2, fX M1 M2 ∧ M2 17 = M1 17 ∧ fr [8 + 2 * w, 8 + 2 * w + 1] (vX M1) (vX M2) ∧ rotR (vX M1) (vX M2) (8 + 2 * w) (if M1 21 w = 0 then 0 else j) ∧ mV M2 w → K 97 [some (mm_R 17), some (mm_I k), some (mm_I w), some (mm_I i), some (mm_I j)] [] M2 d 0 := by
          intro M2 ⟨g1, g2, g3, g4, g5⟩
          have el : M2 21 w = M1 21 w := by
            have := g4.1
            rw [vX_n (by omega), vX_n (by omega)] at this
            exact this
          have hP2 := (xP_q ha1 hw g1 g2 g3 g5 (rot_wD hDw g4)).1 (by omega)
          have hr2 := rot_rd (isKk (show k < 4 by omega)) (isKk (show w < 4 by omega)) hr (by rw [vX_n (by omega)]; omega) g4 g3
          have hkw : k ≠ w := fun e => hr.1 (by rw [e])
          have elk : M2 21 k = n := by rw [← hn, ← vX_n (M := M2) (by omega), ← vX_n (M := M1) (by omega), g3 (8 + 2 * k) (by simp; omega)]
          have k104 : ∀ M3, (fX M2 M3 ∧ fr [8 + 2 * k, 8 + 2 * k + 1, 8 + 2 * w, 16] (vX M2) (vX M3) ∧ splR (vX M2) (vX M3) (8 + 2 * k) (8 + 2 * w) i ∧ (∀ j, j ≠ 4 → vX M3 16 j = vX M2 16 j) ∧ vX M3 16 4 = (if M2 17 10 = k ∨ M2 17 10 = w then 1 else M2 17 13) ∧ mV M3 k ∧ wD (vX M3) (8 + 2 * k) ∧ mV M3 w ∧ (∀ j, j ≠ 13 → M3 17 j = M2 17 j)) → K 104 [some (mm_R 17), some (mm_I k), some (mm_I w), some (mm_I i), some (mm_I j)] [] M3 d 0 := by
            intro M3 ⟨b1, b2, b3, b4, b5, b6, b7, b8, b9⟩
            have hP3 := xP_sp hP2.a hk hw b1 b2 b3 b4 b5 b6 b7 b8 b9
            have h10 := hP2.a.2
            obtain ⟨V2, z1, z2, z3⟩ := spl_los h10 b4 b5
            have lk := isK_le (isKk (show k < 4 by omega))
            have lw := isK_le (isKk (show w < 4 by omega))
            rw [if_neg (by omega)] at g4
            have gs : splR (vX M2) V2 (8 + 2 * k) (8 + 2 * w) i := spl_e (z1 _ (by omega)) (z1 _ (by omega)) (z1 _ (by omega)) b3
            have q0 : Q (.inl (some (mm_I i))) (mm_up M3 17 14 (M3 17 14 + 1)) d := hq _ _ (xP_ac ((hP1.tr hP2).tr hP3)) (Or.inr ⟨hcc, by rw [mm_up_ob2 (by omega), b9 0 (by omega), g2]; exact e00, by
              rw [← eV]
              exact no9.y ⟨hr, i, j, hmt.1, hmt.2.1, hmt.2.2.1⟩ ⟨i, j, hmt, rfl, vX M2, V2, g4, g3, gs, fun o ho => by
                by_cases e : o = 16
                · rw [e]; exact z2
                · rw [z1 o e]
                  exact b2 o (by
                    have ho2 : o ∉ [8 + 2 * k, 8 + 2 * k + 1, 8 + 2 * w] := ho
                    simp at ho2 ⊢
                    omega), SE.eq (by rw [show losM (losM V2 (wk (w : Int))) (wk (k : Int)) = vX M3 from z3]; exact cX_n (by omega))⟩⟩)
            clear b3 b4 b5 b9 z1 z2 z3 hq q1 q9 ePR hmt hN1 hN2 hee ecv ecw g4 gs
            refine hK2 _ _ _ _ _ _ ?_
            refine mm_run_at (stop := []) (S := K) kkX5_join 90 ?_ (fun _ _ _ _ _ _ _ h => hK _ _ _ _ _ _ h)
            repeat' (first | with_reducible assumption | with_reducible exact mm_i17 | with_reducible exact mm_i18 | with_reducible exact mm_i19 | with_reducible exact mm_i20 | with_reducible exact mm_i21 | with_reducible exact mm_i22 | ((with_reducible show mm_rv _ _ _ _ _); first | exact True.intro | exact mm_i17 | exact mm_i18 | exact mm_i19 | exact mm_i20 | exact mm_i21 | exact mm_i22) | ((with_reducible show mm_bool _ _); first | exact True.intro | exact Or.inl rfl | exact Or.inr rfl | (show (_ : Int) = 0 ∨ _ = 1)) | refine And.intro ?_ ?_ | intro _ | with_reducible exact True.intro | exact rfl | with_reducible exact Or.inl rfl | with_reducible exact Or.inr rfl | exact Nat.le_of_ble_eq_true rfl)
            all_goals (try simp (disch := omega) only [InI, Int.toNat_natCast, Int.tmod_eq_emod_of_nonneg, Int.tdiv_eq_ediv_of_nonneg, true_implies, true_or, or_true, mm_l18, mm_l19, mm_l20, mm_l21, mm_l22] at *)
            all_goals first | omega | exact q0 | skip
          refine hK2 _ _ _ _ _ _ ?_
          refine mm_run_at (stop := [104]) (S := K) kkX5_join 90 ?_ (fun _ _ _ _ _ _ _ h => hK _ _ _ _ _ _ h)
          exact mm_c5 rfl (Nat.le_of_ble_eq_true rfl) (by exact mm_i17) (Nat.le_of_ble_eq_true rfl) (Nat.le_of_ble_eq_true rfl) (mm_a7 rfl hP2.a ⟨by omega, by omega⟩ ⟨by omega, by omega⟩ hr2 ⟨by omega, by rw [Int.toNat_natCast, elk]; omega⟩ (fun M3 h => k104 M3 h))
        refine mm_run_at (stop := [97]) (S := K) kkX5_join 90 ?_ (fun _ _ _ _ _ _ _ h => hK _ _ _ _ _ _ h)
        exact mm_c5 rfl (Nat.le_of_ble_eq_true rfl) (by exact mm_i17) (Nat.le_of_ble_eq_true rfl) (Nat.le_of_ble_eq_true rfl) (mm_a6 rfl ht ⟨by omega, by omega⟩ (by rw [Int.toNat_natCast]; exact hvw) ⟨by omega, by omega⟩ (fun M2 h => k97 M2 h))
      have k40 : PR → K 45 [some (mm_R 17), some (mm_I k), some (mm_I w), none, none] [] M1 d 0 := by
        intro hPR
        have k47 := hK2 _ _ _ _ _ _ (lp_X5_join (d := d) (Q := Q) hk hw ha1 hn hm (fun h => q9 (fun h2 => by
          obtain ⟨i, j, h3, h4, h5⟩ := h2.2
          exact h i j h3 h4 h5)) (k90 hPR) (n + 1) 0 none (by omega) (fun i' j' h1 => by omega))
        clear k90 hq q1 q9 ePR ecv ecw
        refine hK2 _ _ _ _ _ _ ?_
        refine mm_run_at (stop := [47]) (S := K) kkX5_join 90 ?_ (fun _ _ _ _ _ _ _ h => hK _ _ _ _ _ _ h)
        repeat' (first | with_reducible assumption | with_reducible exact mm_i17 | with_reducible exact mm_i18 | with_reducible exact mm_i19 | with_reducible exact mm_i20 | with_reducible exact mm_i21 | with_reducible exact mm_i22 | ((with_reducible show mm_rv _ _ _ _ _); first | exact True.intro | exact mm_i17 | exact mm_i18 | exact mm_i19 | exact mm_i20 | exact mm_i21 | exact mm_i22) | ((with_reducible show mm_bool _ _); first | exact True.intro | exact Or.inl rfl | exact Or.inr rfl | (show (_ : Int) = 0 ∨ _ = 1)) | refine And.intro ?_ ?_ | intro _ | with_reducible exact True.intro | exact rfl | with_reducible exact Or.inl rfl | with_reducible exact Or.inr rfl | exact Nat.le_of_ble_eq_true rfl)
        all_goals (try simp (disch := omega) only [InI, Int.toNat_natCast, Int.tmod_eq_emod_of_nonneg, Int.tdiv_eq_ediv_of_nonneg, true_implies, true_or, or_true, mm_l18, mm_l19, mm_l20, mm_l21, mm_l22] at *)
        all_goals first | omega | exact k47 | skip
      have k37 : ∀ r, (r = 0 ∨ r = 1) ∧ (r = 0 ↔ rdR (vX M1) (8 + 2 * k) (8 + 2 * w)) → K 37 [some (mm_R 17), some (mm_I k), some (mm_I w), none, none] [mm_I r] M1 d 0 := by
        intro r ⟨hr, hr2⟩
        rw [← ePR] at hr2
        have k455 := fun h => k40 (hr2.mp h)
        have q99 : r = 1 → Q (.inl (some (mm_I (-9)))) (mm_up M1 17 15 (M1 17 15 + 1)) d := fun h => q9 (fun h2 => by have := hr2.mpr h2.1; omega)
        clear hr2 k90 k40 hq q1 q9 ePR ecv ecw
        refine hK2 _ _ _ _ _ _ ?_
        refine mm_run_at (stop := [45]) (S := K) kkX5_join 90 ?_ (fun _ _ _ _ _ _ _ h => hK _ _ _ _ _ _ h)
        repeat' (first | with_reducible assumption | with_reducible exact mm_i17 | with_reducible exact mm_i18 | with_reducible exact mm_i19 | with_reducible exact mm_i20 | with_reducible exact mm_i21 | with_reducible exact mm_i22 | ((with_reducible show mm_rv _ _ _ _ _); first | exact True.intro | exact mm_i17 | exact mm_i18 | exact mm_i19 | exact mm_i20 | exact mm_i21 | exact mm_i22) | ((with_reducible show mm_bool _ _); first | exact True.intro | exact Or.inl rfl | exact Or.inr rfl | (show (_ : Int) = 0 ∨ _ = 1)) | refine And.intro ?_ ?_ | intro _ | with_reducible exact True.intro | exact rfl | with_reducible exact Or.inl rfl | with_reducible exact Or.inr rfl | exact Nat.le_of_ble_eq_true rfl)
        all_goals (try simp (disch := omega) only [InI, Int.toNat_natCast, Int.tmod_eq_emod_of_nonneg, Int.tdiv_eq_ediv_of_nonneg, true_implies, true_or, or_true, mm_l18, mm_l19, mm_l20, mm_l21, mm_l22] at *)
        all_goals first | omega | exact q99 (by omega) | exact k455 (by omega) | skip
      clear k90 k40 hq q1 q9 ePR ecv ecw
      refine hK2 _ _ _ _ _ _ ?_
      refine mm_run_at (stop := [37]) (S := K) kkX5_join 90 ?_ (fun _ _ _ _ _ _ _ h => hK _ _ _ _ _ _ h)
      repeat' (first | with_reducible assumption | with_reducible exact mm_i17 | with_reducible exact mm_i18 | with_reducible exact mm_i19 | with_reducible exact mm_i20 | with_reducible exact mm_i21 | with_reducible exact mm_i22 | ((with_reducible show mm_rv _ _ _ _ _); first | exact True.intro | exact mm_i17 | exact mm_i18 | exact mm_i19 | exact mm_i20 | exact mm_i21 | exact mm_i22 | ((with_reducible show mV _ _); exact hv) | ((with_reducible show mV _ _); exact hvw)) | ((with_reducible show mV _ _); exact hv) | ((with_reducible show mV _ _); exact hvw) | ((with_reducible show mm_bool _ _); first | exact True.intro | exact Or.inl rfl | exact Or.inr rfl | (show (_ : Int) = 0 ∨ _ = 1)) | refine And.intro ?_ ?_ | intro _ | with_reducible exact True.intro | exact rfl | with_reducible exact Or.inl rfl | with_reducible exact Or.inr rfl | exact Nat.le_of_ble_eq_true rfl)
      all_goals (try simp (disch := omega) only [InI, Int.toNat_natCast, Int.tmod_eq_emod_of_nonneg, Int.tdiv_eq_ediv_of_nonneg, true_implies, true_or, or_true, mm_l18, mm_l19, mm_l20, mm_l21, mm_l22] at *)
      all_goals first | omega | exact k37 _ (by assumption) | skip
    clear hq
    refine ⟨Nat.le_of_ble_eq_true rfl, ?_⟩
    refine mm_run_at (stop := [31]) (S := K) kkX5_join 90 ?_ (fun _ _ _ _ _ _ _ h => hK _ _ _ _ _ _ h)
    repeat' (first | with_reducible assumption | with_reducible exact mm_i17 | with_reducible exact mm_i18 | with_reducible exact mm_i19 | with_reducible exact mm_i20 | with_reducible exact mm_i21 | with_reducible exact mm_i22 | ((with_reducible show mm_rv _ _ _ _ _); first | exact True.intro | exact mm_i17 | exact mm_i18 | exact mm_i19 | exact mm_i20 | exact mm_i21 | exact mm_i22) | ((with_reducible show mm_bool _ _); first | exact True.intro | exact Or.inl rfl | exact Or.inr rfl | (show (_ : Int) = 0 ∨ _ = 1)) | refine And.intro ?_ ?_ | intro _ | with_reducible exact True.intro | exact rfl | with_reducible exact Or.inl rfl | with_reducible exact Or.inr rfl | exact Nat.le_of_ble_eq_true rfl)
    all_goals (try simp (disch := omega) only [InI, Int.toNat_natCast, Int.tmod_eq_emod_of_nonneg, Int.tdiv_eq_ediv_of_nonneg, true_implies, true_or, or_true, mm_l18, mm_l19, mm_l20, mm_l21, mm_l22] at *)
    all_goals first | omega | exact q1 _ (by omega) (by omega) | exact k31 _ (by omega) (by omega) (by omega) | skip
  · exact h.elim
theorem me_X5_join {l : Launch} (hl : l.stackTraces = false) : mm_Met l yX5_join cX5_join 5 (some .int) [] 11 208 0 sp_X5_join := mm_mt hl rn_X5_join ⟨plX5, rfl⟩ kkX5_join rfl ⟨Nat.le_of_ble_eq_true rfl, Nat.le_of_ble_eq_true rfl⟩ flkX5 (fun _ h => nomatch h) (⟨mm_pe (me_X5_isNoWalk hl) mwX5_isNoWalk (mm_t7 36 rfl rfl) (Nat.le_of_ble_eq_true rfl) (Nat.le_of_ble_eq_true rfl), mm_pe (me_X5_start hl) mwX5_start (mm_t6 110 rfl rfl) (Nat.le_of_ble_eq_true rfl) (Nat.le_of_ble_eq_true rfl), mm_pe (me_X5_isNoRound hl) mwX5_isNoRound (mm_t7 88 rfl rfl) (Nat.le_of_ble_eq_true rfl) (Nat.le_of_ble_eq_true rfl), mm_pe (me_X5_cannot hl) mwX5_cannot (mm_t6 118 rfl rfl) (Nat.le_of_ble_eq_true rfl) (Nat.le_of_ble_eq_true rfl), mm_pe (me_X5_cornerOf hl) mwX5_cornerOf (mm_t6 185 rfl rfl) (Nat.le_of_ble_eq_true rfl) (Nat.le_of_ble_eq_true rfl), mm_pe (me_X5_rotated hl) mwX5_rotated (mm_t7 104 rfl rfl) (Nat.le_of_ble_eq_true rfl) (Nat.le_of_ble_eq_true rfl), mm_pe (me_X5_spliced hl) mwX5_spliced (mm_t7 96 rfl rfl) (Nat.le_of_ble_eq_true rfl) (Nat.le_of_ble_eq_true rfl), mm_pe (me_X5_act hl) mwX5_act (mm_t6 130 rfl rfl) (Nat.le_of_ble_eq_true rfl) (Nat.le_of_ble_eq_true rfl), trivial⟩) (mm_xe0 _) n9X5

