/-! the model: the cursor's changes of its walk -/
theorem set_wD {V : mm_M} {w p : Nat} {x s : Int} (hd : wD V w) (hN : ∀ i : Nat, i < V w 2 → i ≠ p → V (w + 1) i / 2 ≠ s) (hx : x / 2 = s) : wD (mm_up V (w + 1) p x) w := by
  have e2 : mm_up V (w + 1) p x w = V w := mm_up_o _ (by omega)
  intro i j hi hj e
  rw [e2] at hi hj
  by_cases ei : i = p
  · by_cases ej : j = p
    · omega
    · subst ei
      rw [mm_up_sm, mm_up_ob2 ej, hx] at e
      exact absurd e.symm (hN j hj ej)
  · by_cases ej : j = p
    · subst ej
      rw [mm_up_sm, mm_up_ob2 ei, hx] at e
      exact absurd e (hN i hi ei)
    · rw [mm_up_ob2 ei, mm_up_ob2 ej] at e
      exact hd i j hi hj e
theorem bw_x {V : mm_M} {s a b r : Int} (hs : 0 ≤ s) (h1 : (V 3 s.toNat = a ∧ V 4 s.toNat = b) → r = 2 * s) (h2 : ¬ (V 3 s.toNat = a ∧ V 4 s.toNat = b) → (V 2 5 = 0 ∧ V 3 s.toNat = b ∧ V 4 s.toNat = a) → r = 2 * s + 1) (h3 : ¬ (V 3 s.toNat = a ∧ V 4 s.toNat = b) → ¬ (V 2 5 = 0 ∧ V 3 s.toNat = b ∧ V 4 s.toNat = a) → r = -1) : r = bw V s a b := by
  have g0 : gl V (2 * s) = V 4 s.toNat := by unfold gl; rw [if_pos (by omega), show (2 * s / 2).toNat = s.toNat by omega]
  have g1 : gl V (2 * s + 1) = V 3 s.toNat := by unfold gl; rw [if_neg (by omega), show ((2 * s + 1) / 2).toNat = s.toNat by omega]
  by_cases a1 : V 3 s.toNat = a
  · have e : lv V s a = 2 * s := if_pos a1
    unfold bw
    rw [e, g0]
    by_cases a2 : V 4 s.toNat = b
    · rw [if_pos ⟨by omega, a2⟩]
      exact h1 ⟨a1, a2⟩
    · rw [if_neg (fun h => a2 h.2)]
      by_cases a3 : V 2 5 = 0 ∧ V 3 s.toNat = b ∧ V 4 s.toNat = a
      · exact absurd (by rw [a3.2.2, ← a1]; exact a3.2.1) a2
      · exact h3 (fun h => a2 h.2) a3
  · by_cases a2 : V 2 5 = 0 ∧ V 4 s.toNat = a
    · have e : lv V s a = 2 * s + 1 := by unfold lv; rw [if_neg a1, if_pos a2]
      unfold bw
      rw [e, g1]
      by_cases a3 : V 3 s.toNat = b
      · rw [if_pos ⟨by omega, a3⟩]
        exact h2 (fun h => a1 h.1) ⟨a2.1, a3, a2.2⟩
      · rw [if_neg (fun h => a3 h.2)]
        exact h3 (fun h => a1 h.1) (fun h => a3 h.2.1)
    · have e : lv V s a = -1 := by unfold lv; rw [if_neg a1, if_neg a2]
      unfold bw
      rw [e, if_neg (by omega)]
      exact h3 (fun h => a1 h.1) (fun h => a2 ⟨h.1, h.2.2⟩)
/-- the step that the cursor has told, in the model -/
theorem eto_x {M : mm_M} {w p : Nat} (hw : (vX M 16 1).toNat = 8 + 2 * w) (hk : w < 3) (hp : M 17 12 = p) (h30 : p < 30) : etO (vX M) = M 20 (30 * w + p) := by
  unfold etO
  rw [hw, vX_c3, hp, Int.toNat_natCast, vX_i (by omega) h30]
theorem at_X5_cursorSet_0 : mm_at 0 kdX5_cursorSet = [(0, .aload_n 0, 0), (1, .aload_n 0, 0), (2, .iload_n 1, 0), (3, .invokevirtual 162, 0), (6, .iconst 1, 0), (7, .invokevirtual 146, 0), (10, .ifCond .eq 5, 15), (13, .iconst 0, 0), (14, .ireturn, 0), (15, .aload_n 0, 0), (16, .invokevirtual 240, 0), (19, .ifCond .eq 11, 30), (22, .aload_n 0, 0), (23, .getfield 29, 0), (26, .iconst (-1), 0), (27, .if_icmp .ne 8, 35), (30, .aload_n 0, 0), (31, .invokevirtual 149, 0), (34, .ireturn, 0), (35, .aload_n 0, 0), (36, .aload_n 0, 0), (37, .getfield 25, 0), (40, .aload_n 0, 0), (41, .getfield 29, 0), (44, .invokevirtual 98, 0), (47, .istore_n 2, 0), (48, .aload_n 0, 0), (49, .iload_n 1, 0), (50, .aload_n 0, 0), (51, .iload_n 2, 0), (52, .invokevirtual 187, 0), (55, .aload_n 0, 0), (56, .iload_n 2, 0), (57, .invokevirtual 102, 0), (60, .invokevirtual 248, 0), (63, .istore_n 3, 0), (64, .aload_n 0, 0), (65, .aload_n 0, 0), (66, .getfield 25, 0), (69, .iload_n 1, 0), (70, .invokevirtual 165, 0), (73, .istore 4, 0), (75, .iload_n 3, 0), (76, .iconst (-1), 0), (77, .if_icmp .eq 18, 95), (80, .iload 4, 0), (82, .iconst (-1), 0), (83, .if_icmp .eq 17, 100), (86, .iload 4, 0), (88, .aload_n 0, 0), (89, .getfield 29, 0), (92, .if_icmp .eq 8, 100), (95, .aload_n 0, 0), (96, .invokevirtual 149, 0), (99, .ireturn, 0), (100, .aload_n 0, 0), (101, .getfield 16, 0), (104, .aload_n 0, 0), (105, .getfield 25, 0), (108, .bipush 30, 0), (110, .imul, 0), (111, .aload_n 0, 0), (112, .getfield 29, 0), (115, .iadd, 0), (116, .iload_n 3, 0), (117, .iastore, 0), (118, .aload_n 0, 0), (119, .iload_n 2, 0), (120, .invokevirtual 156, 0), (123, .ireturn, 0)] := rfl
theorem at_X5_cursorSet_15 : mm_at 15 kdX5_cursorSet = [(15, .aload_n 0, 0), (16, .invokevirtual 240, 0), (19, .ifCond .eq 11, 30), (22, .aload_n 0, 0), (23, .getfield 29, 0), (26, .iconst (-1), 0), (27, .if_icmp .ne 8, 35), (30, .aload_n 0, 0), (31, .invokevirtual 149, 0), (34, .ireturn, 0), (35, .aload_n 0, 0), (36, .aload_n 0, 0), (37, .getfield 25, 0), (40, .aload_n 0, 0), (41, .getfield 29, 0), (44, .invokevirtual 98, 0), (47, .istore_n 2, 0), (48, .aload_n 0, 0), (49, .iload_n 1, 0), (50, .aload_n 0, 0), (51, .iload_n 2, 0), (52, .invokevirtual 187, 0), (55, .aload_n 0, 0), (56, .iload_n 2, 0), (57, .invokevirtual 102, 0), (60, .invokevirtual 248, 0), (63, .istore_n 3, 0), (64, .aload_n 0, 0), (65, .aload_n 0, 0), (66, .getfield 25, 0), (69, .iload_n 1, 0), (70, .invokevirtual 165, 0), (73, .istore 4, 0), (75, .iload_n 3, 0), (76, .iconst (-1), 0), (77, .if_icmp .eq 18, 95), (80, .iload 4, 0), (82, .iconst (-1), 0), (83, .if_icmp .eq 17, 100), (86, .iload 4, 0), (88, .aload_n 0, 0), (89, .getfield 29, 0), (92, .if_icmp .eq 8, 100), (95, .aload_n 0, 0), (96, .invokevirtual 149, 0), (99, .ireturn, 0), (100, .aload_n 0, 0), (101, .getfield 16, 0), (104, .aload_n 0, 0), (105, .getfield 25, 0), (108, .bipush 30, 0), (110, .imul, 0), (111, .aload_n 0, 0), (112, .getfield 29, 0), (115, .iadd, 0), (116, .iload_n 3, 0), (117, .iastore, 0), (118, .aload_n 0, 0), (119, .iload_n 2, 0), (120, .invokevirtual 156, 0), (123, .ireturn, 0)] := rfl
theorem at_X5_cursorSet_30 : mm_at 30 kdX5_cursorSet = [(30, .aload_n 0, 0), (31, .invokevirtual 149, 0), (34, .ireturn, 0), (35, .aload_n 0, 0), (36, .aload_n 0, 0), (37, .getfield 25, 0), (40, .aload_n 0, 0), (41, .getfield 29, 0), (44, .invokevirtual 98, 0), (47, .istore_n 2, 0), (48, .aload_n 0, 0), (49, .iload_n 1, 0), (50, .aload_n 0, 0), (51, .iload_n 2, 0), (52, .invokevirtual 187, 0), (55, .aload_n 0, 0), (56, .iload_n 2, 0), (57, .invokevirtual 102, 0), (60, .invokevirtual 248, 0), (63, .istore_n 3, 0), (64, .aload_n 0, 0), (65, .aload_n 0, 0), (66, .getfield 25, 0), (69, .iload_n 1, 0), (70, .invokevirtual 165, 0), (73, .istore 4, 0), (75, .iload_n 3, 0), (76, .iconst (-1), 0), (77, .if_icmp .eq 18, 95), (80, .iload 4, 0), (82, .iconst (-1), 0), (83, .if_icmp .eq 17, 100), (86, .iload 4, 0), (88, .aload_n 0, 0), (89, .getfield 29, 0), (92, .if_icmp .eq 8, 100), (95, .aload_n 0, 0), (96, .invokevirtual 149, 0), (99, .ireturn, 0), (100, .aload_n 0, 0), (101, .getfield 16, 0), (104, .aload_n 0, 0), (105, .getfield 25, 0), (108, .bipush 30, 0), (110, .imul, 0), (111, .aload_n 0, 0), (112, .getfield 29, 0), (115, .iadd, 0), (116, .iload_n 3, 0), (117, .iastore, 0), (118, .aload_n 0, 0), (119, .iload_n 2, 0), (120, .invokevirtual 156, 0), (123, .ireturn, 0)] := rfl
theorem at_X5_cursorSet_35 : mm_at 35 kdX5_cursorSet = [(35, .aload_n 0, 0), (36, .aload_n 0, 0), (37, .getfield 25, 0), (40, .aload_n 0, 0), (41, .getfield 29, 0), (44, .invokevirtual 98, 0), (47, .istore_n 2, 0), (48, .aload_n 0, 0), (49, .iload_n 1, 0), (50, .aload_n 0, 0), (51, .iload_n 2, 0), (52, .invokevirtual 187, 0), (55, .aload_n 0, 0), (56, .iload_n 2, 0), (57, .invokevirtual 102, 0), (60, .invokevirtual 248, 0), (63, .istore_n 3, 0), (64, .aload_n 0, 0), (65, .aload_n 0, 0), (66, .getfield 25, 0), (69, .iload_n 1, 0), (70, .invokevirtual 165, 0), (73, .istore 4, 0), (75, .iload_n 3, 0), (76, .iconst (-1), 0), (77, .if_icmp .eq 18, 95), (80, .iload 4, 0), (82, .iconst (-1), 0), (83, .if_icmp .eq 17, 100), (86, .iload 4, 0), (88, .aload_n 0, 0), (89, .getfield 29, 0), (92, .if_icmp .eq 8, 100), (95, .aload_n 0, 0), (96, .invokevirtual 149, 0), (99, .ireturn, 0), (100, .aload_n 0, 0), (101, .getfield 16, 0), (104, .aload_n 0, 0), (105, .getfield 25, 0), (108, .bipush 30, 0), (110, .imul, 0), (111, .aload_n 0, 0), (112, .getfield 29, 0), (115, .iadd, 0), (116, .iload_n 3, 0), (117, .iastore, 0), (118, .aload_n 0, 0), (119, .iload_n 2, 0), (120, .invokevirtual 156, 0), (123, .ireturn, 0)] := rfl
theorem at_X5_cursorSet_95 : mm_at 95 kdX5_cursorSet = [(95, .aload_n 0, 0), (96, .invokevirtual 149, 0), (99, .ireturn, 0), (100, .aload_n 0, 0), (101, .getfield 16, 0), (104, .aload_n 0, 0), (105, .getfield 25, 0), (108, .bipush 30, 0), (110, .imul, 0), (111, .aload_n 0, 0), (112, .getfield 29, 0), (115, .iadd, 0), (116, .iload_n 3, 0), (117, .iastore, 0), (118, .aload_n 0, 0), (119, .iload_n 2, 0), (120, .invokevirtual 156, 0), (123, .ireturn, 0)] := rfl
theorem at_X5_cursorSet_100 : mm_at 100 kdX5_cursorSet = [(100, .aload_n 0, 0), (101, .getfield 16, 0), (104, .aload_n 0, 0), (105, .getfield 25, 0), (108, .bipush 30, 0), (110, .imul, 0), (111, .aload_n 0, 0), (112, .getfield 29, 0), (115, .iadd, 0), (116, .iload_n 3, 0), (117, .iastore, 0), (118, .aload_n 0, 0), (119, .iload_n 2, 0), (120, .invokevirtual 156, 0), (123, .ireturn, 0)] := rfl
def sp_X5_cursorSet : mm_S := fun av M d Q => match av with
  | [.inr (.inr (.inl o)), .inl s] =>  o = 17 ∧ xA M ∧ InI s ∧ ∀ M' r, xP M M' → C_cursorSet s (vX M) (vX M') (M' 17 0) r → Q (.inl (some (mm_I r))) M' d
  | _ => False
def ct_X5_cursorSet : List (Nat × mm_Ca) := [(162, (0, 2, 14, sp_X5_isNoStreet, 0)), (146, (0, 3, 14, sp_X5_start, 0)), (240, (0, 1, 14, sp_X5_isThere, 0)), (149, (0, 1, 14, sp_X5_cannot, 0)), (98, (0, 3, 14, sp_X5_stepOf, 0)), (187, (0, 2, 14, sp_X5_goesFrom, 0)), (102, (0, 2, 14, sp_X5_comesTo, 0)), (248, (0, 4, 14, sp_X5_between, 0)), (165, (0, 3, 14, sp_X5_placeOf, 0)), (156, (0, 2, 14, sp_X5_act, 0))]
abbrev rr_X5_cursorSet (Q : mm_Q) := mm_run (mm_look flX5) (mm_look ct_X5_cursorSet) mm_x0 (mm_look ([] : List (Nat × Int))) (fun _ => none) 1 0 (fun _ _ => none) Q kdX5_cursorSet
set_option maxRecDepth 20000 in
theorem rn_X5_cursorSet : mm_RN flX5 ct_X5_cursorSet mm_x0 [] 1 0 5 kdX5_cursorSet sp_X5_cursorSet := by
  intro av M d Q h
  unfold sp_X5_cursorSet at h
  split at h
  · rename_i o s
    obtain ⟨rfl, ha, hs, hq⟩ := h
    have ht0 := ha.t
    obtain ⟨K, hK, hK2⟩ : ∃ K : Nat → mm_K, (∀ t ls st M d u, K t ls st M d u → rr_X5_cursorSet Q t ls st M d u) ∧ (∀ t ls st M d u, rr_X5_cursorSet Q t ls st M d u → K t ls st M d u) := ⟨rr_X5_cursorSet Q, fun _ _ _ _ _ _ h => h, fun _ _ _ _ _ _ h => h⟩
    have q1 : ∀ v, v = 1 → ¬ (0 ≤ s ∧ s < M 17 1) → Q (.inl (some (mm_I 0))) (mm_up M 17 0 v) d := fun v hv hn => hq _ _ (xP_s ha) (xq1 (fun h => hn h) hv)
    have k15 : ∀ v, v = 0 → (0 ≤ s ∧ s < M 17 1) → K 15 [some (mm_R 17), some (mm_I s), none, none, none] [] (mm_up M 17 0 v) d 0 := by
      intro v hv0 cs
      have cs0 := cs
      obtain ⟨M1, e0, ha1, hP1, e17, eo⟩ := xS (v := v) ha
      have e00 : M1 17 0 = 0 := by rw [← e0, hv0]; exact x00
      have eV : vX M1 = vX M := by rw [← e0, vX_u0]
      rw [e0]
      rw [← e17 1 (by omega)] at cs
      have ht := ha1.t
      have t1 := ht.1
      have hl := ha1.l
      have h10 := ha1.2
      obtain ⟨PE, ePE⟩ : ∃ PE : Prop, PE ↔ etP (vX M1) s := ⟨_, Iff.rfl⟩
      have q9 : ¬ PE → Q (.inl (some (mm_I (-9)))) (mm_up M1 17 15 (M1 17 15 + 1)) d := fun h => hq _ (-9) (hP1.tr (xA_u (x := M1 17 15 + 1) ha1)) (Or.inr ⟨cs0, by rw [mm_up_ob2 (by omega)]; exact e00, vX M1, by rw [← eV]; exact Or.inl ⟨fun h2 => h (ePE.mpr h2), rfl, rfl⟩, SE.eq cX_9⟩)
      have hne1 : PE → (M1 17 10 ≠ -1 ∧ M1 17 13 = 0) ∧ 0 ≤ M1 17 12 := fun h => by
        have h2 := (ePE.mp h).1
        exact ⟨⟨(vX_c0 ha1).1.mp h2.1, h2.2.1⟩, h2.2.2⟩
      have k35 : (M1 17 10 ≠ -1 ∧ M1 17 13 = 0) → M1 17 12 ≠ -1 → K 35 [some (mm_R 17), some (mm_I s), none, none, none] [] M1 d 0 := by
        intro hc hc2
        have hp := ha1.p hc.1 hc.2
        obtain ⟨w, hw⟩ : ∃ w, w = (M1 17 10).toNat := ⟨_, rfl⟩
        obtain ⟨p, hpp⟩ : ∃ p, p = (M1 17 12).toNat := ⟨_, rfl⟩
        have hk : w < 3 := by omega
        have mv := ha1.v hk
        have hD := ha1.d hk
        have v1 := mv.1
        rw [← hw] at hp
        have w1 := mv.2.2 p (by omega)
        have i12 : 0 ≤ M1 17 12 ∧ M1 17 12 < 30 := by omega
        have en := vX_n (M := M1) (show w < 4 by omega)
        obtain ⟨st, est⟩ : ∃ st, st = M1 20 (30 * w + p) := ⟨_, rfl⟩
        rw [← est] at w1
        have ew := ((vX_c0 ha1).2 hc.1).1
        rw [← hw] at ew
        have eto : etO (vX M1) = st := by rw [est]; exact eto_x ew hk (by omega) (by omega)
        have k100 : PE → ∀ x3 x4, x3 = etS (vX M1) s → (0 ≤ x3 ∧ x3 < 2 * M1 17 1 ∧ x3 / 2 = s) → (∀ i : Nat, i < M1 21 w → i ≠ p → M1 20 (30 * w + i) / 2 ≠ s) → K 100 [some (mm_R 17), some (mm_I s), some (mm_I st), some (mm_I x3), some (mm_I x4)] [] M1 d 0 := by
          intro hPE x3 x4 hx3 h3 hN
          obtain ⟨M2, e2⟩ : ∃ M2, M2 = mm_up M1 20 (30 * w + p) x3 := ⟨_, rfl⟩
          have ev : vX M2 = mm_up (vX M1) (8 + 2 * w + 1) p x3 := by rw [e2, vX_u20 (by omega) (by omega)]
          have h17 : M2 17 = M1 17 := by rw [e2, mm_up_o _ (by omega)]
          have h21 : M2 21 = M1 21 := by rw [e2, mm_up_o _ (by omega)]
          have h22 : M2 22 = M1 22 := by rw [e2, mm_up_o _ (by omega)]
          have hD2 : wD (vX M2) (8 + 2 * w) := by
            rw [ev]
            exact set_wD hD (fun i hi hne => by rw [en] at hi; rw [vX_i (by omega) (by omega)]; exact hN i hi hne) h3.2.2
          have mv2 : mV M2 w := by
            refine ⟨by rw [h21]; exact mv.1, by rw [h22]; exact mv.2.1, fun i hi => ?_⟩
            rw [h21] at hi
            rw [h17, e2]
            by_cases e : i = p
            · rw [e, mm_up_sm]; omega
            · rw [mm_up_ob2 (by omega)]
              exact mv.2.2 i hi
          have hP2 := (xP_q ha1 hk (by rw [e2]; exact fX.rf.up (by omega)) h17 (by rw [ev]; exact fr.rf.up (by simp)) mv2 hD2).1 (by rw [h21]; exact Int.le_refl _)
          have q0 : Q (.inl (some (mm_I st))) (mm_up M2 17 14 (M2 17 14 + 1)) d := hq _ _ (xP_ac (hP1.tr hP2)) (Or.inr ⟨cs0, by rw [mm_up_ob2 (by omega), h17]; exact e00, vX M2, by
            rw [← eV]
            exact Or.inr ⟨ePE.mp hPE, eto.symm, by rw [ev, hx3, ew, vX_c3, hpp]⟩, SE.eq (cX_n (by omega))⟩)
          have k118 : K 118 [some (mm_R 17), some (mm_I s), some (mm_I st), some (mm_I x3), some (mm_I x4)] [] M2 d 0 := by
            clear hq q1 q9 hne1 ePE hx3 ev eto
            refine hK2 _ _ _ _ _ _ ?_
            refine mm_run_at (stop := []) (S := K) kkX5_cursorSet 90 ?_ (fun _ _ _ _ _ _ _ h => hK _ _ _ _ _ _ h)
            repeat' (first | with_reducible assumption | with_reducible exact mm_i17 | with_reducible exact mm_i18 | with_reducible exact mm_i19 | with_reducible exact mm_i20 | with_reducible exact mm_i21 | with_reducible exact mm_i22 | ((with_reducible show mm_rv _ _ _ _ _); first | exact True.intro | exact mm_i17 | exact mm_i18 | exact mm_i19 | exact mm_i20 | exact mm_i21 | exact mm_i22) | ((with_reducible show mm_bool _ _); first | exact True.intro | exact Or.inl rfl | exact Or.inr rfl | (show (_ : Int) = 0 ∨ _ = 1)) | refine And.intro ?_ ?_ | intro _ | with_reducible exact True.intro | exact rfl | with_reducible exact Or.inl rfl | with_reducible exact Or.inr rfl | exact Nat.le_of_ble_eq_true rfl)
            all_goals (try simp (disch := omega) only [InI, Int.toNat_natCast, Int.tmod_eq_emod_of_nonneg, Int.tdiv_eq_ediv_of_nonneg, true_implies, true_or, or_true, mm_l18, mm_l19, mm_l20, mm_l21, mm_l22] at *)
            all_goals first | omega | exact q0 | skip
          rw [e2, show 30 * w + p = (M1 17 10 * 30 + M1 17 12).toNat by omega] at k118
          clear hq q1 q9 hne1 ePE hx3 ev eto
          refine hK2 _ _ _ _ _ _ ?_
          refine mm_run_at (stop := [118]) (S := K) kkX5_cursorSet 90 ?_ (fun _ _ _ _ _ _ _ h => hK _ _ _ _ _ _ h)
          repeat' (first | with_reducible assumption | with_reducible exact mm_i17 | with_reducible exact mm_i18 | with_reducible exact mm_i19 | with_reducible exact mm_i20 | with_reducible exact mm_i21 | with_reducible exact mm_i22 | ((with_reducible show mm_rv _ _ _ _ _); first | exact True.intro | exact mm_i17 | exact mm_i18 | exact mm_i19 | exact mm_i20 | exact mm_i21 | exact mm_i22) | ((with_reducible show mm_bool _ _); first | exact True.intro | exact Or.inl rfl | exact Or.inr rfl | (show (_ : Int) = 0 ∨ _ = 1)) | refine And.intro ?_ ?_ | intro _ | with_reducible exact True.intro | exact rfl | with_reducible exact Or.inl rfl | with_reducible exact Or.inr rfl | exact Nat.le_of_ble_eq_true rfl)
          all_goals (try simp (disch := omega) only [InI, Int.toNat_natCast, Int.tmod_eq_emod_of_nonneg, Int.tdiv_eq_ediv_of_nonneg, true_implies, true_or, or_true, mm_l18, mm_l19, mm_l20, mm_l21, mm_l22] at *)
          all_goals first | omega | exact k118 | skip
        have k75 : ∀ x3 x4 ga gb, (ga = srX M1 st) → (gb = glX M1 st) → ((-1 ≤ x3 ∧ x3 < 2 * M1 17 1 ∧ (0 ≤ x3 → x3 / 2 = s ∧ srX M1 x3 = ga ∧ glX M1 x3 = gb)) ∧ ((M1 18 s.toNat = ga ∧ M1 19 s.toNat = gb) → x3 = 2 * s) ∧ (¬ (M1 18 s.toNat = ga ∧ M1 19 s.toNat = gb) → (M1 17 4 = 0 ∧ M1 18 s.toNat = gb ∧ M1 19 s.toNat = ga) → x3 = 2 * s + 1) ∧ (¬ (M1 18 s.toNat = ga ∧ M1 19 s.toNat = gb) → ¬ (M1 17 4 = 0 ∧ M1 18 s.toNat = gb ∧ M1 19 s.toNat = ga) → x3 = -1)) → ((x4 = -1 ∧ ∀ i : Nat, i < M1 21 w → M1 20 (30 * w + i) / 2 ≠ s) ∨ (0 ≤ x4 ∧ x4 < M1 21 w ∧ M1 20 (30 * w + x4.toNat) / 2 = s ∧ ∀ i : Nat, i < x4 → M1 20 (30 * w + i) / 2 ≠ s)) → K 75 [some (mm_R 17), some (mm_I s), some (mm_I st), some (mm_I x3), some (mm_I x4)] [] M1 d 0 := by
          intro x3 x4 ga gb hga hgb ⟨h3, f1, f2, f3⟩ h4
          have hx3 : x3 = etS (vX M1) s := by
            unfold etS
            rw [eto, ← sr_v, ← gl_v, ← hga, ← hgb]
            exact bw_x (V := vX M1) cs.1 f1 f2 f3
          clear f1 f2 f3 hga hgb
          have hes : (M1 17 10 ≠ -1 ∧ M1 17 13 = 0) := hc
          have hPEi : PE ↔ (x3 ≠ -1 ∧ ∀ i : Nat, i < M1 21 w → M1 20 (30 * w + i) / 2 = s → (i : Int) = M1 17 12) := by
            rw [ePE]
            unfold etP
            rw [← hx3, ew, en]
            constructor
            · intro h
              exact ⟨h.2.1, fun i hi he => h.2.2 i hi (by rw [vX_i (by omega) (by omega)]; exact he)⟩
            · intro h
              exact ⟨⟨(vX_c0 ha1).1.mpr hc.1, hc.2, show 0 ≤ M1 17 12 by omega⟩, h.1, fun i hi he => h.2 i hi (by rw [vX_i (by omega) (by omega)] at he; exact he)⟩
          have i3 : -1 ≤ x3 ∧ x3 < 60 := by omega
          have i4 : -1 ≤ x4 ∧ x4 < 30 := by omega
          have kA : x3 ≠ -1 → x4 = -1 → K 100 [some (mm_R 17), some (mm_I s), some (mm_I st), some (mm_I x3), some (mm_I x4)] [] M1 d 0 := fun h h2 => k100 (hPEi.mpr ⟨h, fun i hi he => absurd he ((h4.resolve_right (by omega)).2 i hi)⟩) x3 x4 hx3 ⟨by omega, h3.2.1, (h3.2.2 (by omega)).1⟩ (fun i hi _ => (h4.resolve_right (by omega)).2 i hi)
          have huq : x4 ≠ -1 → ∀ i : Nat, i < M1 21 w → M1 20 (30 * w + i) / 2 = s → (i : Int) = x4 := fun h2 i hi he => by
            have h6 := h4.resolve_left (by omega)
            have := hD i x4.toNat (by rw [en]; exact hi) (by rw [en]; omega) (by rw [vX_i (by omega) (by omega), vX_i (by omega) (by omega), he, h6.2.2.1])
            omega
          have q9a : x3 = -1 → Q (.inl (some (mm_I (-9)))) (mm_up M1 17 15 (M1 17 15 + 1)) d := fun h => q9 (fun h2 => (hPEi.mp h2).1 h)
          have q9b : x4 ≠ -1 → x4 ≠ M1 17 12 → Q (.inl (some (mm_I (-9)))) (mm_up M1 17 15 (M1 17 15 + 1)) d := fun h h5 => q9 (fun h2 => by
            have h6 := h4.resolve_left (by omega)
            have := (hPEi.mp h2).2 x4.toNat (by omega) h6.2.2.1
            omega)
          have kB : x3 ≠ -1 → x4 ≠ -1 → x4 = M1 17 12 → K 100 [some (mm_R 17), some (mm_I s), some (mm_I st), some (mm_I x3), some (mm_I x4)] [] M1 d 0 := fun h h2 h5 => k100 (hPEi.mpr ⟨h, fun i hi he => by rw [huq h2 i hi he]; exact h5⟩) x3 x4 hx3 ⟨by omega, h3.2.1, (h3.2.2 (by omega)).1⟩ (fun i hi hne e => by
            have h6 := h4.resolve_left (by omega)
            refine hne (hD i p (by rw [en]; exact hi) (by rw [en]; omega) ?_)
            rw [vX_i (by omega) (by omega), vX_i (by omega) (by omega), e, show p = x4.toNat by omega]
            exact h6.2.2.1.symm)
          clear h3 h4 k100 huq hPEi hx3 hq q1 q9 hne1 ePE eto
          refine hK2 _ _ _ _ _ _ ?_
          refine mm_run_at (stop := [100]) (S := K) kkX5_cursorSet 90 ?_ (fun _ _ _ _ _ _ _ h => hK _ _ _ _ _ _ h)
          repeat' (first | with_reducible assumption | with_reducible exact mm_i17 | with_reducible exact mm_i18 | with_reducible exact mm_i19 | with_reducible exact mm_i20 | with_reducible exact mm_i21 | with_reducible exact mm_i22 | ((with_reducible show mm_rv _ _ _ _ _); first | exact True.intro | exact mm_i17 | exact mm_i18 | exact mm_i19 | exact mm_i20 | exact mm_i21 | exact mm_i22) | ((with_reducible show mm_bool _ _); first | exact True.intro | exact Or.inl rfl | exact Or.inr rfl | (show (_ : Int) = 0 ∨ _ = 1)) | refine And.intro ?_ ?_ | intro _ | with_reducible exact True.intro | exact rfl | with_reducible exact Or.inl rfl | with_reducible exact Or.inr rfl | exact Nat.le_of_ble_eq_true rfl)
          all_goals (try simp (disch := omega) only [InI, Int.toNat_natCast, Int.tmod_eq_emod_of_nonneg, Int.tdiv_eq_ediv_of_nonneg, true_implies, true_or, or_true, mm_l18, mm_l19, mm_l20, mm_l21, mm_l22] at *)
          all_goals first | omega | exact q9a (by omega) | exact q9b (by omega) (by omega) | exact kA (by omega) (by omega) | exact kB (by omega) (by omega) (by omega) | skip
        clear k100 hq q1 q9 hne1 ePE eto ew
        rw [hw] at k75 mv v1
        rw [est, hw, hpp] at k75 w1
        refine hK2 _ _ _ _ _ _ ?_
        refine mm_run_at (stop := [75]) (S := K) kkX5_cursorSet 90 ?_ (fun _ _ _ _ _ _ _ h => hK _ _ _ _ _ _ h)
        repeat' (first | with_reducible assumption | with_reducible exact mm_i17 | with_reducible exact mm_i18 | with_reducible exact mm_i19 | with_reducible exact mm_i20 | with_reducible exact mm_i21 | with_reducible exact mm_i22 | ((with_reducible show mm_rv _ _ _ _ _); first | exact True.intro | exact mm_i17 | exact mm_i18 | exact mm_i19 | exact mm_i20 | exact mm_i21 | exact mm_i22) | ((with_reducible show mm_bool _ _); first | exact True.intro | exact Or.inl rfl | exact Or.inr rfl | (show (_ : Int) = 0 ∨ _ = 1)) | refine And.intro ?_ ?_ | intro _ | with_reducible exact True.intro | exact rfl | with_reducible exact Or.inl rfl | with_reducible exact Or.inr rfl | exact Nat.le_of_ble_eq_true rfl)
        all_goals (try simp (disch := omega) only [InI, Int.toNat_natCast, Int.tmod_eq_emod_of_nonneg, Int.tdiv_eq_ediv_of_nonneg, true_implies, true_or, or_true, mm_l18, mm_l19, mm_l20, mm_l21, mm_l22] at *)
        all_goals first | omega | exact k75 _ _ _ _ (And.left (by assumption)) (And.left (by assumption)) (by assumption) (by assumption) | skip
      have k19 : ∀ r, ((M1 17 10 ≠ -1 ∧ M1 17 13 = 0) → r = 1) ∧ (¬ (M1 17 10 ≠ -1 ∧ M1 17 13 = 0) → r = 0) → K 19 [some (mm_R 17), some (mm_I s), none, none, none] [mm_I r] M1 d 0 := by
        intro r hr
        by_cases hc : M1 17 10 ≠ -1 ∧ M1 17 13 = 0
        · rw [hr.1 hc]
          have k355 := k35 hc
          have q99 : M1 17 12 = -1 → Q (.inl (some (mm_I (-9)))) (mm_up M1 17 15 (M1 17 15 + 1)) d := fun h => q9 (fun h2 => by have := (hne1 h2).2; omega)
          have hp := ha1.p hc.1 hc.2
          have v1 := (ha1.v (k := (M1 17 10).toNat) (by omega)).1
          clear hr k35 hq q1 q9 hne1 ePE
          refine hK2 _ _ _ _ _ _ ?_
          refine mm_run_at (stop := [35]) (S := K) kkX5_cursorSet 90 ?_ (fun _ _ _ _ _ _ _ h => hK _ _ _ _ _ _ h)
          repeat' (first | with_reducible assumption | with_reducible exact mm_i17 | with_reducible exact mm_i18 | with_reducible exact mm_i19 | with_reducible exact mm_i20 | with_reducible exact mm_i21 | with_reducible exact mm_i22 | ((with_reducible show mm_rv _ _ _ _ _); first | exact True.intro | exact mm_i17 | exact mm_i18 | exact mm_i19 | exact mm_i20 | exact mm_i21 | exact mm_i22) | ((with_reducible show mm_bool _ _); first | exact True.intro | exact Or.inl rfl | exact Or.inr rfl | (show (_ : Int) = 0 ∨ _ = 1)) | refine And.intro ?_ ?_ | intro _ | with_reducible exact True.intro | exact rfl | with_reducible exact Or.inl rfl | with_reducible exact Or.inr rfl | exact Nat.le_of_ble_eq_true rfl)
          all_goals (try simp (disch := omega) only [InI, Int.toNat_natCast, Int.tmod_eq_emod_of_nonneg, Int.tdiv_eq_ediv_of_nonneg, true_implies, true_or, or_true, mm_l18, mm_l19, mm_l20, mm_l21, mm_l22] at *)
          all_goals first | omega | exact q99 (by omega) | exact k355 (by omega) | skip
        · rw [hr.2 hc]
          have q99 := q9 (fun h2 => hc (hne1 h2).1)
          clear hr k35 hq q1 q9 hne1 ePE
          refine hK2 _ _ _ _ _ _ ?_
          refine mm_run_at (stop := [22]) (S := K) kkX5_cursorSet 90 ?_ (fun _ _ _ _ _ _ _ h => hK _ _ _ _ _ _ h)
          repeat' (first | with_reducible assumption | with_reducible exact mm_i17 | with_reducible exact mm_i18 | with_reducible exact mm_i19 | with_reducible exact mm_i20 | with_reducible exact mm_i21 | with_reducible exact mm_i22 | ((with_reducible show mm_rv _ _ _ _ _); first | exact True.intro | exact mm_i17 | exact mm_i18 | exact mm_i19 | exact mm_i20 | exact mm_i21 | exact mm_i22) | ((with_reducible show mm_bool _ _); first | exact True.intro | exact Or.inl rfl | exact Or.inr rfl | (show (_ : Int) = 0 ∨ _ = 1)) | refine And.intro ?_ ?_ | intro _ | with_reducible exact True.intro | exact rfl | with_reducible exact Or.inl rfl | with_reducible exact Or.inr rfl | exact Nat.le_of_ble_eq_true rfl)
          all_goals (try simp (disch := omega) only [InI, Int.toNat_natCast, Int.tmod_eq_emod_of_nonneg, Int.tdiv_eq_ediv_of_nonneg, true_implies, true_or, or_true, mm_l18, mm_l19, mm_l20, mm_l21, mm_l22] at *)
          all_goals first | omega | exact q99 | skip
      clear k35 hq q1 q9 hne1 ePE
      have i10 : InI (M1 17 10) := ⟨by omega, by omega⟩
      refine hK2 _ _ _ _ _ _ ?_
      refine mm_run_at (stop := [19]) (S := K) kkX5_cursorSet 90 ?_ (fun _ _ _ _ _ _ _ h => hK _ _ _ _ _ _ h)
      repeat' (first | with_reducible assumption | with_reducible exact mm_i17 | with_reducible exact mm_i18 | with_reducible exact mm_i19 | with_reducible exact mm_i20 | with_reducible exact mm_i21 | with_reducible exact mm_i22 | ((with_reducible show mm_rv _ _ _ _ _); first | exact True.intro | exact mm_i17 | exact mm_i18 | exact mm_i19 | exact mm_i20 | exact mm_i21 | exact mm_i22) | ((with_reducible show mm_bool _ _); first | exact True.intro | exact Or.inl rfl | exact Or.inr rfl | (show (_ : Int) = 0 ∨ _ = 1)) | refine And.intro ?_ ?_ | intro _ | with_reducible exact True.intro | exact rfl | with_reducible exact Or.inl rfl | with_reducible exact Or.inr rfl | exact Nat.le_of_ble_eq_true rfl)
      exact k19 _ (by assumption)
    clear hq
    refine ⟨Nat.le_of_ble_eq_true rfl, ?_⟩
    refine mm_run_at (stop := [15]) (S := K) kkX5_cursorSet 90 ?_ (fun _ _ _ _ _ _ _ h => hK _ _ _ _ _ _ h)
    repeat' (first | with_reducible assumption | with_reducible exact mm_i17 | with_reducible exact mm_i18 | with_reducible exact mm_i19 | with_reducible exact mm_i20 | with_reducible exact mm_i21 | with_reducible exact mm_i22 | ((with_reducible show mm_rv _ _ _ _ _); first | exact True.intro | exact mm_i17 | exact mm_i18 | exact mm_i19 | exact mm_i20 | exact mm_i21 | exact mm_i22) | ((with_reducible show mm_bool _ _); first | exact True.intro | exact Or.inl rfl | exact Or.inr rfl | (show (_ : Int) = 0 ∨ _ = 1)) | refine And.intro ?_ ?_ | intro _ | with_reducible exact True.intro | exact rfl | with_reducible exact Or.inl rfl | with_reducible exact Or.inr rfl | exact Nat.le_of_ble_eq_true rfl)
    all_goals (try simp (disch := omega) only [InI, Int.toNat_natCast, Int.tmod_eq_emod_of_nonneg, Int.tdiv_eq_ediv_of_nonneg, true_implies, true_or, or_true, mm_l18, mm_l19, mm_l20, mm_l21, mm_l22] at *)
    all_goals first | omega | exact q1 _ (by omega) (by omega) | exact k15 _ (by omega) (by omega) | skip
  · exact h.elim
theorem me_X5_cursorSet {l : Launch} (hl : l.stackTraces = false) : mm_Met l yX5_cursorSet cX5_cursorSet 5 (some .int) [] 8 145 0 sp_X5_cursorSet := mm_mt hl rn_X5_cursorSet ⟨plX5, rfl⟩ kkX5_cursorSet rfl ⟨Nat.le_of_ble_eq_true rfl, Nat.le_of_ble_eq_true rfl⟩ flkX5 (fun _ h => nomatch h) (⟨mm_pe (me_X5_isNoStreet hl) mwX5_isNoStreet (mm_t6 150 rfl rfl) (Nat.le_of_ble_eq_true rfl) (Nat.le_of_ble_eq_true rfl), mm_pe (me_X5_start hl) mwX5_start (mm_t6 110 rfl rfl) (Nat.le_of_ble_eq_true rfl) (Nat.le_of_ble_eq_true rfl), mm_pe (me_X5_isThere hl) mwX5_isThere (mm_t7 219 rfl rfl) (Nat.le_of_ble_eq_true rfl) (Nat.le_of_ble_eq_true rfl), mm_pe (me_X5_cannot hl) mwX5_cannot (mm_t6 118 rfl rfl) (Nat.le_of_ble_eq_true rfl) (Nat.le_of_ble_eq_true rfl), mm_pe (me_X5_stepOf hl) mwX5_stepOf (mm_t6 158 rfl rfl) (Nat.le_of_ble_eq_true rfl) (Nat.le_of_ble_eq_true rfl), mm_pe (me_X5_goesFrom hl) mwX5_goesFrom (mm_t7 56 rfl rfl) (Nat.le_of_ble_eq_true rfl) (Nat.le_of_ble_eq_true rfl), mm_pe (me_X5_comesTo hl) mwX5_comesTo (mm_t6 189 rfl rfl) (Nat.le_of_ble_eq_true rfl) (Nat.le_of_ble_eq_true rfl), mm_pe (me_X5_between hl) mwX5_between (mm_t7 227 rfl rfl) (Nat.le_of_ble_eq_true rfl) (Nat.le_of_ble_eq_true rfl), mm_pe (me_X5_placeOf hl) mwX5_placeOf (mm_t6 154 rfl rfl) (Nat.le_of_ble_eq_true rfl) (Nat.le_of_ble_eq_true rfl), mm_pe (me_X5_act hl) mwX5_act (mm_t6 130 rfl rfl) (Nat.le_of_ble_eq_true rfl) (Nat.le_of_ble_eq_true rfl), trivial⟩) (mm_xe0 _) n9X5
theorem at_X5_cursorAdd_0 : mm_at 0 kdX5_cursorAdd = [(0, .aload_n 0, 0), (1, .aload_n 0, 0), (2, .iload_n 1, 0), (3, .invokevirtual 162, 0), (6, .iconst 1, 0), (7, .invokevirtual 146, 0), (10, .ifCond .eq 5, 15), (13, .iconst 0, 0), (14, .ireturn, 0), (15, .aload_n 0, 0), (16, .invokevirtual 240, 0), (19, .ifCond .eq 25, 44), (22, .aload_n 0, 0), (23, .aload_n 0, 0), (24, .getfield 25, 0), (27, .iload_n 1, 0), (28, .invokevirtual 165, 0), (31, .iconst (-1), 0), (32, .if_icmp .ne 12, 44), (35, .aload_n 0, 0), (36, .iload_n 1, 0), (37, .invokevirtual 251, 0), (40, .iconst (-1), 0), (41, .if_icmp .ne 8, 49), (44, .aload_n 0, 0), (45, .invokevirtual 149, 0), (48, .ireturn, 0), (49, .aload_n 0, 0), (50, .iload_n 1, 0), (51, .invokevirtual 251, 0), (54, .istore_n 2, 0), (55, .aload_n 0, 0), (56, .getfield 237, 0), (59, .ifCond .ne 17, 76), (62, .aload_n 0, 0), (63, .getfield 22, 0), (66, .aload_n 0, 0), (67, .getfield 25, 0), (70, .aload_n 0, 0), (71, .iload_n 2, 0), (72, .invokevirtual 187, 0), (75, .iastore, 0), (76, .aload_n 0, 0), (77, .aload_n 0, 0), (78, .getfield 25, 0), (81, .aload_n 0, 0), (82, .getfield 237, 0), (85, .iload_n 2, 0), (86, .invokevirtual 120, 0), (89, .aload_n 0, 0), (90, .dup, 0), (91, .getfield 237, 0), (94, .iconst 1, 0), (95, .iadd, 0), (96, .putfield 237, 0), (99, .aload_n 0, 0), (100, .iconst (-1), 0), (101, .putfield 29, 0), (104, .aload_n 0, 0), (105, .aload_n 0, 0), (106, .getfield 237, 0), (109, .invokevirtual 156, 0), (112, .ireturn, 0)] := rfl
theorem at_X5_cursorAdd_15 : mm_at 15 kdX5_cursorAdd = [(15, .aload_n 0, 0), (16, .invokevirtual 240, 0), (19, .ifCond .eq 25, 44), (22, .aload_n 0, 0), (23, .aload_n 0, 0), (24, .getfield 25, 0), (27, .iload_n 1, 0), (28, .invokevirtual 165, 0), (31, .iconst (-1), 0), (32, .if_icmp .ne 12, 44), (35, .aload_n 0, 0), (36, .iload_n 1, 0), (37, .invokevirtual 251, 0), (40, .iconst (-1), 0), (41, .if_icmp .ne 8, 49), (44, .aload_n 0, 0), (45, .invokevirtual 149, 0), (48, .ireturn, 0), (49, .aload_n 0, 0), (50, .iload_n 1, 0), (51, .invokevirtual 251, 0), (54, .istore_n 2, 0), (55, .aload_n 0, 0), (56, .getfield 237, 0), (59, .ifCond .ne 17, 76), (62, .aload_n 0, 0), (63, .getfield 22, 0), (66, .aload_n 0, 0), (67, .getfield 25, 0), (70, .aload_n 0, 0), (71, .iload_n 2, 0), (72, .invokevirtual 187, 0), (75, .iastore, 0), (76, .aload_n 0, 0), (77, .aload_n 0, 0), (78, .getfield 25, 0), (81, .aload_n 0, 0), (82, .getfield 237, 0), (85, .iload_n 2, 0), (86, .invokevirtual 120, 0), (89, .aload_n 0, 0), (90, .dup, 0), (91, .getfield 237, 0), (94, .iconst 1, 0), (95, .iadd, 0), (96, .putfield 237, 0), (99, .aload_n 0, 0), (100, .iconst (-1), 0), (101, .putfield 29, 0), (104, .aload_n 0, 0), (105, .aload_n 0, 0), (106, .getfield 237, 0), (109, .invokevirtual 156, 0), (112, .ireturn, 0)] := rfl
theorem at_X5_cursorAdd_44 : mm_at 44 kdX5_cursorAdd = [(44, .aload_n 0, 0), (45, .invokevirtual 149, 0), (48, .ireturn, 0), (49, .aload_n 0, 0), (50, .iload_n 1, 0), (51, .invokevirtual 251, 0), (54, .istore_n 2, 0), (55, .aload_n 0, 0), (56, .getfield 237, 0), (59, .ifCond .ne 17, 76), (62, .aload_n 0, 0), (63, .getfield 22, 0), (66, .aload_n 0, 0), (67, .getfield 25, 0), (70, .aload_n 0, 0), (71, .iload_n 2, 0), (72, .invokevirtual 187, 0), (75, .iastore, 0), (76, .aload_n 0, 0), (77, .aload_n 0, 0), (78, .getfield 25, 0), (81, .aload_n 0, 0), (82, .getfield 237, 0), (85, .iload_n 2, 0), (86, .invokevirtual 120, 0), (89, .aload_n 0, 0), (90, .dup, 0), (91, .getfield 237, 0), (94, .iconst 1, 0), (95, .iadd, 0), (96, .putfield 237, 0), (99, .aload_n 0, 0), (100, .iconst (-1), 0), (101, .putfield 29, 0), (104, .aload_n 0, 0), (105, .aload_n 0, 0), (106, .getfield 237, 0), (109, .invokevirtual 156, 0), (112, .ireturn, 0)] := rfl
theorem at_X5_cursorAdd_49 : mm_at 49 kdX5_cursorAdd = [(49, .aload_n 0, 0), (50, .iload_n 1, 0), (51, .invokevirtual 251, 0), (54, .istore_n 2, 0), (55, .aload_n 0, 0), (56, .getfield 237, 0), (59, .ifCond .ne 17, 76), (62, .aload_n 0, 0), (63, .getfield 22, 0), (66, .aload_n 0, 0), (67, .getfield 25, 0), (70, .aload_n 0, 0), (71, .iload_n 2, 0), (72, .invokevirtual 187, 0), (75, .iastore, 0), (76, .aload_n 0, 0), (77, .aload_n 0, 0), (78, .getfield 25, 0), (81, .aload_n 0, 0), (82, .getfield 237, 0), (85, .iload_n 2, 0), (86, .invokevirtual 120, 0), (89, .aload_n 0, 0), (90, .dup, 0), (91, .getfield 237, 0), (94, .iconst 1, 0), (95, .iadd, 0), (96, .putfield 237, 0), (99, .aload_n 0, 0), (100, .iconst (-1), 0), (101, .putfield 29, 0), (104, .aload_n 0, 0), (105, .aload_n 0, 0), (106, .getfield 237, 0), (109, .invokevirtual 156, 0), (112, .ireturn, 0)] := rfl
theorem at_X5_cursorAdd_76 : mm_at 76 kdX5_cursorAdd = [(76, .aload_n 0, 0), (77, .aload_n 0, 0), (78, .getfield 25, 0), (81, .aload_n 0, 0), (82, .getfield 237, 0), (85, .iload_n 2, 0), (86, .invokevirtual 120, 0), (89, .aload_n 0, 0), (90, .dup, 0), (91, .getfield 237, 0), (94, .iconst 1, 0), (95, .iadd, 0), (96, .putfield 237, 0), (99, .aload_n 0, 0), (100, .iconst (-1), 0), (101, .putfield 29, 0), (104, .aload_n 0, 0), (105, .aload_n 0, 0), (106, .getfield 237, 0), (109, .invokevirtual 156, 0), (112, .ireturn, 0)] := rfl
def sp_X5_cursorAdd : mm_S := fun av M d Q => match av with
  | [.inr (.inr (.inl o)), .inl s] =>  o = 17 ∧ xA M ∧ InI s ∧ ∀ M' r, xP M M' → C_cursorAdd s (vX M) (vX M') (M' 17 0) r → Q (.inl (some (mm_I r))) M' d
  | _ => False
def ct_X5_cursorAdd : List (Nat × mm_Ca) := [(162, (0, 2, 14, sp_X5_isNoStreet, 0)), (146, (0, 3, 14, sp_X5_start, 0)), (240, (0, 1, 14, sp_X5_isThere, 0)), (165, (0, 3, 14, sp_X5_placeOf, 0)), (251, (0, 2, 14, sp_X5_fittingHere, 0)), (149, (0, 1, 14, sp_X5_cannot, 0)), (187, (0, 2, 14, sp_X5_goesFrom, 0)), (120, (0, 4, 14, sp_X5_put, 0)), (156, (0, 2, 14, sp_X5_act, 0))]
abbrev rr_X5_cursorAdd (Q : mm_Q) := mm_run (mm_look flX5) (mm_look ct_X5_cursorAdd) mm_x0 (mm_look ([] : List (Nat × Int))) (fun _ => none) 1 0 (fun _ _ => none) Q kdX5_cursorAdd
set_option maxRecDepth 20000 in
theorem rn_X5_cursorAdd : mm_RN flX5 ct_X5_cursorAdd mm_x0 [] 1 0 3 kdX5_cursorAdd sp_X5_cursorAdd := by
  intro av M d Q h
  unfold sp_X5_cursorAdd at h
  split at h
  · rename_i o s
    obtain ⟨rfl, ha, hs, hq⟩ := h
    have ht0 := ha.t
    obtain ⟨K, hK, hK2⟩ : ∃ K : Nat → mm_K, (∀ t ls st M d u, K t ls st M d u → rr_X5_cursorAdd Q t ls st M d u) ∧ (∀ t ls st M d u, rr_X5_cursorAdd Q t ls st M d u → K t ls st M d u) := ⟨rr_X5_cursorAdd Q, fun _ _ _ _ _ _ h => h, fun _ _ _ _ _ _ h => h⟩
    have q1 : ∀ v, v = 1 → ¬ (0 ≤ s ∧ s < M 17 1) → Q (.inl (some (mm_I 0))) (mm_up M 17 0 v) d := fun v hv hn => hq _ _ (xP_s ha) (xq1 (fun h => hn h) hv)
    have k15 : ∀ v, v = 0 → (0 ≤ s ∧ s < M 17 1) → K 15 [some (mm_R 17), some (mm_I s), none] [] (mm_up M 17 0 v) d 0 := by
      intro v hv0 cs
      have cs0 := cs
      obtain ⟨M1, e0, ha1, hP1, e17, eo⟩ := xS (v := v) ha
      have e00 : M1 17 0 = 0 := by rw [← e0, hv0]; exact x00
      have eV : vX M1 = vX M := by rw [← e0, vX_u0]
      rw [e0]
      rw [← e17 1 (by omega)] at cs
      have ht := ha1.t
      have t1 := ht.1
      have hl := ha1.l
      have h10 := ha1.2
      obtain ⟨PE, ePE⟩ : ∃ PE : Prop, PE ↔ liP (vX M1) s := ⟨_, Iff.rfl⟩
      have q9 : ¬ PE → Q (.inl (some (mm_I (-9)))) (mm_up M1 17 15 (M1 17 15 + 1)) d := fun h => hq _ (-9) (hP1.tr (xA_u (x := M1 17 15 + 1) ha1)) (Or.inr ⟨cs0, by rw [mm_up_ob2 (by omega)]; exact e00, vX M1, by rw [← eV]; exact Or.inl ⟨fun h2 => h (ePE.mpr h2), rfl, rfl⟩, SE.eq cX_9⟩)
      have hne1 : PE → (M1 17 10 ≠ -1 ∧ M1 17 13 = 0) := fun h => by
        have h2 := (ePE.mp h).1
        exact ⟨(vX_c0 ha1).1.mp h2.1, h2.2⟩
      have k22 : (M1 17 10 ≠ -1 ∧ M1 17 13 = 0) → K 22 [some (mm_R 17), some (mm_I s), none] [] M1 d 0 := by
        intro hc
        have hp := ha1.p hc.1 hc.2
        obtain ⟨w, hw⟩ : ∃ w, w = (M1 17 10).toNat := ⟨_, rfl⟩
        have hk : w < 3 := by omega
        have mv := ha1.v hk
        have hD := ha1.d hk
        have v1 := mv.1
        rw [← hw] at hp
        have en := vX_n (M := M1) (show w < 4 by omega)
        have wv := (mV_i (show w < 4 by omega)).mp mv
        have ew := ((vX_c0 ha1).2 hc.1).1
        rw [← hw] at ew
        have kA : PE → (∀ i : Nat, i < M1 21 w → M1 20 (30 * w + i) / 2 ≠ s) → ∀ x2, x2 = fhF (vX M1) (8 + 2 * w) s → (0 ≤ x2 ∧ x2 < 2 * M1 17 1 ∧ x2 / 2 = s) → K 55 [some (mm_R 17), some (mm_I s), some (mm_I x2)] [] M1 d 0 := by
          intro hPE hN x2 hx2f hx2
          have hwN : wN (vX M1) (8 + 2 * w) s := fun i hi => by rw [en] at hi; rw [vX_i (by omega) (by omega)]; exact hN i hi
          have hlt := wD_lt wv hD (s := s) (by rw [vX_24]; exact cs) hwN
          rw [en, vX_24] at hlt
          have k76 : ∀ M2, fX M1 M2 → fr [8 + 2 * w, 8 + 2 * w + 1] (vX M1) (vX M2) → mV M2 w → wD (vX M2) (8 + 2 * w) → wN (vX M2) (8 + 2 * w) s → M2 17 = M1 17 → M2 21 = M1 21 → vX M2 (8 + 2 * w + 1) = vX M1 (8 + 2 * w + 1) → vX M2 (8 + 2 * w) 3 = (if M1 17 11 = 0 then sr (vX M1) x2 else vX M1 (8 + 2 * w) 3) → K 76 [some (mm_R 17), some (mm_I s), some (mm_I x2)] [] M2 d 0 := by
            intro M2 g1 g2 g3 g4 g5 g6 g7 g8 g9
            have hsto : stO (vX M2) x2 := ⟨hx2.1, by rw [vX_24, g6]; exact hx2.2.1⟩
            have k89 : ∀ M3, fX M2 M3 ∧ fr [8 + 2 * w, 8 + 2 * w + 1] (vX M2) (vX M3) ∧ mV M3 w ∧ putR (vX M2) (vX M3) (8 + 2 * w) (M1 17 11) x2 ∧ M3 17 = M2 17 → K 89 [some (mm_R 17), some (mm_I s), some (mm_I x2)] [] M3 d 0 := by
              intro M3 ⟨f1, f2, f3, f4, f5⟩
              have hD3 := put_wD g4 (by rw [hx2.2.2]; exact g5) f4
              have en2 := vX_n (M := M2) (show w < 4 by omega)
              have el : M3 21 w = M1 21 w + 1 := by
                rcases f4 with h | h
                · have := h.2.1
                  rw [vX_n (by omega), vX_n (by omega), g7] at this
                  exact this
                · exact absurd ⟨by omega, by rw [en2, g7]; omega, by rw [en2, g7]; omega⟩ h.1
              have h17 : M3 17 = M1 17 := by rw [f5, g6]
              obtain ⟨M4, e4⟩ : ∃ M4, M4 = mm_up (mm_up M3 17 11 (M1 17 11 + 1)) 17 12 (-1) := ⟨_, rfl⟩
              have e10 : M4 17 10 = M1 17 10 := by rw [e4, mm_up_ob2 (by omega), mm_up_ob2 (by omega), h17]
              have e11 : M4 17 11 = M1 17 11 + 1 := by rw [e4]; simp [mm_up]
              have e12 : M4 17 12 = -1 := by rw [e4]; simp [mm_up]
              have e13 : M4 17 13 = M1 17 13 := by rw [e4, mm_up_ob2 (by omega), mm_up_ob2 (by omega), h17]
              have e1 : M4 17 1 = M1 17 1 := by rw [e4, mm_up_ob2 (by omega), mm_up_ob2 (by omega), h17]
              have e21 : M4 21 = M3 21 := by rw [e4, mm_up_o _ (by omega), mm_up_o _ (by omega)]
              have e20 : M4 20 = M3 20 := by rw [e4, mm_up_o _ (by omega), mm_up_o _ (by omega)]
              have e22 : M4 22 = M3 22 := by rw [e4, mm_up_o _ (by omega), mm_up_o _ (by omega)]
              have ev : vX M4 = mm_up (mm_up (vX M3) 16 2 (M1 17 11 + 1)) 16 3 (-1) := by rw [e4, vX_u12, vX_u11]
              have lw := isK_le (isKk (show w < 4 by omega))
              have hP4 : xP M1 M4 := by
                refine xP_kc ha1 hk (by rw [e4]; exact (((g1.tr f1).up (by omega)).up (by omega))) ?_ ?_ ?_ (by omega) (by omega) (fun _ _ => ?_)
                · rw [ev]
                  exact (((g2.tr f2).mono (by simp)).up (by simp)).up (by simp)
                · refine ⟨by rw [e21]; exact f3.1, by rw [e22]; exact f3.2.1, fun i hi => ?_⟩
                  rw [e21] at hi
                  rw [e20, e1]
                  have := f3.2.2 i hi
                  rw [h17] at this
                  exact this
                · refine hD3.to ?_ ?_
                  · rw [ev, mm_up_o _ (by omega), mm_up_o _ (by omega)]
                  · rw [ev, mm_up_o _ (by omega), mm_up_o _ (by omega)]
                · rw [e10, e11, e12, e21, ← hw, el]
                  omega
              have en3 := vX_n (M := M3) (show w < 4 by omega)
              have hev : ∀ o, o ≠ 16 → vX M4 o = vX M3 o := fun o ho => by rw [ev, mm_up_o _ ho, mm_up_o _ ho]
              obtain ⟨y0, y1, y2, y3⟩ := f4.resolve_right (fun h => h.1 ⟨by omega, by rw [en2, g7]; omega, by rw [en2, g7]; omega⟩)
              have e16 : ∀ j, vX M3 16 j = vX M1 16 j := fun j => by rw [f2 16 (by simp; omega), g2 16 (by simp; omega)]
              have hli : liR (vX M1) (vX M4) s (M1 17 11 + 1) := by
                refine Or.inr ⟨ePE.mp hPE, rfl, mm_up (vX M3) (8 + 2 * w) 3 (vX M1 (8 + 2 * w) 3), ?_⟩
                rw [ew, vX_c2, ← hx2f]
                refine ⟨(g2.tr f2).up (by simp), Or.inl ⟨⟨by omega, by rw [en]; omega, by rw [en]; omega⟩, ?_, mm_up_sm, fun i hi => ?_⟩, ?_, ?_, ?_, ?_, ?_, ?_, ?_, ?_⟩
                · rw [mm_up_ob2 (by omega), y1, en2, en, g7]
                · rw [mm_up_o _ (by omega)]
                  have := y3 i (by rw [en2, g7, ← en]; exact hi)
                  rw [g8] at this
                  exact this
                · rw [ev]
                  exact (((g2.tr f2).mono (by simp)).up (by simp)).up (by simp)
                · rw [hev _ (by omega), mm_up_ob2 (by omega)]
                · rw [hev _ (by omega), mm_up_o _ (by omega)]
                · rw [hev _ (by omega), y2, g9]
                · rw [ev, mm_up_ob2 (by omega), mm_up_ob2 (by omega)]
                  exact e16 1
                · rw [ev, mm_up_ob2 (by omega), mm_up_sm]
                · rw [ev, mm_up_sm]
                · rw [ev, mm_up_ob2 (by omega), mm_up_ob2 (by omega)]
                  exact e16 4
              have q0 : Q (.inl (some (mm_I (M1 17 11 + 1)))) (mm_up M4 17 14 (M4 17 14 + 1)) d := hq _ _ (xP_ac (hP1.tr hP4)) (Or.inr ⟨cs0, by rw [mm_up_ob2 (by omega), e4, mm_up_ob2 (by omega), mm_up_ob2 (by omega), h17]; exact e00, vX M4, by
                rw [← eV]
                exact hli, SE.eq (cX_n (by omega))⟩)
              clear hli hev y0 y1 y2 y3 e16 hq q1 q9 hne1 ePE hx2f g8 g9 ev
              have i11 : InI (M1 17 11 + 1) := ⟨by omega, by omega⟩
              have k104 : K 104 [some (mm_R 17), some (mm_I s), some (mm_I x2)] [] M4 d 0 := by
                refine hK2 _ _ _ _ _ _ ?_
                refine mm_run_at (stop := []) (S := K) kkX5_cursorAdd 90 ?_ (fun _ _ _ _ _ _ _ h => hK _ _ _ _ _ _ h)
                repeat' (first | with_reducible assumption | with_reducible exact mm_i17 | with_reducible exact mm_i18 | with_reducible exact mm_i19 | with_reducible exact mm_i20 | with_reducible exact mm_i21 | with_reducible exact mm_i22 | ((with_reducible show mm_rv _ _ _ _ _); first | exact True.intro | exact mm_i17 | exact mm_i18 | exact mm_i19 | exact mm_i20 | exact mm_i21 | exact mm_i22) | ((with_reducible show mm_bool _ _); first | exact True.intro | exact Or.inl rfl | exact Or.inr rfl | (show (_ : Int) = 0 ∨ _ = 1)) | refine And.intro ?_ ?_ | intro _ | with_reducible exact True.intro | exact rfl | with_reducible exact Or.inl rfl | with_reducible exact Or.inr rfl | exact Nat.le_of_ble_eq_true rfl)
                all_goals (try simp (disch := omega) only [e11, InI, Int.toNat_natCast, Int.tmod_eq_emod_of_nonneg, Int.tdiv_eq_ediv_of_nonneg, true_implies, true_or, or_true, mm_l18, mm_l19, mm_l20, mm_l21, mm_l22] at *)
                all_goals first | omega | exact q0 | skip
              have e311 : M3 17 11 = M1 17 11 := by rw [h17]
              rw [e4, ← e311] at k104
              clear f4
              refine hK2 _ _ _ _ _ _ ?_
              refine mm_run_at (stop := [104]) (S := K) kkX5_cursorAdd 90 ?_ (fun _ _ _ _ _ _ _ h => hK _ _ _ _ _ _ h)
              repeat' (first | with_reducible assumption | with_reducible exact mm_i17 | with_reducible exact mm_i18 | with_reducible exact mm_i19 | with_reducible exact mm_i20 | with_reducible exact mm_i21 | with_reducible exact mm_i22 | ((with_reducible show mm_rv _ _ _ _ _); first | exact True.intro | exact mm_i17 | exact mm_i18 | exact mm_i19 | exact mm_i20 | exact mm_i21 | exact mm_i22) | ((with_reducible show mm_bool _ _); first | exact True.intro | exact Or.inl rfl | exact Or.inr rfl | (show (_ : Int) = 0 ∨ _ = 1)) | refine And.intro ?_ ?_ | intro _ | with_reducible exact True.intro | exact rfl | with_reducible exact Or.inl rfl | with_reducible exact Or.inr rfl | exact Nat.le_of_ble_eq_true rfl)
              all_goals (try simp (disch := omega) only [InI, Int.toNat_natCast, Int.tmod_eq_emod_of_nonneg, Int.tdiv_eq_ediv_of_nonneg, true_implies, true_or, or_true, mm_l18, mm_l19, mm_l20, mm_l21, mm_l22] at *)
              all_goals first | omega | exact k104 | skip
            have e10 : M2 17 10 = M1 17 10 := by rw [g6]
            have e11 : M2 17 11 = M1 17 11 := by rw [g6]
            have e21 : M2 21 w = M1 21 w := by rw [g7]
            have hp2 : 0 ≤ M2 17 11 ∧ M2 17 11 ≤ M2 21 (M2 17 10).toNat := by rw [e11, e10, ← hw, g7]; omega
            have hl30 : M2 21 (M2 17 10).toNat < 30 := by rw [e10, ← hw, g7]; omega
            rw [hw, ← e10] at g3 e21 k89
            rw [← e11] at k89
            rw [← e10] at hw h10
            clear g4 g5 g8 g9 hq q1 q9 hne1 ePE hx2f ew
            refine hK2 _ _ _ _ _ _ ?_
            refine mm_run_at (stop := [89]) (S := K) kkX5_cursorAdd 90 ?_ (fun _ _ _ _ _ _ _ h => hK _ _ _ _ _ _ h)
            repeat' (first | with_reducible assumption | with_reducible exact mm_i17 | with_reducible exact mm_i18 | with_reducible exact mm_i19 | with_reducible exact mm_i20 | with_reducible exact mm_i21 | with_reducible exact mm_i22 | ((with_reducible show mm_rv _ _ _ _ _); first | exact True.intro | exact mm_i17 | exact mm_i18 | exact mm_i19 | exact mm_i20 | exact mm_i21 | exact mm_i22) | ((with_reducible show mm_bool _ _); first | exact True.intro | exact Or.inl rfl | exact Or.inr rfl | (show (_ : Int) = 0 ∨ _ = 1)) | refine And.intro ?_ ?_ | intro _ | with_reducible exact True.intro | exact rfl | with_reducible exact Or.inl rfl | with_reducible exact Or.inr rfl | exact Nat.le_of_ble_eq_true rfl)
            all_goals (try simp (disch := omega) only [InI, Int.toNat_natCast, Int.tmod_eq_emod_of_nonneg, Int.tdiv_eq_ediv_of_nonneg, true_implies, true_or, or_true, mm_l18, mm_l19, mm_l20, mm_l21, mm_l22] at *)
            all_goals first | omega | exact k89 _ (by assumption) | skip
          have kz : M1 17 11 ≠ 0 → _ := fun h => k76 M1 fX.rf fr.rf mv hD hwN rfl rfl rfl (by rw [if_neg h])
          have kb : M1 17 11 = 0 → ∀ c, (c = srX M1 x2 ∧ 0 ≤ c ∧ c < 10) → K 76 [some (mm_R 17), some (mm_I s), some (mm_I x2)] [] (mm_up M1 22 w c) d 0 := fun h c hc => k76 _ (fX.rf.up (by omega)) (by rw [vX_u22 (by omega)]; exact fr.rf.up (by simp)) (mV_b (by omega) mv hc.2) (by rw [vX_u22 (by omega)]; exact wD_b hD) (by
            rw [vX_u22 (by omega)]
            exact fun i hi => by
              rw [mm_up_ob2 (by omega)] at hi
              rw [mm_up_o _ (by omega)]
              exact hwN i hi) (mm_up_o _ (by omega)) (mm_up_o _ (by omega)) (by rw [vX_u22 (by omega), mm_up_o _ (by omega)]) (by rw [vX_u22 (by omega), mm_up_sm, if_pos h, hc.1, sr_v])
          clear k76 hq q1 q9 hne1 ePE hx2f ew
          rw [hw] at kb
          have i11 : 0 ≤ M1 17 11 ∧ M1 17 11 ≤ 30 := by omega
          refine hK2 _ _ _ _ _ _ ?_
          refine mm_run_at (stop := [76]) (S := K) kkX5_cursorAdd 90 ?_ (fun _ _ _ _ _ _ _ h => hK _ _ _ _ _ _ h)
          repeat' (first | with_reducible assumption | with_reducible exact mm_i17 | with_reducible exact mm_i18 | with_reducible exact mm_i19 | with_reducible exact mm_i20 | with_reducible exact mm_i21 | with_reducible exact mm_i22 | ((with_reducible show mm_rv _ _ _ _ _); first | exact True.intro | exact mm_i17 | exact mm_i18 | exact mm_i19 | exact mm_i20 | exact mm_i21 | exact mm_i22) | ((with_reducible show mm_bool _ _); first | exact True.intro | exact Or.inl rfl | exact Or.inr rfl | (show (_ : Int) = 0 ∨ _ = 1)) | refine And.intro ?_ ?_ | intro _ | with_reducible exact True.intro | exact rfl | with_reducible exact Or.inl rfl | with_reducible exact Or.inr rfl | exact Nat.le_of_ble_eq_true rfl)
          all_goals (try simp (disch := omega) only [InI, Int.toNat_natCast, Int.tmod_eq_emod_of_nonneg, Int.tdiv_eq_ediv_of_nonneg, true_implies, true_or, or_true, mm_l18, mm_l19, mm_l20, mm_l21, mm_l22] at *)
          all_goals first | omega | exact kz (by omega) | exact kb (by omega) _ (by assumption) | skip
        have k49 : (∀ i : Nat, i < M1 21 w → M1 20 (30 * w + i) / 2 ≠ s) → ∀ f, (f = fhF (vX M1) (8 + 2 * (M1 17 10).toNat) s ∧ -1 ≤ f ∧ f < 2 * M1 17 1 ∧ (0 ≤ f → f / 2 = s)) → f ≠ -1 → K 49 [some (mm_R 17), some (mm_I s), none] [] M1 d 0 := by
          intro hN f hf hf1
          have hPE : PE := ePE.mpr ⟨⟨(vX_c0 ha1).1.mpr hc.1, hc.2⟩, by
            rw [ew]
            exact fun i hi => by rw [en] at hi; rw [vX_i (by omega) (by omega)]; exact hN i hi, by
            rw [ew]
            have h9 := hf.1
            rw [← hw] at h9
            rw [← h9]
            exact hf1⟩
          have kA' : ∀ r, (r = fhF (vX M1) (8 + 2 * (M1 17 10).toNat) s ∧ -1 ≤ r ∧ r < 2 * M1 17 1 ∧ (0 ≤ r → r / 2 = s)) → K 55 [some (mm_R 17), some (mm_I s), some (mm_I r)] [] M1 d 0 := fun r hr => by
            have e : r = f := by rw [hr.1, hf.1]
            exact kA hPE hN r (by have h9 := hr.1; rw [← hw] at h9; exact h9) ⟨by omega, hr.2.2.1, hr.2.2.2 (by omega)⟩
          clear kA hN hf hq q1 q9 hne1 ePE ew hPE
          refine hK2 _ _ _ _ _ _ ?_
          refine mm_run_at (stop := [55]) (S := K) kkX5_cursorAdd 90 ?_ (fun _ _ _ _ _ _ _ h => hK _ _ _ _ _ _ h)
          exact mm_c5 rfl (Nat.le_of_ble_eq_true rfl) (by exact mm_i17) (Nat.le_of_ble_eq_true rfl) (Nat.le_of_ble_eq_true rfl) (mm_a5 rfl ha1 hc cs (fun r hr => mm_a2 rfl (kA' r hr)))
        have k32 : ∀ r, ((r = -1 ∧ ∀ i : Nat, i < M1 21 w → M1 20 (30 * w + i) / 2 ≠ s) ∨ (0 ≤ r ∧ r < M1 21 w ∧ M1 20 (30 * w + r.toNat) / 2 = s ∧ ∀ i : Nat, i < r → M1 20 (30 * w + i) / 2 ≠ s)) → K 31 [some (mm_R 17), some (mm_I s), none] [mm_I r] M1 d 0 := by
          intro r hr
          have i4 : -1 ≤ r ∧ r < 30 := by omega
          have k499 : r = -1 → _ := fun h => k49 (by
            rcases hr with h2 | h2
            · exact h2.2
            · omega)
          have q9a : r ≠ -1 → Q (.inl (some (mm_I (-9)))) (mm_up M1 17 15 (M1 17 15 + 1)) d := fun h => q9 (fun h2 => by
            have h3 := (ePE.mp h2).2.1
            rw [ew] at h3
            rcases hr with h4 | h4
            · exact h h4.1
            · exact h3 r.toNat (by rw [en]; omega) (by rw [vX_i (by omega) (by omega)]; exact h4.2.2.1))
          have q9b : ∀ f, (f = fhF (vX M1) (8 + 2 * (M1 17 10).toNat) s ∧ -1 ≤ f ∧ f < 2 * M1 17 1 ∧ (0 ≤ f → f / 2 = s)) → f = -1 → Q (.inl (some (mm_I (-9)))) (mm_up M1 17 15 (M1 17 15 + 1)) d := fun f hf h => q9 (fun h2 => by
            have h3 := (ePE.mp h2).2.2
            rw [ew] at h3
            have h9 := hf.1
            rw [← hw] at h9
            exact h3 (by rw [← h9]; exact h))
          clear hr kA k49 hq q1 q9 hne1 ePE ew
          refine hK2 _ _ _ _ _ _ ?_
          refine mm_run_at (stop := [49]) (S := K) kkX5_cursorAdd 90 ?_ (fun _ _ _ _ _ _ _ h => hK _ _ _ _ _ _ h)
          repeat' (first | with_reducible assumption | with_reducible exact mm_i17 | with_reducible exact mm_i18 | with_reducible exact mm_i19 | with_reducible exact mm_i20 | with_reducible exact mm_i21 | with_reducible exact mm_i22 | ((with_reducible show mm_rv _ _ _ _ _); first | exact True.intro | exact mm_i17 | exact mm_i18 | exact mm_i19 | exact mm_i20 | exact mm_i21 | exact mm_i22) | ((with_reducible show mm_bool _ _); first | exact True.intro | exact Or.inl rfl | exact Or.inr rfl | (show (_ : Int) = 0 ∨ _ = 1)) | refine And.intro ?_ ?_ | intro _ | with_reducible exact True.intro | exact rfl | with_reducible exact Or.inl rfl | with_reducible exact Or.inr rfl | exact Nat.le_of_ble_eq_true rfl)
          all_goals (try simp (disch := omega) only [InI, Int.toNat_natCast, Int.tmod_eq_emod_of_nonneg, Int.tdiv_eq_ediv_of_nonneg, true_implies, true_or, or_true, mm_l18, mm_l19, mm_l20, mm_l21, mm_l22] at *)
          all_goals first | omega | exact q9a (by omega) | exact q9b _ (by assumption) (by omega) | exact k499 (by omega) _ (by assumption) (by omega) | skip
        clear k49 kA hq q1 q9 hne1 ePE ew
        rw [hw] at k32 mv
        refine hK2 _ _ _ _ _ _ ?_
        refine mm_run_at (stop := [31]) (S := K) kkX5_cursorAdd 90 ?_ (fun _ _ _ _ _ _ _ h => hK _ _ _ _ _ _ h)
        repeat' (first | with_reducible assumption | with_reducible exact mm_i17 | with_reducible exact mm_i18 | with_reducible exact mm_i19 | with_reducible exact mm_i20 | with_reducible exact mm_i21 | with_reducible exact mm_i22 | ((with_reducible show mm_rv _ _ _ _ _); first | exact True.intro | exact mm_i17 | exact mm_i18 | exact mm_i19 | exact mm_i20 | exact mm_i21 | exact mm_i22) | ((with_reducible show mm_bool _ _); first | exact True.intro | exact Or.inl rfl | exact Or.inr rfl | (show (_ : Int) = 0 ∨ _ = 1)) | refine And.intro ?_ ?_ | intro _ | with_reducible exact True.intro | exact rfl | with_reducible exact Or.inl rfl | with_reducible exact Or.inr rfl | exact Nat.le_of_ble_eq_true rfl)
        all_goals (try simp (disch := omega) only [InI, Int.toNat_natCast, Int.tmod_eq_emod_of_nonneg, Int.tdiv_eq_ediv_of_nonneg, true_implies, true_or, or_true, mm_l18, mm_l19, mm_l20, mm_l21, mm_l22] at *)
        all_goals first | omega | exact k32 _ (by assumption) | skip
      have k19 : ∀ r, ((M1 17 10 ≠ -1 ∧ M1 17 13 = 0) → r = 1) ∧ (¬ (M1 17 10 ≠ -1 ∧ M1 17 13 = 0) → r = 0) → K 19 [some (mm_R 17), some (mm_I s), none] [mm_I r] M1 d 0 := by
        intro r hr
        by_cases hc : M1 17 10 ≠ -1 ∧ M1 17 13 = 0
        · rw [hr.1 hc]
          have k222 := k22 hc
          clear hr k22 hq q1 q9 hne1 ePE
          refine hK2 _ _ _ _ _ _ ?_
          refine mm_run_at (stop := [22]) (S := K) kkX5_cursorAdd 90 ?_ (fun _ _ _ _ _ _ _ h => hK _ _ _ _ _ _ h)
          repeat' (first | with_reducible assumption | with_reducible exact mm_i17 | with_reducible exact mm_i18 | with_reducible exact mm_i19 | with_reducible exact mm_i20 | with_reducible exact mm_i21 | with_reducible exact mm_i22 | ((with_reducible show mm_rv _ _ _ _ _); first | exact True.intro | exact mm_i17 | exact mm_i18 | exact mm_i19 | exact mm_i20 | exact mm_i21 | exact mm_i22) | ((with_reducible show mm_bool _ _); first | exact True.intro | exact Or.inl rfl | exact Or.inr rfl | (show (_ : Int) = 0 ∨ _ = 1)) | refine And.intro ?_ ?_ | intro _ | with_reducible exact True.intro | exact rfl | with_reducible exact Or.inl rfl | with_reducible exact Or.inr rfl | exact Nat.le_of_ble_eq_true rfl)
          all_goals (try simp (disch := omega) only [InI, Int.toNat_natCast, Int.tmod_eq_emod_of_nonneg, Int.tdiv_eq_ediv_of_nonneg, true_implies, true_or, or_true, mm_l18, mm_l19, mm_l20, mm_l21, mm_l22] at *)
          all_goals first | omega | exact k222 | skip
        · rw [hr.2 hc]
          have q99 := q9 (fun h2 => hc (hne1 h2))
          clear hr k22 hq q1 q9 hne1 ePE
          refine hK2 _ _ _ _ _ _ ?_
          refine mm_run_at (stop := [22]) (S := K) kkX5_cursorAdd 90 ?_ (fun _ _ _ _ _ _ _ h => hK _ _ _ _ _ _ h)
          repeat' (first | with_reducible assumption | with_reducible exact mm_i17 | with_reducible exact mm_i18 | with_reducible exact mm_i19 | with_reducible exact mm_i20 | with_reducible exact mm_i21 | with_reducible exact mm_i22 | ((with_reducible show mm_rv _ _ _ _ _); first | exact True.intro | exact mm_i17 | exact mm_i18 | exact mm_i19 | exact mm_i20 | exact mm_i21 | exact mm_i22) | ((with_reducible show mm_bool _ _); first | exact True.intro | exact Or.inl rfl | exact Or.inr rfl | (show (_ : Int) = 0 ∨ _ = 1)) | refine And.intro ?_ ?_ | intro _ | with_reducible exact True.intro | exact rfl | with_reducible exact Or.inl rfl | with_reducible exact Or.inr rfl | exact Nat.le_of_ble_eq_true rfl)
          all_goals (try simp (disch := omega) only [InI, Int.toNat_natCast, Int.tmod_eq_emod_of_nonneg, Int.tdiv_eq_ediv_of_nonneg, true_implies, true_or, or_true, mm_l18, mm_l19, mm_l20, mm_l21, mm_l22] at *)
          all_goals first | omega | exact q99 | skip
      clear k22 hq q1 q9 hne1 ePE
      have i10 : InI (M1 17 10) := ⟨by omega, by omega⟩
      refine hK2 _ _ _ _ _ _ ?_
      refine mm_run_at (stop := [19]) (S := K) kkX5_cursorAdd 90 ?_ (fun _ _ _ _ _ _ _ h => hK _ _ _ _ _ _ h)
      repeat' (first | with_reducible assumption | with_reducible exact mm_i17 | with_reducible exact mm_i18 | with_reducible exact mm_i19 | with_reducible exact mm_i20 | with_reducible exact mm_i21 | with_reducible exact mm_i22 | ((with_reducible show mm_rv _ _ _ _ _); first | exact True.intro | exact mm_i17 | exact mm_i18 | exact mm_i19 | exact mm_i20 | exact mm_i21 | exact mm_i22) | ((with_reducible show mm_bool _ _); first | exact True.intro | exact Or.inl rfl | exact Or.inr rfl | (show (_ : Int) = 0 ∨ _ = 1)) | refine And.intro ?_ ?_ | intro _ | with_reducible exact True.intro | exact rfl | with_reducible exact Or.inl rfl | with_reducible exact Or.inr rfl | exact Nat.le_of_ble_eq_true rfl)
      exact k19 _ (by assumption)
    clear hq
    refine ⟨Nat.le_of_ble_eq_true rfl, ?_⟩
    refine mm_run_at (stop := [15]) (S := K) kkX5_cursorAdd 90 ?_ (fun _ _ _ _ _ _ _ h => hK _ _ _ _ _ _ h)
    repeat' (first | with_reducible assumption | with_reducible exact mm_i17 | with_reducible exact mm_i18 | with_reducible exact mm_i19 | with_reducible exact mm_i20 | with_reducible exact mm_i21 | with_reducible exact mm_i22 | ((with_reducible show mm_rv _ _ _ _ _); first | exact True.intro | exact mm_i17 | exact mm_i18 | exact mm_i19 | exact mm_i20 | exact mm_i21 | exact mm_i22) | ((with_reducible show mm_bool _ _); first | exact True.intro | exact Or.inl rfl | exact Or.inr rfl | (show (_ : Int) = 0 ∨ _ = 1)) | refine And.intro ?_ ?_ | intro _ | with_reducible exact True.intro | exact rfl | with_reducible exact Or.inl rfl | with_reducible exact Or.inr rfl | exact Nat.le_of_ble_eq_true rfl)
    all_goals (try simp (disch := omega) only [InI, Int.toNat_natCast, Int.tmod_eq_emod_of_nonneg, Int.tdiv_eq_ediv_of_nonneg, true_implies, true_or, or_true, mm_l18, mm_l19, mm_l20, mm_l21, mm_l22] at *)
    all_goals first | omega | exact q1 _ (by omega) (by omega) | exact k15 _ (by omega) (by omega) | skip
  · exact h.elim
theorem me_X5_cursorAdd {l : Launch} (hl : l.stackTraces = false) : mm_Met l yX5_cursorAdd cX5_cursorAdd 3 (some .int) [] 9 166 0 sp_X5_cursorAdd := mm_mt hl rn_X5_cursorAdd ⟨plX5, rfl⟩ kkX5_cursorAdd rfl ⟨Nat.le_of_ble_eq_true rfl, Nat.le_of_ble_eq_true rfl⟩ flkX5 (fun _ h => nomatch h) (⟨mm_pe (me_X5_isNoStreet hl) mwX5_isNoStreet (mm_t6 150 rfl rfl) (Nat.le_of_ble_eq_true rfl) (Nat.le_of_ble_eq_true rfl), mm_pe (me_X5_start hl) mwX5_start (mm_t6 110 rfl rfl) (Nat.le_of_ble_eq_true rfl) (Nat.le_of_ble_eq_true rfl), mm_pe (me_X5_isThere hl) mwX5_isThere (mm_t7 219 rfl rfl) (Nat.le_of_ble_eq_true rfl) (Nat.le_of_ble_eq_true rfl), mm_pe (me_X5_placeOf hl) mwX5_placeOf (mm_t6 154 rfl rfl) (Nat.le_of_ble_eq_true rfl) (Nat.le_of_ble_eq_true rfl), mm_pe (me_X5_fittingHere hl) mwX5_fittingHere (mm_t7 235 rfl rfl) (Nat.le_of_ble_eq_true rfl) (Nat.le_of_ble_eq_true rfl), mm_pe (me_X5_cannot hl) mwX5_cannot (mm_t6 118 rfl rfl) (Nat.le_of_ble_eq_true rfl) (Nat.le_of_ble_eq_true rfl), mm_pe (me_X5_goesFrom hl) mwX5_goesFrom (mm_t7 56 rfl rfl) (Nat.le_of_ble_eq_true rfl) (Nat.le_of_ble_eq_true rfl), mm_pe (me_X5_put hl) mwX5_put (mm_t6 197 rfl rfl) (Nat.le_of_ble_eq_true rfl) (Nat.le_of_ble_eq_true rfl), mm_pe (me_X5_act hl) mwX5_act (mm_t6 130 rfl rfl) (Nat.le_of_ble_eq_true rfl) (Nat.le_of_ble_eq_true rfl), trivial⟩) (mm_xe0 _) n9X5
theorem at_X5_cursorRemove_0 : mm_at 0 kdX5_cursorRemove = [(0, .aload_n 0, 0), (1, .iconst 0, 0), (2, .putfield 32, 0), (5, .aload_n 0, 0), (6, .invokevirtual 240, 0), (9, .ifCond .eq 11, 20), (12, .aload_n 0, 0), (13, .getfield 29, 0), (16, .iconst (-1), 0), (17, .if_icmp .ne 8, 25), (20, .aload_n 0, 0), (21, .invokevirtual 149, 0), (24, .ireturn, 0), (25, .aload_n 0, 0), (26, .aload_n 0, 0), (27, .getfield 25, 0), (30, .aload_n 0, 0), (31, .getfield 29, 0), (34, .invokevirtual 98, 0), (37, .istore_n 1, 0), (38, .aload_n 0, 0), (39, .getfield 29, 0), (42, .aload_n 0, 0), (43, .getfield 19, 0), (46, .aload_n 0, 0), (47, .getfield 25, 0), (50, .iaload, 0), (51, .iconst 1, 0), (52, .isub, 0), (53, .if_icmp .ne 7, 60), (56, .iconst 1, 0), (57, .goto 4, 61), (60, .iconst 0, 0), (61, .istore_n 2, 0), (62, .aload_n 0, 0), (63, .iload_n 1, 0), (64, .invokevirtual 187, 0), (67, .aload_n 0, 0), (68, .iload_n 1, 0), (69, .invokevirtual 102, 0), (72, .if_icmp .eq 19, 91), (75, .iload_n 2, 0), (76, .ifCond .ne 15, 91), (79, .aload_n 0, 0), (80, .getfield 29, 0), (83, .ifCond .le 8, 91), (86, .aload_n 0, 0), (87, .invokevirtual 149, 0), (90, .ireturn, 0), (91, .aload_n 0, 0), (92, .getfield 29, 0), (95, .ifCond .ne 21, 116), (98, .iload_n 2, 0), (99, .ifCond .ne 17, 116), (102, .aload_n 0, 0), (103, .getfield 22, 0), (106, .aload_n 0, 0), (107, .getfield 25, 0), (110, .aload_n 0, 0), (111, .iload_n 1, 0), (112, .invokevirtual 102, 0), (115, .iastore, 0), (116, .aload_n 0, 0), (117, .aload_n 0, 0), (118, .getfield 25, 0), (121, .aload_n 0, 0), (122, .getfield 29, 0), (125, .invokevirtual 117, 0), (128, .pop, 0), (129, .aload_n 0, 0), (130, .getfield 29, 0), (133, .aload_n 0, 0), (134, .getfield 237, 0), (137, .if_icmp .ge 13, 150), (140, .aload_n 0, 0), (141, .dup, 0), (142, .getfield 237, 0), (145, .iconst 1, 0), (146, .isub, 0), (147, .putfield 237, 0), (150, .aload_n 0, 0), (151, .iconst (-1), 0), (152, .putfield 29, 0), (155, .aload_n 0, 0), (156, .iload_n 1, 0), (157, .invokevirtual 156, 0), (160, .ireturn, 0)] := rfl
theorem at_X5_cursorRemove_20 : mm_at 20 kdX5_cursorRemove = [(20, .aload_n 0, 0), (21, .invokevirtual 149, 0), (24, .ireturn, 0), (25, .aload_n 0, 0), (26, .aload_n 0, 0), (27, .getfield 25, 0), (30, .aload_n 0, 0), (31, .getfield 29, 0), (34, .invokevirtual 98, 0), (37, .istore_n 1, 0), (38, .aload_n 0, 0), (39, .getfield 29, 0), (42, .aload_n 0, 0), (43, .getfield 19, 0), (46, .aload_n 0, 0), (47, .getfield 25, 0), (50, .iaload, 0), (51, .iconst 1, 0), (52, .isub, 0), (53, .if_icmp .ne 7, 60), (56, .iconst 1, 0), (57, .goto 4, 61), (60, .iconst 0, 0), (61, .istore_n 2, 0), (62, .aload_n 0, 0), (63, .iload_n 1, 0), (64, .invokevirtual 187, 0), (67, .aload_n 0, 0), (68, .iload_n 1, 0), (69, .invokevirtual 102, 0), (72, .if_icmp .eq 19, 91), (75, .iload_n 2, 0), (76, .ifCond .ne 15, 91), (79, .aload_n 0, 0), (80, .getfield 29, 0), (83, .ifCond .le 8, 91), (86, .aload_n 0, 0), (87, .invokevirtual 149, 0), (90, .ireturn, 0), (91, .aload_n 0, 0), (92, .getfield 29, 0), (95, .ifCond .ne 21, 116), (98, .iload_n 2, 0), (99, .ifCond .ne 17, 116), (102, .aload_n 0, 0), (103, .getfield 22, 0), (106, .aload_n 0, 0), (107, .getfield 25, 0), (110, .aload_n 0, 0), (111, .iload_n 1, 0), (112, .invokevirtual 102, 0), (115, .iastore, 0), (116, .aload_n 0, 0), (117, .aload_n 0, 0), (118, .getfield 25, 0), (121, .aload_n 0, 0), (122, .getfield 29, 0), (125, .invokevirtual 117, 0), (128, .pop, 0), (129, .aload_n 0, 0), (130, .getfield 29, 0), (133, .aload_n 0, 0), (134, .getfield 237, 0), (137, .if_icmp .ge 13, 150), (140, .aload_n 0, 0), (141, .dup, 0), (142, .getfield 237, 0), (145, .iconst 1, 0), (146, .isub, 0), (147, .putfield 237, 0), (150, .aload_n 0, 0), (151, .iconst (-1), 0), (152, .putfield 29, 0), (155, .aload_n 0, 0), (156, .iload_n 1, 0), (157, .invokevirtual 156, 0), (160, .ireturn, 0)] := rfl
theorem at_X5_cursorRemove_25 : mm_at 25 kdX5_cursorRemove = [(25, .aload_n 0, 0), (26, .aload_n 0, 0), (27, .getfield 25, 0), (30, .aload_n 0, 0), (31, .getfield 29, 0), (34, .invokevirtual 98, 0), (37, .istore_n 1, 0), (38, .aload_n 0, 0), (39, .getfield 29, 0), (42, .aload_n 0, 0), (43, .getfield 19, 0), (46, .aload_n 0, 0), (47, .getfield 25, 0), (50, .iaload, 0), (51, .iconst 1, 0), (52, .isub, 0), (53, .if_icmp .ne 7, 60), (56, .iconst 1, 0), (57, .goto 4, 61), (60, .iconst 0, 0), (61, .istore_n 2, 0), (62, .aload_n 0, 0), (63, .iload_n 1, 0), (64, .invokevirtual 187, 0), (67, .aload_n 0, 0), (68, .iload_n 1, 0), (69, .invokevirtual 102, 0), (72, .if_icmp .eq 19, 91), (75, .iload_n 2, 0), (76, .ifCond .ne 15, 91), (79, .aload_n 0, 0), (80, .getfield 29, 0), (83, .ifCond .le 8, 91), (86, .aload_n 0, 0), (87, .invokevirtual 149, 0), (90, .ireturn, 0), (91, .aload_n 0, 0), (92, .getfield 29, 0), (95, .ifCond .ne 21, 116), (98, .iload_n 2, 0), (99, .ifCond .ne 17, 116), (102, .aload_n 0, 0), (103, .getfield 22, 0), (106, .aload_n 0, 0), (107, .getfield 25, 0), (110, .aload_n 0, 0), (111, .iload_n 1, 0), (112, .invokevirtual 102, 0), (115, .iastore, 0), (116, .aload_n 0, 0), (117, .aload_n 0, 0), (118, .getfield 25, 0), (121, .aload_n 0, 0), (122, .getfield 29, 0), (125, .invokevirtual 117, 0), (128, .pop, 0), (129, .aload_n 0, 0), (130, .getfield 29, 0), (133, .aload_n 0, 0), (134, .getfield 237, 0), (137, .if_icmp .ge 13, 150), (140, .aload_n 0, 0), (141, .dup, 0), (142, .getfield 237, 0), (145, .iconst 1, 0), (146, .isub, 0), (147, .putfield 237, 0), (150, .aload_n 0, 0), (151, .iconst (-1), 0), (152, .putfield 29, 0), (155, .aload_n 0, 0), (156, .iload_n 1, 0), (157, .invokevirtual 156, 0), (160, .ireturn, 0)] := rfl
theorem at_X5_cursorRemove_60 : mm_at 60 kdX5_cursorRemove = [(60, .iconst 0, 0), (61, .istore_n 2, 0), (62, .aload_n 0, 0), (63, .iload_n 1, 0), (64, .invokevirtual 187, 0), (67, .aload_n 0, 0), (68, .iload_n 1, 0), (69, .invokevirtual 102, 0), (72, .if_icmp .eq 19, 91), (75, .iload_n 2, 0), (76, .ifCond .ne 15, 91), (79, .aload_n 0, 0), (80, .getfield 29, 0), (83, .ifCond .le 8, 91), (86, .aload_n 0, 0), (87, .invokevirtual 149, 0), (90, .ireturn, 0), (91, .aload_n 0, 0), (92, .getfield 29, 0), (95, .ifCond .ne 21, 116), (98, .iload_n 2, 0), (99, .ifCond .ne 17, 116), (102, .aload_n 0, 0), (103, .getfield 22, 0), (106, .aload_n 0, 0), (107, .getfield 25, 0), (110, .aload_n 0, 0), (111, .iload_n 1, 0), (112, .invokevirtual 102, 0), (115, .iastore, 0), (116, .aload_n 0, 0), (117, .aload_n 0, 0), (118, .getfield 25, 0), (121, .aload_n 0, 0), (122, .getfield 29, 0), (125, .invokevirtual 117, 0), (128, .pop, 0), (129, .aload_n 0, 0), (130, .getfield 29, 0), (133, .aload_n 0, 0), (134, .getfield 237, 0), (137, .if_icmp .ge 13, 150), (140, .aload_n 0, 0), (141, .dup, 0), (142, .getfield 237, 0), (145, .iconst 1, 0), (146, .isub, 0), (147, .putfield 237, 0), (150, .aload_n 0, 0), (151, .iconst (-1), 0), (152, .putfield 29, 0), (155, .aload_n 0, 0), (156, .iload_n 1, 0), (157, .invokevirtual 156, 0), (160, .ireturn, 0)] := rfl
theorem at_X5_cursorRemove_61 : mm_at 61 kdX5_cursorRemove = [(61, .istore_n 2, 0), (62, .aload_n 0, 0), (63, .iload_n 1, 0), (64, .invokevirtual 187, 0), (67, .aload_n 0, 0), (68, .iload_n 1, 0), (69, .invokevirtual 102, 0), (72, .if_icmp .eq 19, 91), (75, .iload_n 2, 0), (76, .ifCond .ne 15, 91), (79, .aload_n 0, 0), (80, .getfield 29, 0), (83, .ifCond .le 8, 91), (86, .aload_n 0, 0), (87, .invokevirtual 149, 0), (90, .ireturn, 0), (91, .aload_n 0, 0), (92, .getfield 29, 0), (95, .ifCond .ne 21, 116), (98, .iload_n 2, 0), (99, .ifCond .ne 17, 116), (102, .aload_n 0, 0), (103, .getfield 22, 0), (106, .aload_n 0, 0), (107, .getfield 25, 0), (110, .aload_n 0, 0), (111, .iload_n 1, 0), (112, .invokevirtual 102, 0), (115, .iastore, 0), (116, .aload_n 0, 0), (117, .aload_n 0, 0), (118, .getfield 25, 0), (121, .aload_n 0, 0), (122, .getfield 29, 0), (125, .invokevirtual 117, 0), (128, .pop, 0), (129, .aload_n 0, 0), (130, .getfield 29, 0), (133, .aload_n 0, 0), (134, .getfield 237, 0), (137, .if_icmp .ge 13, 150), (140, .aload_n 0, 0), (141, .dup, 0), (142, .getfield 237, 0), (145, .iconst 1, 0), (146, .isub, 0), (147, .putfield 237, 0), (150, .aload_n 0, 0), (151, .iconst (-1), 0), (152, .putfield 29, 0), (155, .aload_n 0, 0), (156, .iload_n 1, 0), (157, .invokevirtual 156, 0), (160, .ireturn, 0)] := rfl
theorem at_X5_cursorRemove_91 : mm_at 91 kdX5_cursorRemove = [(91, .aload_n 0, 0), (92, .getfield 29, 0), (95, .ifCond .ne 21, 116), (98, .iload_n 2, 0), (99, .ifCond .ne 17, 116), (102, .aload_n 0, 0), (103, .getfield 22, 0), (106, .aload_n 0, 0), (107, .getfield 25, 0), (110, .aload_n 0, 0), (111, .iload_n 1, 0), (112, .invokevirtual 102, 0), (115, .iastore, 0), (116, .aload_n 0, 0), (117, .aload_n 0, 0), (118, .getfield 25, 0), (121, .aload_n 0, 0), (122, .getfield 29, 0), (125, .invokevirtual 117, 0), (128, .pop, 0), (129, .aload_n 0, 0), (130, .getfield 29, 0), (133, .aload_n 0, 0), (134, .getfield 237, 0), (137, .if_icmp .ge 13, 150), (140, .aload_n 0, 0), (141, .dup, 0), (142, .getfield 237, 0), (145, .iconst 1, 0), (146, .isub, 0), (147, .putfield 237, 0), (150, .aload_n 0, 0), (151, .iconst (-1), 0), (152, .putfield 29, 0), (155, .aload_n 0, 0), (156, .iload_n 1, 0), (157, .invokevirtual 156, 0), (160, .ireturn, 0)] := rfl
theorem at_X5_cursorRemove_116 : mm_at 116 kdX5_cursorRemove = [(116, .aload_n 0, 0), (117, .aload_n 0, 0), (118, .getfield 25, 0), (121, .aload_n 0, 0), (122, .getfield 29, 0), (125, .invokevirtual 117, 0), (128, .pop, 0), (129, .aload_n 0, 0), (130, .getfield 29, 0), (133, .aload_n 0, 0), (134, .getfield 237, 0), (137, .if_icmp .ge 13, 150), (140, .aload_n 0, 0), (141, .dup, 0), (142, .getfield 237, 0), (145, .iconst 1, 0), (146, .isub, 0), (147, .putfield 237, 0), (150, .aload_n 0, 0), (151, .iconst (-1), 0), (152, .putfield 29, 0), (155, .aload_n 0, 0), (156, .iload_n 1, 0), (157, .invokevirtual 156, 0), (160, .ireturn, 0)] := rfl
theorem at_X5_cursorRemove_150 : mm_at 150 kdX5_cursorRemove = [(150, .aload_n 0, 0), (151, .iconst (-1), 0), (152, .putfield 29, 0), (155, .aload_n 0, 0), (156, .iload_n 1, 0), (157, .invokevirtual 156, 0), (160, .ireturn, 0)] := rfl
def sp_X5_cursorRemove : mm_S := fun av M d Q => match av with
  | [.inr (.inr (.inl o))] =>  o = 17 ∧ xA M ∧ ∀ M' r, xP M M' → C_cursorRemove (vX M) (vX M') (M' 17 0) r → Q (.inl (some (mm_I r))) M' d
  | _ => False
def ct_X5_cursorRemove : List (Nat × mm_Ca) := [(240, (0, 1, 14, sp_X5_isThere, 0)), (149, (0, 1, 14, sp_X5_cannot, 0)), (98, (0, 3, 14, sp_X5_stepOf, 0)), (187, (0, 2, 14, sp_X5_goesFrom, 0)), (102, (0, 2, 14, sp_X5_comesTo, 0)), (117, (0, 3, 14, sp_X5_take, 0)), (156, (0, 2, 14, sp_X5_act, 0))]
abbrev rr_X5_cursorRemove (Q : mm_Q) := mm_run (mm_look flX5) (mm_look ct_X5_cursorRemove) mm_x0 (mm_look ([] : List (Nat × Int))) (fun _ => none) 1 0 (fun _ _ => none) Q kdX5_cursorRemove
set_option maxRecDepth 20000 in
theorem rn_X5_cursorRemove : mm_RN flX5 ct_X5_cursorRemove mm_x0 [] 1 0 3 kdX5_cursorRemove sp_X5_cursorRemove := by
  intro av M d Q h
  unfold sp_X5_cursorRemove at h
  split at h
  · rename_i o
    obtain ⟨rfl, ha, hq⟩ := h
    obtain ⟨M1, e0, ha1, hP1, e17, eo⟩ := xS (v := 0) ha
    have ht := ha1.t
    have t1 := ht.1
    have hl := ha1.l
    have h10 := ha1.2
    have e00 : M1 17 0 = 0 := by rw [← e0]; exact x00
    have eV : vX M1 = vX M := by rw [← e0, vX_u0]
    obtain ⟨PE, ePE⟩ : ∃ PE : Prop, PE ↔ rtP (vX M1) := ⟨_, Iff.rfl⟩
    have q9 : ¬ PE → Q (.inl (some (mm_I (-9)))) (mm_up M1 17 15 (M1 17 15 + 1)) d := fun h => hq _ (-9) (hP1.tr (xA_u (x := M1 17 15 + 1) ha1)) ⟨by rw [mm_up_ob2 (by omega)]; exact e00, vX M1, by rw [← eV]; exact Or.inl ⟨fun h2 => h (ePE.mpr h2), rfl, rfl⟩, SE.eq cX_9⟩
    have hne1 : PE → (M1 17 10 ≠ -1 ∧ M1 17 13 = 0) ∧ 0 ≤ M1 17 12 := fun h => by
      have h2 := (ePE.mp h).1
      exact ⟨⟨(vX_c0 ha1).1.mp h2.1, h2.2.1⟩, h2.2.2⟩
    obtain ⟨K, hK, hK2⟩ : ∃ K : Nat → mm_K, (∀ t ls st M d u, K t ls st M d u → rr_X5_cursorRemove Q t ls st M d u) ∧ (∀ t ls st M d u, rr_X5_cursorRemove Q t ls st M d u → K t ls st M d u) := ⟨rr_X5_cursorRemove Q, fun _ _ _ _ _ _ h => h, fun _ _ _ _ _ _ h => h⟩
    have k25 : (M1 17 10 ≠ -1 ∧ M1 17 13 = 0) → M1 17 12 ≠ -1 → K 25 [some (mm_R 17), none, none] [] M1 d 0 := by
      intro hc hc2
      have hp := ha1.p hc.1 hc.2
      obtain ⟨w, hw⟩ : ∃ w, w = (M1 17 10).toNat := ⟨_, rfl⟩
      obtain ⟨p, hpp⟩ : ∃ p, p = (M1 17 12).toNat := ⟨_, rfl⟩
      have hk : w < 3 := by omega
      have mv := ha1.v hk
      have hD := ha1.d hk
      have v1 := mv.1
      rw [← hw] at hp
      have en := vX_n (M := M1) (show w < 4 by omega)
      have w1 := mv.2.2 p (by omega)
      have i12 : 0 ≤ M1 17 12 ∧ M1 17 12 < 30 := by omega
      obtain ⟨st, est⟩ : ∃ st, st = M1 20 (30 * w + p) := ⟨_, rfl⟩
      rw [← est] at w1
      have ew := ((vX_c0 ha1).2 hc.1).1
      rw [← hw] at ew
      have eto : etO (vX M1) = st := by rw [est]; exact eto_x ew hk (by omega) (by omega)
      have hPEi : PE ↔ (M1 17 12 = 0 ∨ M1 17 12 = M1 21 w - 1 ∨ srX M1 st = glX M1 st) := by
        rw [ePE]
        unfold rtP
        rw [eto, ew, en]
        exact ⟨fun h => h.2, fun h => ⟨⟨(vX_c0 ha1).1.mpr hc.1, hc.2, show 0 ≤ M1 17 12 by omega⟩, h⟩⟩
      have k116 : PE → ∀ x2, (x2 = 0 ∨ x2 = 1) → ∀ M2, fX M1 M2 → fr [8 + 2 * w, 8 + 2 * w + 1] (vX M1) (vX M2) → mV M2 w → wD (vX M2) (8 + 2 * w) → M2 17 = M1 17 → M2 21 = M1 21 → vX M2 (8 + 2 * w + 1) = vX M1 (8 + 2 * w + 1) → vX M2 (8 + 2 * w) 3 = (if M1 17 12 = 0 ∧ M1 17 12 ≠ M1 21 w - 1 then gl (vX M1) st else vX M1 (8 + 2 * w) 3) → K 116 [some (mm_R 17), some (mm_I st), some (mm_I x2)] [] M2 d 0 := by
        intro hPE x2 hx2 M2 g1 g2 g3 g4 g6 g7 g8 g9
        have k150 : ∀ M3, fX M2 M3 ∧ fr [8 + 2 * w, 8 + 2 * w + 1] (vX M2) (vX M3) ∧ mV M3 w ∧ takR (vX M2) (vX M3) (8 + 2 * w) (M1 17 12) ∧ M3 17 = M2 17 → ∀ y, (M1 17 12 < M1 17 11 → y = M1 17 11 - 1) → (¬ M1 17 12 < M1 17 11 → y = M1 17 11) → K 150 [some (mm_R 17), some (mm_I st), some (mm_I x2)] [] (mm_up M3 17 11 y) d 0 := by
          intro M3 ⟨f1, f2, f3, f4, f5⟩ y hy1 hy2
          have hD3 := tak_wD g4 f4
          have en2 := vX_n (M := M2) (show w < 4 by omega)
          have el : M3 21 w = M1 21 w - 1 := by
            rcases f4 with h | h
            · have := h.2.1
              rw [vX_n (by omega), vX_n (by omega), g7] at this
              exact this
            · exact absurd ⟨by omega, by rw [en2, g7]; omega⟩ h.1
          have h17 : M3 17 = M1 17 := by rw [f5, g6]
          obtain ⟨M4, e4⟩ : ∃ M4, M4 = mm_up (mm_up M3 17 11 y) 17 12 (-1) := ⟨_, rfl⟩
          have e10 : M4 17 10 = M1 17 10 := by rw [e4, mm_up_ob2 (by omega), mm_up_ob2 (by omega), h17]
          have e11 : M4 17 11 = y := by rw [e4]; simp [mm_up]
          have e12 : M4 17 12 = -1 := by rw [e4]; simp [mm_up]
          have e13 : M4 17 13 = M1 17 13 := by rw [e4, mm_up_ob2 (by omega), mm_up_ob2 (by omega), h17]
          have e1 : M4 17 1 = M1 17 1 := by rw [e4, mm_up_ob2 (by omega), mm_up_ob2 (by omega), h17]
          have e21 : M4 21 = M3 21 := by rw [e4, mm_up_o _ (by omega), mm_up_o _ (by omega)]
          have e20 : M4 20 = M3 20 := by rw [e4, mm_up_o _ (by omega), mm_up_o _ (by omega)]
          have e22 : M4 22 = M3 22 := by rw [e4, mm_up_o _ (by omega), mm_up_o _ (by omega)]
          have ev : vX M4 = mm_up (mm_up (vX M3) 16 2 y) 16 3 (-1) := by rw [e4, vX_u12, vX_u11]
          have lw := isK_le (isKk (show w < 4 by omega))
          have hP4 : xP M1 M4 := by
            refine xP_kc ha1 hk (by rw [e4]; exact (((g1.tr f1).up (by omega)).up (by omega))) ?_ ?_ ?_ (by omega) (by omega) (fun _ _ => ?_)
            · rw [ev]
              exact (((g2.tr f2).mono (by simp)).up (by simp)).up (by simp)
            · refine ⟨by rw [e21]; exact f3.1, by rw [e22]; exact f3.2.1, fun i hi => ?_⟩
              rw [e21] at hi
              rw [e20, e1]
              have := f3.2.2 i hi
              rw [h17] at this
              exact this
            · refine hD3.to ?_ ?_
              · rw [ev, mm_up_o _ (by omega), mm_up_o _ (by omega)]
              · rw [ev, mm_up_o _ (by omega), mm_up_o _ (by omega)]
            · rw [e10, e11, e12, e21, ← hw, el]
              omega
          have hev : ∀ o, o ≠ 16 → vX M4 o = vX M3 o := fun o ho => by rw [ev, mm_up_o _ ho, mm_up_o _ ho]
          obtain ⟨y0, y1, y2, y3⟩ := f4.resolve_right (fun h => h.1 ⟨by omega, by rw [en2, g7]; omega⟩)
          have e16 : ∀ j, vX M3 16 j = vX M1 16 j := fun j => by rw [f2 16 (by simp; omega), g2 16 (by simp; omega)]
          have hrt : rtR (vX M1) (vX M4) st := by
            refine Or.inr ⟨ePE.mp hPE, eto.symm, mm_up (vX M3) (8 + 2 * w) 3 (vX M1 (8 + 2 * w) 3), ?_⟩
            rw [ew, vX_c3, vX_c2, eto, en]
            refine ⟨(g2.tr f2).up (by simp), Or.inl ⟨⟨by omega, by rw [en]; omega⟩, ?_, mm_up_sm, fun i hi => ?_⟩, ?_, ?_, ?_, ?_, ?_, ?_, ?_, ?_⟩
            · rw [mm_up_ob2 (by omega), y1, en2, en, g7]
            · rw [mm_up_o _ (by omega)]
              have := y3 i (by rw [en2, g7, ← en]; exact hi)
              rw [g8] at this
              exact this
            · rw [ev]
              exact (((g2.tr f2).mono (by simp)).up (by simp)).up (by simp)
            · rw [hev _ (by omega), mm_up_ob2 (by omega)]
            · rw [hev _ (by omega), mm_up_o _ (by omega)]
            · rw [hev _ (by omega), y2, g9]
            · rw [ev, mm_up_ob2 (by omega), mm_up_ob2 (by omega)]
              exact e16 1
            · show M4 17 11 = (if M1 17 12 < M1 17 11 then M1 17 11 - 1 else M1 17 11)
              rw [e11]
              by_cases h : M1 17 12 < M1 17 11
              · rw [if_pos h]; exact hy1 h
              · rw [if_neg h]; exact hy2 h
            · rw [ev, mm_up_sm]
            · rw [ev, mm_up_ob2 (by omega), mm_up_ob2 (by omega)]
              exact e16 4
          have q0 : ∀ N, N = M4 → Q (.inl (some (mm_I st))) (mm_up N 17 14 (N 17 14 + 1)) d := fun N eN => by
            rw [eN]
            refine hq _ _ (xP_ac (hP1.tr hP4)) ⟨by rw [mm_up_ob2 (by omega), e4, mm_up_ob2 (by omega), mm_up_ob2 (by omega), h17]; exact e00, vX M4, ?_, SE.eq (cX_n (by omega))⟩
            rw [← eV]
            exact hrt
          rw [e4] at q0
          clear hrt hev y0 y1 y2 y3 e16 hq q9 hne1 ePE hPEi eto ew g8 g9 ev hy1 hy2
          refine hK2 _ _ _ _ _ _ ?_
          refine mm_run_at (stop := []) (S := K) kkX5_cursorRemove 90 ?_ (fun _ _ _ _ _ _ _ h => hK _ _ _ _ _ _ h)
          repeat' (first | with_reducible assumption | with_reducible exact mm_i17 | with_reducible exact mm_i18 | with_reducible exact mm_i19 | with_reducible exact mm_i20 | with_reducible exact mm_i21 | with_reducible exact mm_i22 | ((with_reducible show mm_rv _ _ _ _ _); first | exact True.intro | exact mm_i17 | exact mm_i18 | exact mm_i19 | exact mm_i20 | exact mm_i21 | exact mm_i22) | ((with_reducible show mm_bool _ _); first | exact True.intro | exact Or.inl rfl | exact Or.inr rfl | (show (_ : Int) = 0 ∨ _ = 1)) | refine And.intro ?_ ?_ | intro _ | with_reducible exact True.intro | exact rfl | with_reducible exact Or.inl rfl | with_reducible exact Or.inr rfl | exact Nat.le_of_ble_eq_true rfl)
          all_goals (try simp (disch := omega) only [InI, Int.toNat_natCast, Int.tmod_eq_emod_of_nonneg, Int.tdiv_eq_ediv_of_nonneg, true_implies, true_or, or_true, mm_l18, mm_l19, mm_l20, mm_l21, mm_l22] at *)
          all_goals first | omega | exact q0 _ rfl | skip
        have e12 : M2 17 12 = M1 17 12 := by rw [g6]
        have e10 : M2 17 10 = M1 17 10 := by rw [g6]
        have hp2 : 0 ≤ M2 17 12 ∧ M2 17 12 < M2 21 (M2 17 10).toNat := by rw [e12, e10, ← hw, g7]; omega
        have k129 : ∀ M3, fX M2 M3 ∧ fr [8 + 2 * w, 8 + 2 * w + 1] (vX M2) (vX M3) ∧ mV M3 w ∧ takR (vX M2) (vX M3) (8 + 2 * w) (M1 17 12) ∧ M3 17 = M2 17 → K 129 [some (mm_R 17), some (mm_I st), some (mm_I x2)] [] M3 d 0 := by
          intro M3 h
          have h17 : M3 17 = M1 17 := by rw [h.2.2.2.2, g6]
          have ka : M1 17 12 < M1 17 11 → K 150 [some (mm_R 17), some (mm_I st), some (mm_I x2)] [] (mm_up M3 17 11 (M1 17 11 - 1)) d 0 := fun h2 => k150 M3 h _ (fun _ => rfl) (fun h3 => absurd h2 h3)
          have kb : ¬ M1 17 12 < M1 17 11 → K 150 [some (mm_R 17), some (mm_I st), some (mm_I x2)] [] M3 d 0 := fun h2 => by
            have := k150 M3 h (M1 17 11) (fun h3 => absurd h3 h2) (fun _ => rfl)
            rw [show mm_up M3 17 11 (M1 17 11) = M3 by
              funext o j
              simp only [mm_up]
              split
              · rename_i e; rw [e.1, e.2, h17]
              · rfl] at this
            exact this
          have e11 : M3 17 11 = M1 17 11 := by rw [h17]
          have e12 : M3 17 12 = M1 17 12 := by rw [h17]
          rw [← e11, ← e12] at ka kb
          clear k150 h hq q9 hne1 ePE hPEi eto ew g8 g9
          refine hK2 _ _ _ _ _ _ ?_
          refine mm_run_at (stop := [150]) (S := K) kkX5_cursorRemove 90 ?_ (fun _ _ _ _ _ _ _ h => hK _ _ _ _ _ _ h)
          repeat' (first | with_reducible assumption | with_reducible exact mm_i17 | with_reducible exact mm_i18 | with_reducible exact mm_i19 | with_reducible exact mm_i20 | with_reducible exact mm_i21 | with_reducible exact mm_i22 | ((with_reducible show mm_rv _ _ _ _ _); first | exact True.intro | exact mm_i17 | exact mm_i18 | exact mm_i19 | exact mm_i20 | exact mm_i21 | exact mm_i22) | ((with_reducible show mm_bool _ _); first | exact True.intro | exact Or.inl rfl | exact Or.inr rfl | (show (_ : Int) = 0 ∨ _ = 1)) | refine And.intro ?_ ?_ | intro _ | with_reducible exact True.intro | exact rfl | with_reducible exact Or.inl rfl | with_reducible exact Or.inr rfl | exact Nat.le_of_ble_eq_true rfl)
          all_goals (try simp (disch := omega) only [InI, Int.toNat_natCast, Int.tmod_eq_emod_of_nonneg, Int.tdiv_eq_ediv_of_nonneg, true_implies, true_or, or_true, mm_l18, mm_l19, mm_l20, mm_l21, mm_l22] at *)
          all_goals first | omega | exact ka (by omega) | exact kb (by omega) | skip
        rw [hw, ← e10, ← e12] at k129
        rw [hw, ← e10] at g3
        clear k150 g4 hq q9 hne1 ePE hPEi eto ew g8 g9
        rw [← e10] at hw h10
        refine hK2 _ _ _ _ _ _ ?_
        refine mm_run_at (stop := [129]) (S := K) kkX5_cursorRemove 90 ?_ (fun _ _ _ _ _ _ _ h => hK _ _ _ _ _ _ h)
        repeat' (first | with_reducible assumption | with_reducible exact mm_i17 | with_reducible exact mm_i18 | with_reducible exact mm_i19 | with_reducible exact mm_i20 | with_reducible exact mm_i21 | with_reducible exact mm_i22 | ((with_reducible show mm_rv _ _ _ _ _); first | exact True.intro | exact mm_i17 | exact mm_i18 | exact mm_i19 | exact mm_i20 | exact mm_i21 | exact mm_i22) | ((with_reducible show mm_bool _ _); first | exact True.intro | exact Or.inl rfl | exact Or.inr rfl | (show (_ : Int) = 0 ∨ _ = 1)) | refine And.intro ?_ ?_ | intro _ | with_reducible exact True.intro | exact rfl | with_reducible exact Or.inl rfl | with_reducible exact Or.inr rfl | exact Nat.le_of_ble_eq_true rfl)
        all_goals (try simp (disch := omega) only [InI, Int.toNat_natCast, Int.tmod_eq_emod_of_nonneg, Int.tdiv_eq_ediv_of_nonneg, true_implies, true_or, or_true, mm_l18, mm_l19, mm_l20, mm_l21, mm_l22] at *)
        all_goals first | omega | exact k129 _ (by assumption) | skip
      have ht1 := ht
      have kz := fun (hPE : PE) (hn : ¬ (M1 17 12 = 0 ∧ M1 17 12 ≠ M1 21 w - 1)) x2 hx2 => k116 hPE x2 hx2 M1 fX.rf fr.rf mv hD rfl rfl rfl (by rw [if_neg hn])
      have kb : PE → (M1 17 12 = 0 ∧ M1 17 12 ≠ M1 21 w - 1) → ∀ x2, (x2 = 0 ∨ x2 = 1) → ∀ c, (c = glX M1 st ∧ 0 ≤ c ∧ c < 10) → K 116 [some (mm_R 17), some (mm_I st), some (mm_I x2)] [] (mm_up M1 22 w c) d 0 := fun hPE hn x2 hx2 c hc => k116 hPE x2 hx2 _ (fX.rf.up (by omega)) (by rw [vX_u22 (by omega)]; exact fr.rf.up (by simp)) (mV_b (by omega) mv hc.2) (by rw [vX_u22 (by omega)]; exact wD_b hD) (mm_up_o _ (by omega)) (mm_up_o _ (by omega)) (by rw [vX_u22 (by omega), mm_up_o _ (by omega)]) (by rw [vX_u22 (by omega), mm_up_sm, if_pos hn, hc.1, gl_v])
      clear k116
      have k61 : ∀ x2, (x2 = 0 ∨ x2 = 1) → (x2 = 1 ↔ M1 17 12 = M1 21 w - 1) → K 61 [some (mm_R 17), some (mm_I st), none] [mm_I x2] M1 d 0 := by
        intro x2 hx2 hx22
        have q9a : srX M1 st ≠ glX M1 st → x2 = 0 → 0 < M1 17 12 → Q (.inl (some (mm_I (-9)))) (mm_up M1 17 15 (M1 17 15 + 1)) d := fun h1 h2 h3 => q9 (fun h4 => by
          have h5 := hPEi.mp h4
          omega)
        have kz0 : srX M1 st = glX M1 st → M1 17 12 ≠ 0 → _ := fun h1 h2 => kz (hPEi.mpr (Or.inr (Or.inr h1))) (by omega) x2 hx2
        have kz1 : x2 ≠ 0 → _ := fun h => kz (hPEi.mpr (by omega)) (by omega) x2 hx2
        have kb0 : M1 17 12 = 0 → x2 = 0 → _ := fun h1 h2 => kb (hPEi.mpr (by omega)) (by omega) x2 hx2
        clear kz kb hx22 hq q9 hne1 ePE hPEi eto ew
        rw [hw] at kb0
        refine hK2 _ _ _ _ _ _ ?_
        refine mm_run_at (stop := [116]) (S := K) kkX5_cursorRemove 90 ?_ (fun _ _ _ _ _ _ _ h => hK _ _ _ _ _ _ h)
        repeat' (first | with_reducible assumption | with_reducible exact mm_i17 | with_reducible exact mm_i18 | with_reducible exact mm_i19 | with_reducible exact mm_i20 | with_reducible exact mm_i21 | with_reducible exact mm_i22 | ((with_reducible show mm_rv _ _ _ _ _); first | exact True.intro | exact mm_i17 | exact mm_i18 | exact mm_i19 | exact mm_i20 | exact mm_i21 | exact mm_i22) | ((with_reducible show mm_bool _ _); first | exact True.intro | exact Or.inl rfl | exact Or.inr rfl | (show (_ : Int) = 0 ∨ _ = 1)) | refine And.intro ?_ ?_ | intro _ | with_reducible exact True.intro | exact rfl | with_reducible exact Or.inl rfl | with_reducible exact Or.inr rfl | exact Nat.le_of_ble_eq_true rfl)
        all_goals (try simp (disch := omega) only [InI, Int.toNat_natCast, Int.tmod_eq_emod_of_nonneg, Int.tdiv_eq_ediv_of_nonneg, true_implies, true_or, or_true, mm_l18, mm_l19, mm_l20, mm_l21, mm_l22] at *)
        all_goals first | omega | exact q9a (by omega) (by omega) (by omega) | exact kz1 (by omega) | exact kz0 (by omega) (by omega) | exact kb0 (by omega) (by omega) _ (by assumption) | skip
      clear kz kb hq q9 hne1 ePE hPEi eto ew
      have k38 : K 38 [some (mm_R 17), some (mm_I st), none] [] M1 d 0 := by
        rw [hw] at v1 k61
        refine hK2 _ _ _ _ _ _ ?_
        refine mm_run_at (stop := [61]) (S := K) kkX5_cursorRemove 90 ?_ (fun _ _ _ _ _ _ _ h => hK _ _ _ _ _ _ h)
        repeat' (first | with_reducible assumption | with_reducible exact mm_i17 | with_reducible exact mm_i18 | with_reducible exact mm_i19 | with_reducible exact mm_i20 | with_reducible exact mm_i21 | with_reducible exact mm_i22 | ((with_reducible show mm_rv _ _ _ _ _); first | exact True.intro | exact mm_i17 | exact mm_i18 | exact mm_i19 | exact mm_i20 | exact mm_i21 | exact mm_i22) | ((with_reducible show mm_bool _ _); first | exact True.intro | exact Or.inl rfl | exact Or.inr rfl | (show (_ : Int) = 0 ∨ _ = 1)) | refine And.intro ?_ ?_ | intro _ | with_reducible exact True.intro | exact rfl | with_reducible exact Or.inl rfl | with_reducible exact Or.inr rfl | exact Nat.le_of_ble_eq_true rfl)
        all_goals (try simp (disch := omega) only [InI, Int.toNat_natCast, Int.tmod_eq_emod_of_nonneg, Int.tdiv_eq_ediv_of_nonneg, true_implies, true_or, or_true, mm_l18, mm_l19, mm_l20, mm_l21, mm_l22] at *)
        all_goals first | omega | exact k61 _ (by omega) (by omega) | skip
      rw [est, hw, hpp] at k38
      rw [est, hw, hpp] at w1
      rw [hw] at v1
      clear k61
      refine hK2 _ _ _ _ _ _ ?_
      refine mm_run_at (stop := [38]) (S := K) kkX5_cursorRemove 90 ?_ (fun _ _ _ _ _ _ _ h => hK _ _ _ _ _ _ h)
      repeat' (first | with_reducible assumption | with_reducible exact mm_i17 | with_reducible exact mm_i18 | with_reducible exact mm_i19 | with_reducible exact mm_i20 | with_reducible exact mm_i21 | with_reducible exact mm_i22 | ((with_reducible show mm_rv _ _ _ _ _); first | exact True.intro | exact mm_i17 | exact mm_i18 | exact mm_i19 | exact mm_i20 | exact mm_i21 | exact mm_i22) | ((with_reducible show mm_bool _ _); first | exact True.intro | exact Or.inl rfl | exact Or.inr rfl | (show (_ : Int) = 0 ∨ _ = 1)) | refine And.intro ?_ ?_ | intro _ | with_reducible exact True.intro | exact rfl | with_reducible exact Or.inl rfl | with_reducible exact Or.inr rfl | exact Nat.le_of_ble_eq_true rfl)
      all_goals (try simp (disch := omega) only [InI, Int.toNat_natCast, Int.tmod_eq_emod_of_nonneg, Int.tdiv_eq_ediv_of_nonneg, true_implies, true_or, or_true, mm_l18, mm_l19, mm_l20, mm_l21, mm_l22] at *)
      all_goals first | omega | exact k38 | skip
    have k9 : ∀ r, ((M1 17 10 ≠ -1 ∧ M1 17 13 = 0) → r = 1) ∧ (¬ (M1 17 10 ≠ -1 ∧ M1 17 13 = 0) → r = 0) → K 9 [some (mm_R 17), none, none] [mm_I r] M1 d 0 := by
      intro r hr
      by_cases hc : M1 17 10 ≠ -1 ∧ M1 17 13 = 0
      · rw [hr.1 hc]
        have k255 := k25 hc
        have q99 : M1 17 12 = -1 → Q (.inl (some (mm_I (-9)))) (mm_up M1 17 15 (M1 17 15 + 1)) d := fun h => q9 (fun h2 => by have := (hne1 h2).2; omega)
        have hp := ha1.p hc.1 hc.2
        have v1 := (ha1.v (k := (M1 17 10).toNat) (by omega)).1
        clear hr k25 hq q9 hne1 ePE
        refine hK2 _ _ _ _ _ _ ?_
        refine mm_run_at (stop := [25]) (S := K) kkX5_cursorRemove 90 ?_ (fun _ _ _ _ _ _ _ h => hK _ _ _ _ _ _ h)
        repeat' (first | with_reducible assumption | with_reducible exact mm_i17 | with_reducible exact mm_i18 | with_reducible exact mm_i19 | with_reducible exact mm_i20 | with_reducible exact mm_i21 | with_reducible exact mm_i22 | ((with_reducible show mm_rv _ _ _ _ _); first | exact True.intro | exact mm_i17 | exact mm_i18 | exact mm_i19 | exact mm_i20 | exact mm_i21 | exact mm_i22) | ((with_reducible show mm_bool _ _); first | exact True.intro | exact Or.inl rfl | exact Or.inr rfl | (show (_ : Int) = 0 ∨ _ = 1)) | refine And.intro ?_ ?_ | intro _ | with_reducible exact True.intro | exact rfl | with_reducible exact Or.inl rfl | with_reducible exact Or.inr rfl | exact Nat.le_of_ble_eq_true rfl)
        all_goals (try simp (disch := omega) only [InI, Int.toNat_natCast, Int.tmod_eq_emod_of_nonneg, Int.tdiv_eq_ediv_of_nonneg, true_implies, true_or, or_true, mm_l18, mm_l19, mm_l20, mm_l21, mm_l22] at *)
        all_goals first | omega | exact q99 (by omega) | exact k255 (by omega) | skip
      · rw [hr.2 hc]
        have q99 := q9 (fun h2 => hc (hne1 h2).1)
        clear hr k25 hq q9 hne1 ePE
        refine hK2 _ _ _ _ _ _ ?_
        refine mm_run_at (stop := [12]) (S := K) kkX5_cursorRemove 90 ?_ (fun _ _ _ _ _ _ _ h => hK _ _ _ _ _ _ h)
        repeat' (first | with_reducible assumption | with_reducible exact mm_i17 | with_reducible exact mm_i18 | with_reducible exact mm_i19 | with_reducible exact mm_i20 | with_reducible exact mm_i21 | with_reducible exact mm_i22 | ((with_reducible show mm_rv _ _ _ _ _); first | exact True.intro | exact mm_i17 | exact mm_i18 | exact mm_i19 | exact mm_i20 | exact mm_i21 | exact mm_i22) | ((with_reducible show mm_bool _ _); first | exact True.intro | exact Or.inl rfl | exact Or.inr rfl | (show (_ : Int) = 0 ∨ _ = 1)) | refine And.intro ?_ ?_ | intro _ | with_reducible exact True.intro | exact rfl | with_reducible exact Or.inl rfl | with_reducible exact Or.inr rfl | exact Nat.le_of_ble_eq_true rfl)
        all_goals (try simp (disch := omega) only [InI, Int.toNat_natCast, Int.tmod_eq_emod_of_nonneg, Int.tdiv_eq_ediv_of_nonneg, true_implies, true_or, or_true, mm_l18, mm_l19, mm_l20, mm_l21, mm_l22] at *)
        all_goals first | omega | exact q99 | skip
    clear k25 hq q9 hne1 ePE
    have i10 : InI (M1 17 10) := ⟨by omega, by omega⟩
    subst e0
    refine ⟨Nat.le_of_ble_eq_true rfl, ?_⟩
    refine mm_run_at (stop := [9]) (S := K) kkX5_cursorRemove 90 ?_ (fun _ _ _ _ _ _ _ h => hK _ _ _ _ _ _ h)
    repeat' (first | with_reducible assumption | with_reducible exact mm_i17 | with_reducible exact mm_i18 | with_reducible exact mm_i19 | with_reducible exact mm_i20 | with_reducible exact mm_i21 | with_reducible exact mm_i22 | ((with_reducible show mm_rv _ _ _ _ _); first | exact True.intro | exact mm_i17 | exact mm_i18 | exact mm_i19 | exact mm_i20 | exact mm_i21 | exact mm_i22) | ((with_reducible show mm_bool _ _); first | exact True.intro | exact Or.inl rfl | exact Or.inr rfl | (show (_ : Int) = 0 ∨ _ = 1)) | refine And.intro ?_ ?_ | intro _ | with_reducible exact True.intro | exact rfl | with_reducible exact Or.inl rfl | with_reducible exact Or.inr rfl | exact Nat.le_of_ble_eq_true rfl)
    exact k9 _ (by assumption)
  · exact h.elim
theorem me_X5_cursorRemove {l : Launch} (hl : l.stackTraces = false) : mm_Met l yX5_cursorRemove cX5_cursorRemove 3 (some .int) [] 8 146 0 sp_X5_cursorRemove := mm_mt hl rn_X5_cursorRemove ⟨plX5, rfl⟩ kkX5_cursorRemove rfl ⟨Nat.le_of_ble_eq_true rfl, Nat.le_of_ble_eq_true rfl⟩ flkX5 (fun _ h => nomatch h) (⟨mm_pe (me_X5_isThere hl) mwX5_isThere (mm_t7 219 rfl rfl) (Nat.le_of_ble_eq_true rfl) (Nat.le_of_ble_eq_true rfl), mm_pe (me_X5_cannot hl) mwX5_cannot (mm_t6 118 rfl rfl) (Nat.le_of_ble_eq_true rfl) (Nat.le_of_ble_eq_true rfl), mm_pe (me_X5_stepOf hl) mwX5_stepOf (mm_t6 158 rfl rfl) (Nat.le_of_ble_eq_true rfl) (Nat.le_of_ble_eq_true rfl), mm_pe (me_X5_goesFrom hl) mwX5_goesFrom (mm_t7 56 rfl rfl) (Nat.le_of_ble_eq_true rfl) (Nat.le_of_ble_eq_true rfl), mm_pe (me_X5_comesTo hl) mwX5_comesTo (mm_t6 189 rfl rfl) (Nat.le_of_ble_eq_true rfl) (Nat.le_of_ble_eq_true rfl), mm_pe (me_X5_take hl) mwX5_take (mm_t6 193 rfl rfl) (Nat.le_of_ble_eq_true rfl) (Nat.le_of_ble_eq_true rfl), mm_pe (me_X5_act hl) mwX5_act (mm_t6 130 rfl rfl) (Nat.le_of_ble_eq_true rfl) (Nat.le_of_ble_eq_true rfl), trivial⟩) (mm_xe0 _) n9X5

