section
/-! the model: cut -/
theorem giv_step2 {M0 M M1 M2 : mm_M} {w v : Nat} {a i r : Int} (hw : isK w) (hv : isK v) (hne : w ≠ v) (ha : 0 ≤ a ∧ a ≤ i ∧ i < M0 w 2) (h30 : M0 w 2 ≤ 30) (h : givI M0 M w v a i) (hr : r = M (w + 1) a.toNat) (ht : takR M M1 w a) (hf : fr [w, w + 1] M M1) (hp : putR M1 M2 v (M v 2) r) (hf2 : fr [v, v + 1] M1 M2) : givI M0 M2 w v a (i + 1) := by
  have hap := wk_ap hw hv hne
  obtain ⟨b1, b2, b3, b4, b5, b6⟩ := h
  have ew : M2 w = M1 w := hf2 w (by simp; omega)
  have ew1 : M2 (w + 1) = M1 (w + 1) := hf2 (w + 1) (by simp; omega)
  have ev : M1 v = M v := hf v (by simp; omega)
  have ev1 : M1 (v + 1) = M (v + 1) := hf (v + 1) (by simp; omega)
  have er : r = M0 (w + 1) i.toNat := by
    rw [hr, (b5 a.toNat (by omega)).2 (by omega)]
    congr 1
    omega
  rcases ht with ⟨q0, q1, q2, q3⟩ | ht
  · rcases hp with ⟨p0, p1, p2, p3⟩ | hp
    · rw [ev] at p0 p1 p2 p3
      rw [ev1] at p3
      refine ⟨by rw [ew]; omega, by rw [ew, q2]; exact b2, by omega, by rw [p2]; exact b4, fun x hx => ?_, fun x hx => ?_⟩
      · obtain ⟨c1, c2⟩ := q3 x (by omega)
        rw [ew1]
        refine ⟨fun g => ?_, fun g => ?_⟩
        · rw [c1 g]
          exact (b5 x (by omega)).1 g
        · rw [c2 g, (b5 (x + 1) (by omega)).2 (by omega)]
          congr 1
          omega
      · obtain ⟨c1, c2, c3⟩ := p3 x (by omega)
        by_cases e : (x : Int) = M v 2
        · rw [c2 e, er]
          congr 1
          omega
        · rw [c1 (by omega)]
          exact b6 x (by omega)
    · rw [ev] at hp
      exact absurd ⟨by omega, by omega, by omega⟩ hp.1
  · exact absurd ⟨by omega, by omega⟩ ht.1
theorem losM_cm {V : mm_M} {w v : Nat} : losM (losM V w) v = losM (losM V v) w := by
  have h1 : ∀ x : Nat, losM V x 16 1 = V 16 1 := fun x => by
    unfold losM
    split
    · exact mm_up_ob2 (by omega)
    · rfl
  by_cases a : V 16 1 = w <;> by_cases b : V 16 1 = v
  · have : w = v := by omega
    rw [this]
  · rw [show losM (losM V w) v = losM V w from if_neg (by rw [h1]; exact b), show losM V v = V from if_neg b]
  · rw [show losM (losM V v) w = losM V v from if_neg (by rw [h1]; exact a), show losM V w = V from if_neg a]
  · rw [show losM V w = V from if_neg a, show losM V v = V from if_neg b, show losM V w = V from if_neg a]
theorem at_X5_cut_0 : mm_at 0 kdX5_cut = [(0, .aload_n 0, 0), (1, .aload_n 0, 0), (2, .iload_n 1, 0), (3, .invokevirtual 178, 0), (6, .ifCond .ne 40, 46), (9, .aload_n 0, 0), (10, .iload 4, 0), (12, .invokevirtual 178, 0), (15, .ifCond .ne 31, 46), (18, .iload_n 2, 0), (19, .iconst 0, 0), (20, .aload_n 0, 0), (21, .getfield 19, 0), (24, .iload_n 1, 0), (25, .iaload, 0), (26, .invokestatic 45, 0), (29, .ifCond .eq 17, 46), (32, .iload_n 3, 0), (33, .iconst 0, 0), (34, .aload_n 0, 0), (35, .getfield 19, 0), (38, .iload_n 1, 0), (39, .iaload, 0), (40, .invokestatic 45, 0), (43, .ifCond .ne 7, 50), (46, .iconst 1, 0), (47, .goto 4, 51), (50, .iconst 0, 0), (51, .iconst 1, 0), (52, .invokevirtual 146, 0), (55, .ifCond .eq 5, 60), (58, .iconst 0, 0), (59, .ireturn, 0), (60, .iload_n 1, 0), (61, .iload 4, 0), (63, .if_icmp .eq 23, 86), (66, .iload_n 2, 0), (67, .iload_n 3, 0), (68, .if_icmp .ge 18, 86), (71, .aload_n 0, 0), (72, .iload_n 1, 0), (73, .iload_n 2, 0), (74, .invokevirtual 105, 0), (77, .aload_n 0, 0), (78, .iload_n 1, 0), (79, .iload_n 3, 0), (80, .invokevirtual 105, 0), (83, .if_icmp .eq 8, 91), (86, .aload_n 0, 0), (87, .invokevirtual 149, 0), (90, .ireturn, 0), (91, .aload_n 0, 0), (92, .getfield 22, 0), (95, .iload 4, 0), (97, .aload_n 0, 0), (98, .iload_n 1, 0), (99, .iload_n 2, 0), (100, .invokevirtual 105, 0), (103, .iastore, 0), (104, .aload_n 0, 0), (105, .getfield 19, 0), (108, .iload 4, 0), (110, .iconst 0, 0), (111, .iastore, 0), (112, .iload_n 2, 0), (113, .istore 5, 0), (115, .iload 5, 0), (117, .iload_n 3, 0), (118, .if_icmp .ge 28, 146), (121, .aload_n 0, 0), (122, .iload 4, 0), (124, .aload_n 0, 0), (125, .getfield 19, 0), (128, .iload 4, 0), (130, .iaload, 0), (131, .aload_n 0, 0), (132, .iload_n 1, 0), (133, .iload_n 2, 0), (134, .invokevirtual 117, 0), (137, .invokevirtual 120, 0), (140, .iinc 5 1, 0), (143, .goto (-28), 115), (146, .aload_n 0, 0), (147, .iload_n 1, 0), (148, .invokevirtual 181, 0), (151, .aload_n 0, 0), (152, .iload 4, 0), (154, .invokevirtual 181, 0), (157, .aload_n 0, 0), (158, .iload_n 3, 0), (159, .iload_n 2, 0), (160, .isub, 0), (161, .invokevirtual 156, 0), (164, .ireturn, 0)] := rfl
theorem at_X5_cut_46 : mm_at 46 kdX5_cut = [(46, .iconst 1, 0), (47, .goto 4, 51), (50, .iconst 0, 0), (51, .iconst 1, 0), (52, .invokevirtual 146, 0), (55, .ifCond .eq 5, 60), (58, .iconst 0, 0), (59, .ireturn, 0), (60, .iload_n 1, 0), (61, .iload 4, 0), (63, .if_icmp .eq 23, 86), (66, .iload_n 2, 0), (67, .iload_n 3, 0), (68, .if_icmp .ge 18, 86), (71, .aload_n 0, 0), (72, .iload_n 1, 0), (73, .iload_n 2, 0), (74, .invokevirtual 105, 0), (77, .aload_n 0, 0), (78, .iload_n 1, 0), (79, .iload_n 3, 0), (80, .invokevirtual 105, 0), (83, .if_icmp .eq 8, 91), (86, .aload_n 0, 0), (87, .invokevirtual 149, 0), (90, .ireturn, 0), (91, .aload_n 0, 0), (92, .getfield 22, 0), (95, .iload 4, 0), (97, .aload_n 0, 0), (98, .iload_n 1, 0), (99, .iload_n 2, 0), (100, .invokevirtual 105, 0), (103, .iastore, 0), (104, .aload_n 0, 0), (105, .getfield 19, 0), (108, .iload 4, 0), (110, .iconst 0, 0), (111, .iastore, 0), (112, .iload_n 2, 0), (113, .istore 5, 0), (115, .iload 5, 0), (117, .iload_n 3, 0), (118, .if_icmp .ge 28, 146), (121, .aload_n 0, 0), (122, .iload 4, 0), (124, .aload_n 0, 0), (125, .getfield 19, 0), (128, .iload 4, 0), (130, .iaload, 0), (131, .aload_n 0, 0), (132, .iload_n 1, 0), (133, .iload_n 2, 0), (134, .invokevirtual 117, 0), (137, .invokevirtual 120, 0), (140, .iinc 5 1, 0), (143, .goto (-28), 115), (146, .aload_n 0, 0), (147, .iload_n 1, 0), (148, .invokevirtual 181, 0), (151, .aload_n 0, 0), (152, .iload 4, 0), (154, .invokevirtual 181, 0), (157, .aload_n 0, 0), (158, .iload_n 3, 0), (159, .iload_n 2, 0), (160, .isub, 0), (161, .invokevirtual 156, 0), (164, .ireturn, 0)] := rfl
theorem at_X5_cut_50 : mm_at 50 kdX5_cut = [(50, .iconst 0, 0), (51, .iconst 1, 0), (52, .invokevirtual 146, 0), (55, .ifCond .eq 5, 60), (58, .iconst 0, 0), (59, .ireturn, 0), (60, .iload_n 1, 0), (61, .iload 4, 0), (63, .if_icmp .eq 23, 86), (66, .iload_n 2, 0), (67, .iload_n 3, 0), (68, .if_icmp .ge 18, 86), (71, .aload_n 0, 0), (72, .iload_n 1, 0), (73, .iload_n 2, 0), (74, .invokevirtual 105, 0), (77, .aload_n 0, 0), (78, .iload_n 1, 0), (79, .iload_n 3, 0), (80, .invokevirtual 105, 0), (83, .if_icmp .eq 8, 91), (86, .aload_n 0, 0), (87, .invokevirtual 149, 0), (90, .ireturn, 0), (91, .aload_n 0, 0), (92, .getfield 22, 0), (95, .iload 4, 0), (97, .aload_n 0, 0), (98, .iload_n 1, 0), (99, .iload_n 2, 0), (100, .invokevirtual 105, 0), (103, .iastore, 0), (104, .aload_n 0, 0), (105, .getfield 19, 0), (108, .iload 4, 0), (110, .iconst 0, 0), (111, .iastore, 0), (112, .iload_n 2, 0), (113, .istore 5, 0), (115, .iload 5, 0), (117, .iload_n 3, 0), (118, .if_icmp .ge 28, 146), (121, .aload_n 0, 0), (122, .iload 4, 0), (124, .aload_n 0, 0), (125, .getfield 19, 0), (128, .iload 4, 0), (130, .iaload, 0), (131, .aload_n 0, 0), (132, .iload_n 1, 0), (133, .iload_n 2, 0), (134, .invokevirtual 117, 0), (137, .invokevirtual 120, 0), (140, .iinc 5 1, 0), (143, .goto (-28), 115), (146, .aload_n 0, 0), (147, .iload_n 1, 0), (148, .invokevirtual 181, 0), (151, .aload_n 0, 0), (152, .iload 4, 0), (154, .invokevirtual 181, 0), (157, .aload_n 0, 0), (158, .iload_n 3, 0), (159, .iload_n 2, 0), (160, .isub, 0), (161, .invokevirtual 156, 0), (164, .ireturn, 0)] := rfl
theorem at_X5_cut_51 : mm_at 51 kdX5_cut = [(51, .iconst 1, 0), (52, .invokevirtual 146, 0), (55, .ifCond .eq 5, 60), (58, .iconst 0, 0), (59, .ireturn, 0), (60, .iload_n 1, 0), (61, .iload 4, 0), (63, .if_icmp .eq 23, 86), (66, .iload_n 2, 0), (67, .iload_n 3, 0), (68, .if_icmp .ge 18, 86), (71, .aload_n 0, 0), (72, .iload_n 1, 0), (73, .iload_n 2, 0), (74, .invokevirtual 105, 0), (77, .aload_n 0, 0), (78, .iload_n 1, 0), (79, .iload_n 3, 0), (80, .invokevirtual 105, 0), (83, .if_icmp .eq 8, 91), (86, .aload_n 0, 0), (87, .invokevirtual 149, 0), (90, .ireturn, 0), (91, .aload_n 0, 0), (92, .getfield 22, 0), (95, .iload 4, 0), (97, .aload_n 0, 0), (98, .iload_n 1, 0), (99, .iload_n 2, 0), (100, .invokevirtual 105, 0), (103, .iastore, 0), (104, .aload_n 0, 0), (105, .getfield 19, 0), (108, .iload 4, 0), (110, .iconst 0, 0), (111, .iastore, 0), (112, .iload_n 2, 0), (113, .istore 5, 0), (115, .iload 5, 0), (117, .iload_n 3, 0), (118, .if_icmp .ge 28, 146), (121, .aload_n 0, 0), (122, .iload 4, 0), (124, .aload_n 0, 0), (125, .getfield 19, 0), (128, .iload 4, 0), (130, .iaload, 0), (131, .aload_n 0, 0), (132, .iload_n 1, 0), (133, .iload_n 2, 0), (134, .invokevirtual 117, 0), (137, .invokevirtual 120, 0), (140, .iinc 5 1, 0), (143, .goto (-28), 115), (146, .aload_n 0, 0), (147, .iload_n 1, 0), (148, .invokevirtual 181, 0), (151, .aload_n 0, 0), (152, .iload 4, 0), (154, .invokevirtual 181, 0), (157, .aload_n 0, 0), (158, .iload_n 3, 0), (159, .iload_n 2, 0), (160, .isub, 0), (161, .invokevirtual 156, 0), (164, .ireturn, 0)] := rfl
theorem at_X5_cut_60 : mm_at 60 kdX5_cut = [(60, .iload_n 1, 0), (61, .iload 4, 0), (63, .if_icmp .eq 23, 86), (66, .iload_n 2, 0), (67, .iload_n 3, 0), (68, .if_icmp .ge 18, 86), (71, .aload_n 0, 0), (72, .iload_n 1, 0), (73, .iload_n 2, 0), (74, .invokevirtual 105, 0), (77, .aload_n 0, 0), (78, .iload_n 1, 0), (79, .iload_n 3, 0), (80, .invokevirtual 105, 0), (83, .if_icmp .eq 8, 91), (86, .aload_n 0, 0), (87, .invokevirtual 149, 0), (90, .ireturn, 0), (91, .aload_n 0, 0), (92, .getfield 22, 0), (95, .iload 4, 0), (97, .aload_n 0, 0), (98, .iload_n 1, 0), (99, .iload_n 2, 0), (100, .invokevirtual 105, 0), (103, .iastore, 0), (104, .aload_n 0, 0), (105, .getfield 19, 0), (108, .iload 4, 0), (110, .iconst 0, 0), (111, .iastore, 0), (112, .iload_n 2, 0), (113, .istore 5, 0), (115, .iload 5, 0), (117, .iload_n 3, 0), (118, .if_icmp .ge 28, 146), (121, .aload_n 0, 0), (122, .iload 4, 0), (124, .aload_n 0, 0), (125, .getfield 19, 0), (128, .iload 4, 0), (130, .iaload, 0), (131, .aload_n 0, 0), (132, .iload_n 1, 0), (133, .iload_n 2, 0), (134, .invokevirtual 117, 0), (137, .invokevirtual 120, 0), (140, .iinc 5 1, 0), (143, .goto (-28), 115), (146, .aload_n 0, 0), (147, .iload_n 1, 0), (148, .invokevirtual 181, 0), (151, .aload_n 0, 0), (152, .iload 4, 0), (154, .invokevirtual 181, 0), (157, .aload_n 0, 0), (158, .iload_n 3, 0), (159, .iload_n 2, 0), (160, .isub, 0), (161, .invokevirtual 156, 0), (164, .ireturn, 0)] := rfl
theorem at_X5_cut_86 : mm_at 86 kdX5_cut = [(86, .aload_n 0, 0), (87, .invokevirtual 149, 0), (90, .ireturn, 0), (91, .aload_n 0, 0), (92, .getfield 22, 0), (95, .iload 4, 0), (97, .aload_n 0, 0), (98, .iload_n 1, 0), (99, .iload_n 2, 0), (100, .invokevirtual 105, 0), (103, .iastore, 0), (104, .aload_n 0, 0), (105, .getfield 19, 0), (108, .iload 4, 0), (110, .iconst 0, 0), (111, .iastore, 0), (112, .iload_n 2, 0), (113, .istore 5, 0), (115, .iload 5, 0), (117, .iload_n 3, 0), (118, .if_icmp .ge 28, 146), (121, .aload_n 0, 0), (122, .iload 4, 0), (124, .aload_n 0, 0), (125, .getfield 19, 0), (128, .iload 4, 0), (130, .iaload, 0), (131, .aload_n 0, 0), (132, .iload_n 1, 0), (133, .iload_n 2, 0), (134, .invokevirtual 117, 0), (137, .invokevirtual 120, 0), (140, .iinc 5 1, 0), (143, .goto (-28), 115), (146, .aload_n 0, 0), (147, .iload_n 1, 0), (148, .invokevirtual 181, 0), (151, .aload_n 0, 0), (152, .iload 4, 0), (154, .invokevirtual 181, 0), (157, .aload_n 0, 0), (158, .iload_n 3, 0), (159, .iload_n 2, 0), (160, .isub, 0), (161, .invokevirtual 156, 0), (164, .ireturn, 0)] := rfl
theorem at_X5_cut_91 : mm_at 91 kdX5_cut = [(91, .aload_n 0, 0), (92, .getfield 22, 0), (95, .iload 4, 0), (97, .aload_n 0, 0), (98, .iload_n 1, 0), (99, .iload_n 2, 0), (100, .invokevirtual 105, 0), (103, .iastore, 0), (104, .aload_n 0, 0), (105, .getfield 19, 0), (108, .iload 4, 0), (110, .iconst 0, 0), (111, .iastore, 0), (112, .iload_n 2, 0), (113, .istore 5, 0), (115, .iload 5, 0), (117, .iload_n 3, 0), (118, .if_icmp .ge 28, 146), (121, .aload_n 0, 0), (122, .iload 4, 0), (124, .aload_n 0, 0), (125, .getfield 19, 0), (128, .iload 4, 0), (130, .iaload, 0), (131, .aload_n 0, 0), (132, .iload_n 1, 0), (133, .iload_n 2, 0), (134, .invokevirtual 117, 0), (137, .invokevirtual 120, 0), (140, .iinc 5 1, 0), (143, .goto (-28), 115), (146, .aload_n 0, 0), (147, .iload_n 1, 0), (148, .invokevirtual 181, 0), (151, .aload_n 0, 0), (152, .iload 4, 0), (154, .invokevirtual 181, 0), (157, .aload_n 0, 0), (158, .iload_n 3, 0), (159, .iload_n 2, 0), (160, .isub, 0), (161, .invokevirtual 156, 0), (164, .ireturn, 0)] := rfl
theorem at_X5_cut_115 : mm_at 115 kdX5_cut = [(115, .iload 5, 0), (117, .iload_n 3, 0), (118, .if_icmp .ge 28, 146), (121, .aload_n 0, 0), (122, .iload 4, 0), (124, .aload_n 0, 0), (125, .getfield 19, 0), (128, .iload 4, 0), (130, .iaload, 0), (131, .aload_n 0, 0), (132, .iload_n 1, 0), (133, .iload_n 2, 0), (134, .invokevirtual 117, 0), (137, .invokevirtual 120, 0), (140, .iinc 5 1, 0), (143, .goto (-28), 115), (146, .aload_n 0, 0), (147, .iload_n 1, 0), (148, .invokevirtual 181, 0), (151, .aload_n 0, 0), (152, .iload 4, 0), (154, .invokevirtual 181, 0), (157, .aload_n 0, 0), (158, .iload_n 3, 0), (159, .iload_n 2, 0), (160, .isub, 0), (161, .invokevirtual 156, 0), (164, .ireturn, 0)] := rfl
theorem at_X5_cut_146 : mm_at 146 kdX5_cut = [(146, .aload_n 0, 0), (147, .iload_n 1, 0), (148, .invokevirtual 181, 0), (151, .aload_n 0, 0), (152, .iload 4, 0), (154, .invokevirtual 181, 0), (157, .aload_n 0, 0), (158, .iload_n 3, 0), (159, .iload_n 2, 0), (160, .isub, 0), (161, .invokevirtual 156, 0), (164, .ireturn, 0)] := rfl
def sp_X5_cut : mm_S := fun av M d Q => match av with
  | [.inr (.inr (.inl o)), .inl a, .inl p, .inl q, .inl b] =>  o = 17 ∧ xA M ∧ InI a ∧ InI p ∧ InI q ∧ InI b ∧ ∀ M' r, xP M M' → C_cut a p q b (vX M) (vX M') (M' 17 0) r → Q (.inl (some (mm_I r))) M' d
  | _ => False
def ct_X5_cut : List (Nat × mm_Ca) := [(178, (0, 2, 14, sp_X5_isNoWalk, 0)), (45, (1, 3, 0, sp_X5_isIn, 0)), (146, (0, 3, 14, sp_X5_start, 0)), (105, (0, 3, 14, sp_X5_cornerOf, 0)), (149, (0, 1, 14, sp_X5_cannot, 0)), (117, (0, 3, 14, sp_X5_take, 0)), (120, (0, 4, 14, sp_X5_put, 0)), (181, (0, 2, 14, sp_X5_lose, 0)), (156, (0, 2, 14, sp_X5_act, 0))]
abbrev rr_X5_cut (Q : mm_Q) := mm_run (mm_look flX5) (mm_look ct_X5_cut) mm_x0 (mm_look ([] : List (Nat × Int))) (fun _ => none) 1 0 (fun _ _ => none) Q kdX5_cut
set_option maxRecDepth 20000 in
theorem lp_X5_cut {M0 : mm_M} {d : List Nat} {Q : mm_Q} {k v p : Nat} {q : Int} (hk : k < 3) (hv : v < 3) (hkv : k ≠ v) (hq30 : q ≤ 30) (hpl : q ≤ vX M0 (8 + 2 * k) 2 ∧ vX M0 (8 + 2 * k) 2 ≤ 30) (hq : ∀ M' x5, fX M0 M' → M' 17 = M0 17 → fr [8 + 2 * k, 8 + 2 * k + 1, 8 + 2 * v, 8 + 2 * v + 1] (vX M0) (vX M') → mV M' k → mV M' v → wD (vX M') (8 + 2 * k) → wD (vX M') (8 + 2 * v) → givR (vX M0) (vX M') (8 + 2 * k) (8 + 2 * v) p q → rr_X5_cut Q 146 [some (mm_R 17), some (mm_I k), some (mm_I p), some (mm_I q), some (mm_I v), x5] [] M' d 0) : ∀ (j i : Nat) (M : mm_M), (i : Int) + j = q → p ≤ i → fX M0 M → M 17 = M0 17 → fr [8 + 2 * k, 8 + 2 * k + 1, 8 + 2 * v, 8 + 2 * v + 1] (vX M0) (vX M) → mV M k → mV M v → wD (vX M) (8 + 2 * k) → wD (vX M) (8 + 2 * v) → (∀ x : Nat, x < M 21 k → wN (vX M) (8 + 2 * v) (vX M (8 + 2 * k + 1) x / 2)) → (p : Int) + j ≤ M 21 k → M 21 v + p = i → givI (vX M0) (vX M) (8 + 2 * k) (8 + 2 * v) p i → rr_X5_cut Q 115 [some (mm_R 17), some (mm_I k), some (mm_I p), some (mm_I q), some (mm_I v), some (mm_I i)] [] M d 0 := by
  have ik := isKk (show k < 4 by omega)
  have iv := isKk (show v < 4 by omega)
  have hz := wk_ne hkv
  have lk := isK_le ik
  have lv := isK_le iv
  intro j
  induction j with
  | zero =>
    intro i M hi hp hx h17 hf mk mv dk dv hN hl hl2 hG
    have h9 := hq M (some (mm_I i)) hx h17 hf mk mv dk dv (by rw [show q = (i : Int) by omega]; exact hG)
    clear hq hG
    obtain ⟨K, hK, hK2⟩ : ∃ K : Nat → mm_K, (∀ t ls st M d u, K t ls st M d u → rr_X5_cut Q t ls st M d u) ∧ (∀ t ls st M d u, rr_X5_cut Q t ls st M d u → K t ls st M d u) := ⟨rr_X5_cut Q, fun _ _ _ _ _ _ h => h, fun _ _ _ _ _ _ h => h⟩
    have h99 := hK2 _ _ _ _ _ _ h9
    clear h9
    refine mm_run_at (stop := [121, 146]) (S := K) kkX5_cut 90 ?_ (fun _ _ _ _ _ _ _ h => hK _ _ _ _ _ _ h)
    repeat' (first | with_reducible assumption | with_reducible exact mm_i17 | with_reducible exact mm_i18 | with_reducible exact mm_i19 | with_reducible exact mm_i20 | with_reducible exact mm_i21 | with_reducible exact mm_i22 | ((with_reducible show mm_rv _ _ _ _ _); first | exact True.intro | exact mm_i17 | exact mm_i18 | exact mm_i19 | exact mm_i20 | exact mm_i21 | exact mm_i22) | ((with_reducible show mm_bool _ _); first | exact True.intro | exact Or.inl rfl | exact Or.inr rfl | (show (_ : Int) = 0 ∨ _ = 1)) | refine And.intro ?_ ?_ | intro _ | with_reducible exact True.intro | exact rfl | with_reducible exact Or.inl rfl | with_reducible exact Or.inr rfl | exact Nat.le_of_ble_eq_true rfl)
    all_goals (try simp (disch := omega) only [InI, Int.toNat_natCast, Int.tmod_eq_emod_of_nonneg, Int.tdiv_eq_ediv_of_nonneg, true_implies, true_or, or_true, mm_l18, mm_l19, mm_l20, mm_l21, mm_l22] at *)
    all_goals first | omega | exact h99 | skip
  | succ j ih =>
    intro i M hi hp hx h17 hf mk mv dk dv hN hl hl2 hG
    have wk := (mV_i (show k < 4 by omega)).mp mk
    have wv := (mV_i (show v < 4 by omega)).mp mv
    have en := vX_n (M := M) (show k < 4 by omega)
    have b1 := mk.1
    have b2 := mv.1
    obtain ⟨st, est⟩ : ∃ st, st = vX M (8 + 2 * k + 1) p := ⟨_, rfl⟩
    have hst := wk.2.2 p (by rw [en]; omega)
    rw [← est, vX_24] at hst
    have hNp := hN p (by omega)
    rw [← est] at hNp
    obtain ⟨K, hK, hK2⟩ : ∃ K : Nat → mm_K, (∀ t ls st M d u, K t ls st M d u → rr_X5_cut Q t ls st M d u) ∧ (∀ t ls st M d u, rr_X5_cut Q t ls st M d u → K t ls st M d u) := ⟨rr_X5_cut Q, fun _ _ _ _ _ _ h => h, fun _ _ _ _ _ _ h => h⟩
    have k137 : ∀ M2, fX M M2 ∧ fr [8 + 2 * k, 8 + 2 * k + 1] (vX M) (vX M2) ∧ mV M2 k ∧ takR (vX M) (vX M2) (8 + 2 * k) p ∧ M2 17 = M 17 → K 137 [some (mm_R 17), some (mm_I k), some (mm_I p), some (mm_I q), some (mm_I v), some (mm_I i)] [mm_I st, mm_I (M 21 v), mm_I v, mm_R 17] M2 d 0 := by
      intro M2 ⟨g1, g2, g3, g4, g5⟩
      have dk2 := tak_wD dk g4
      have mv2 : mV M2 v := (mV_i (show v < 4 by omega)).mpr (wVk wv g2 iv ik (Ne.symm hz.1))
      have dv2 := wDk dv g2 iv ik (Ne.symm hz.1)
      have N2 := wNk hNp g2 iv ik (Ne.symm hz.1)
      have hsto : stO (vX M2) st := ⟨by omega, by rw [vX_24, g5]; omega⟩
      have elv : M2 21 v = M 21 v := by rw [← vX_n (M := M2) (by omega), ← vX_n (M := M) (by omega), g2 (8 + 2 * v) (by simp; omega)]
      have elk : M2 21 k = M 21 k - 1 := by
        rcases g4 with h | h
        · have := h.2.1
          rw [vX_n (by omega), vX_n (by omega)] at this
          exact this
        · exact absurd ⟨by omega, by rw [en]; omega⟩ h.1
      have ho := tak_out dk g4 ⟨by omega, by rw [en]; omega⟩
      simp only [Int.toNat_natCast] at ho
      rw [← est] at ho
      have k140 : ∀ M3, fX M2 M3 ∧ fr [8 + 2 * v, 8 + 2 * v + 1] (vX M2) (vX M3) ∧ mV M3 v ∧ putR (vX M2) (vX M3) (8 + 2 * v) (M 21 v) st ∧ M3 17 = M2 17 → K 140 [some (mm_R 17), some (mm_I k), some (mm_I p), some (mm_I q), some (mm_I v), some (mm_I i)] [] M3 d 0 := by
        intro M3 ⟨f1, f2, f3, f4, f5⟩
        have env := vX_n (M := M2) (show v < 4 by omega)
        have dv3 := put_wD dv2 N2 f4
        have mk3 : mV M3 k := (mV_i (show k < 4 by omega)).mpr (wVk ((mV_i (show k < 4 by omega)).mp g3) f2 ik iv hz.1)
        have dk3 := wDk dk2 f2 ik iv hz.1
        have elk3 : M3 21 k = M2 21 k := by rw [← vX_n (M := M3) (by omega), ← vX_n (M := M2) (by omega), f2 (8 + 2 * k) (by simp; omega)]
        have elv3 : M3 21 v = M 21 v + 1 := by
          rcases f4 with h | h
          · have := h.2.1
            rw [vX_n (by omega), vX_n (by omega)] at this
            omega
          · exact absurd ⟨by omega, by rw [env]; omega, by rw [env]; omega⟩ h.1
        have st9 := hK2 _ _ _ _ _ _ (ih (i + 1) M3 (by omega) (by omega) ((hx.tr g1).tr f1) (by rw [f5, g5, h17]) (hf.tr ((g2.mono (by simp)).tr (f2.mono (by simp)))) mk3 f3 dk3 dv3 (fun x hx => by
          have es : vX M3 (8 + 2 * k + 1) = vX M2 (8 + 2 * k + 1) := f2 _ (by simp; omega)
          have hx2 : (x : Int) < vX M2 (8 + 2 * k) 2 := by rw [vX_n (by omega)]; omega
          obtain ⟨x', c1, c2, c3⟩ := tak_ix g4 ⟨by omega, by rw [en]; omega⟩ x hx2
          rw [es]
          refine put_wN ?_ (fun e => ho x hx2 e.symm) f4
          rw [c2]
          rw [en] at c1
          exact wNk (hN x' c1) g2 iv ik (Ne.symm hz.1)) (by omega) (by omega) (by
          have := giv_step2 ik iv hz.1 (a := p) (i := i) ⟨by omega, by omega, by omega⟩ hpl.2 hG (r := st) est g4 g2 (by rw [vX_n (M := M) (by omega)]; exact f4) f2
          rw [show ((i + 1 : Nat) : Int) = (i : Int) + 1 by omega]
          exact this))
        clear ih hq hG
        refine hK2 _ _ _ _ _ _ ?_
        refine mm_run_at (stop := [115]) (S := K) kkX5_cut 90 ?_ (fun _ _ _ _ _ _ _ h => hK _ _ _ _ _ _ h)
        repeat' (first | with_reducible assumption | with_reducible exact mm_i17 | with_reducible exact mm_i18 | with_reducible exact mm_i19 | with_reducible exact mm_i20 | with_reducible exact mm_i21 | with_reducible exact mm_i22 | ((with_reducible show mm_rv _ _ _ _ _); first | exact True.intro | exact mm_i17 | exact mm_i18 | exact mm_i19 | exact mm_i20 | exact mm_i21 | exact mm_i22) | ((with_reducible show mm_bool _ _); first | exact True.intro | exact Or.inl rfl | exact Or.inr rfl | (show (_ : Int) = 0 ∨ _ = 1)) | refine And.intro ?_ ?_ | intro _ | with_reducible exact True.intro | exact rfl | with_reducible exact Or.inl rfl | with_reducible exact Or.inr rfl | exact Nat.le_of_ble_eq_true rfl)
        all_goals (try simp (disch := omega) only [InI, Int.toNat_natCast, Int.tmod_eq_emod_of_nonneg, Int.tdiv_eq_ediv_of_nonneg, true_implies, true_or, or_true, mm_l18, mm_l19, mm_l20, mm_l21, mm_l22] at *)
        all_goals first | omega | exact st9 | skip
      clear ih hq hG
      refine hK2 _ _ _ _ _ _ ?_
      refine mm_run_at (stop := [140]) (S := K) kkX5_cut 90 ?_ (fun _ _ _ _ _ _ _ h => hK _ _ _ _ _ _ h)
      repeat' (first | with_reducible assumption | with_reducible exact mm_i17 | with_reducible exact mm_i18 | with_reducible exact mm_i19 | with_reducible exact mm_i20 | with_reducible exact mm_i21 | with_reducible exact mm_i22 | ((with_reducible show mm_rv _ _ _ _ _); first | exact True.intro | exact mm_i17 | exact mm_i18 | exact mm_i19 | exact mm_i20 | exact mm_i21 | exact mm_i22 | ((with_reducible show mV _ _); exact mv2)) | ((with_reducible show mV _ _); exact mv2) | ((with_reducible show mm_bool _ _); first | exact True.intro | exact Or.inl rfl | exact Or.inr rfl | (show (_ : Int) = 0 ∨ _ = 1)) | refine And.intro ?_ ?_ | intro _ | with_reducible exact True.intro | exact rfl | with_reducible exact Or.inl rfl | with_reducible exact Or.inr rfl | exact Nat.le_of_ble_eq_true rfl)
      all_goals (try simp (disch := omega) only [InI, Int.toNat_natCast, Int.tmod_eq_emod_of_nonneg, Int.tdiv_eq_ediv_of_nonneg, true_implies, true_or, or_true, mm_l18, mm_l19, mm_l20, mm_l21, mm_l22] at *)
      all_goals first | omega | exact k140 _ (by assumption) | skip
    clear ih hq hG
    rw [est] at k137
    refine mm_run_at (stop := [137, 146]) (S := K) kkX5_cut 90 ?_ (fun _ _ _ _ _ _ _ h => hK _ _ _ _ _ _ h)
    repeat' (first | with_reducible assumption | with_reducible exact mm_i17 | with_reducible exact mm_i18 | with_reducible exact mm_i19 | with_reducible exact mm_i20 | with_reducible exact mm_i21 | with_reducible exact mm_i22 | ((with_reducible show mm_rv _ _ _ _ _); first | exact True.intro | exact mm_i17 | exact mm_i18 | exact mm_i19 | exact mm_i20 | exact mm_i21 | exact mm_i22 | ((with_reducible show mV _ _); exact mk)) | ((with_reducible show mV _ _); exact mk) | ((with_reducible show mm_bool _ _); first | exact True.intro | exact Or.inl rfl | exact Or.inr rfl | (show (_ : Int) = 0 ∨ _ = 1)) | refine And.intro ?_ ?_ | intro _ | with_reducible exact True.intro | exact rfl | with_reducible exact Or.inl rfl | with_reducible exact Or.inr rfl | exact Nat.le_of_ble_eq_true rfl)
    all_goals (try simp (disch := omega) only [InI, Int.toNat_natCast, Int.tmod_eq_emod_of_nonneg, Int.tdiv_eq_ediv_of_nonneg, true_implies, true_or, or_true, mm_l18, mm_l19, mm_l20, mm_l21, mm_l22] at *)
    all_goals first | omega | exact k137 _ (by assumption) | skip
set_option maxRecDepth 20000 in
theorem rn_X5_cut : mm_RN flX5 ct_X5_cut mm_x0 [] 1 0 6 kdX5_cut sp_X5_cut := by
  intro av M d Q h
  unfold sp_X5_cut at h
  split at h
  · rename_i o a p q b
    obtain ⟨rfl, ha, h1, h2, h3, h4, hq⟩ := h
    have hlI : (0 ≤ a ∧ a ≤ 2) → InI (M 21 a.toNat) := fun h => InI_l (ha.v (k := a.toNat) (by omega)) rfl
    obtain ⟨K, hK, hK2⟩ : ∃ K : Nat → mm_K, (∀ t ls st M d u, K t ls st M d u → rr_X5_cut Q t ls st M d u) ∧ (∀ t ls st M d u, rr_X5_cut Q t ls st M d u → K t ls st M d u) := ⟨rr_X5_cut Q, fun _ _ _ _ _ _ h => h, fun _ _ _ _ _ _ h => h⟩
    have hn2 : (0 ≤ a ∧ a ≤ 2) → vX M (wk a) 2 = M 21 a.toNat := fun h => vX_n (wk_in h).2.2
    have q1 : ∀ v, v = 1 → (¬ (0 ≤ a ∧ a ≤ 2) ∨ ¬ (0 ≤ b ∧ b ≤ 2) ∨ ((0 ≤ a ∧ a ≤ 2) ∧ (¬ (0 ≤ p ∧ p ≤ M 21 a.toNat) ∨ ¬ (0 ≤ q ∧ q ≤ M 21 a.toNat)))) → Q (.inl (some (mm_I 0))) (mm_up M 17 0 v) d := fun v hv hn => hq _ _ (xP_s ha) (xq1 (fun h => by
      obtain ⟨g1, g2, g3, g4⟩ := h
      unfold iw at g1 g2
      unfold onW at g3 g4
      rcases hn with hn | hn | ⟨hn, hn'⟩
      · omega
      · omega
      · rw [hn2 hn] at g3 g4
        exact hn'.elim (fun h => h g3) (fun h => h g4)) hv)
    have k60 : ∀ v, v = 0 → (0 ≤ a ∧ a ≤ 2) → (0 ≤ b ∧ b ≤ 2) → (0 ≤ p ∧ p ≤ M 21 a.toNat) → (0 ≤ q ∧ q ≤ M 21 a.toNat) → K 60 [some (mm_R 17), some (mm_I a), some (mm_I p), some (mm_I q), some (mm_I b), none] [] (mm_up M 17 0 v) d 0 := by
      intro v hv0 ca cb cp cq
      have hcc : iw a ∧ iw b ∧ onW (vX M) (wk a) p ∧ onW (vX M) (wk a) q := ⟨(wk_in ca).1, (wk_in cb).1, by unfold onW; rw [hn2 ca]; exact cp, by unfold onW; rw [hn2 ca]; exact cq⟩
      obtain ⟨M1, e0, ha1, hP1, e17, eo⟩ := xS (v := v) ha
      have e00 : M1 17 0 = 0 := by rw [← e0, hv0]; exact x00
      have eV : vX M1 = vX M := by rw [← e0, vX_u0]
      rw [e0]
      rw [← eo 21 (by omega)] at cp cq
      obtain ⟨k, rfl⟩ := Int.eq_ofNat_of_zero_le ca.1
      obtain ⟨w, rfl⟩ := Int.eq_ofNat_of_zero_le cb.1
      obtain ⟨p, rfl⟩ := Int.eq_ofNat_of_zero_le cp.1
      have hk : k < 3 := by omega
      have hw : w < 3 := by omega
      have hv := ha1.v hk
      have hD := ha1.d hk
      have ht := ha1.t
      have v1 := hv.1
      simp only [Int.toNat_natCast] at cp cq
      have en := vX_n (M := M1) (show k < 4 by omega)
      have ecp := cor_v (M := M1) (show k < 4 by omega) hv cp
      have ecq := cor_v (M := M1) (show k < 4 by omega) hv cq
      have hct : cutP (vX M1) (8 + 2 * k) p q (8 + 2 * w) ↔ ((k : Int) ≠ w ∧ (p : Int) < q ∧ corX M1 k p = corX M1 k q) := by
        rw [ecp, ecq]
        unfold cutP
        constructor
        · exact fun h => ⟨fun e => h.1 (by omega), h.2⟩
        · exact fun h => ⟨fun e => h.1 (by omega), h.2⟩
      have q9 : ¬ ((k : Int) ≠ w ∧ (p : Int) < q ∧ corX M1 k p = corX M1 k q) → Q (.inl (some (mm_I (-9)))) (mm_up M1 17 15 (M1 17 15 + 1)) d := fun h => hq _ (-9) (hP1.tr (xA_u (x := M1 17 15 + 1) ha1)) (Or.inr ⟨hcc, by rw [mm_up_ob2 (by omega)]; exact e00, by rw [← eV]; exact no9.n (fun h2 => h (hct.mp h2)) cX_9⟩)
      have k91 : k ≠ w → (p : Int) < q → corX M1 k p = corX M1 k q → K 91 [some (mm_R 17), some (mm_I k), some (mm_I p), some (mm_I q), some (mm_I w), none] [] M1 d 0 := by
        intro hkw hpq hee
        have hz := wk_ne hkw
        have ik := isKk (show k < 4 by omega)
        have iw := isKk (show w < 4 by omega)
        have k146 : ∀ M' x5, fX M1 M' → M' 17 = M1 17 → fr [8 + 2 * k, 8 + 2 * k + 1, 8 + 2 * w, 8 + 2 * w + 1] (vX M1) (vX M') → mV M' k → mV M' w → wD (vX M') (8 + 2 * k) → wD (vX M') (8 + 2 * w) → givR (vX M1) (vX M') (8 + 2 * k) (8 + 2 * w) p q → rr_X5_cut Q 146 [some (mm_R 17), some (mm_I k), some (mm_I p), some (mm_I q), some (mm_I w), x5] [] M' d 0 := by
          intro M' x5 f1 f2 f3 f4 f5 f6 f7 f8
          have hP2 := xP_two ha1 hk hw f1 f2 f3 f4 f6 f5 f7
          have hl := ha1.l
          have h10 := ha1.2
          have h10' : M' 17 10 = M1 17 10 := by rw [f2]
          have h13' : M' 17 13 = M1 17 13 := by rw [f2]
          have q0 : ∀ M3, M3 = mm_up M' 17 13 (if M' 17 10 = k then 1 else M' 17 13) → ∀ M4, M4 = mm_up M3 17 13 (if M3 17 10 = w then 1 else M3 17 13) → Q (.inl (some (mm_I (q - p)))) (mm_up M4 17 14 (M4 17 14 + 1)) d := fun M3 e3 M4 e4 => by
            have e310 : M3 17 10 = M1 17 10 := by rw [e3, mm_up_ob2 (by omega), h10']
            have ev3 : vX M3 = losM (vX M') (8 + 2 * k) := by rw [e3]; exact los_m (by rw [h10']; exact h10)
            refine hq _ _ (by rw [e4, e3]; exact xP_ac (hP1.tr hP2)) (Or.inr ⟨hcc, by rw [mm_up_ob2 (by omega), e4, mm_up_ob2 (by omega), e3, mm_up_ob2 (by omega), f2]; exact e00, ?_⟩)
            rw [← eV]
            refine no9.y (hct.mpr ⟨by omega, hpq, hee⟩) ⟨rfl, vX M', f8, f3, SE.eq ?_⟩
            rw [cX_m (r := q - p) (M2 := M3) (by rw [e310]; exact h10) (by omega) e4, ev3]
            exact congrArg (fun x => cnF x (q - p)) losM_cm
          have z0 : (mm_up M' 17 13 (if M' 17 10 = k then 1 else M' 17 13)) 17 10 = M' 17 10 := mm_up_ob2 (by omega)
          have z1 : (mm_up M' 17 13 (if M' 17 10 = k then 1 else M' 17 13)) 17 13 = (if M' 17 10 = k then 1 else M' 17 13) := by simp [mm_up]
          have z2 : (mm_up M' 17 13 (if M' 17 10 = k then 1 else M' 17 13)) 17 13 = 0 ∨ (mm_up M' 17 13 (if M' 17 10 = k then 1 else M' 17 13)) 17 13 = 1 := by rw [z1]; split <;> omega
          have z3 : InI ((mm_up M' 17 13 (if M' 17 10 = k then 1 else M' 17 13)) 17 10) := by rw [z0]; exact ⟨by omega, by omega⟩
          clear hP2 f3 f8 hq q1 q9 hct ecp ecq
          obtain ⟨K, hK, hK2⟩ : ∃ K : Nat → mm_K, (∀ t ls st M d u, K t ls st M d u → rr_X5_cut Q t ls st M d u) ∧ (∀ t ls st M d u, rr_X5_cut Q t ls st M d u → K t ls st M d u) := ⟨rr_X5_cut Q, fun _ _ _ _ _ _ h => h, fun _ _ _ _ _ _ h => h⟩
          refine mm_run_at (stop := []) (S := K) kkX5_cut 90 ?_ (fun _ _ _ _ _ _ _ h => hK _ _ _ _ _ _ h)
          repeat' (first | with_reducible assumption | with_reducible exact mm_i17 | with_reducible exact mm_i18 | with_reducible exact mm_i19 | with_reducible exact mm_i20 | with_reducible exact mm_i21 | with_reducible exact mm_i22 | ((with_reducible show mm_rv _ _ _ _ _); first | exact True.intro | exact mm_i17 | exact mm_i18 | exact mm_i19 | exact mm_i20 | exact mm_i21 | exact mm_i22) | ((with_reducible show mm_bool _ _); first | exact True.intro | exact Or.inl rfl | exact Or.inr rfl | (show (_ : Int) = 0 ∨ _ = 1)) | refine And.intro ?_ ?_ | intro _ | with_reducible exact True.intro | exact rfl | with_reducible exact Or.inl rfl | with_reducible exact Or.inr rfl | exact Nat.le_of_ble_eq_true rfl)
          all_goals (try simp (disch := omega) only [InI, Int.toNat_natCast, Int.tmod_eq_emod_of_nonneg, Int.tdiv_eq_ediv_of_nonneg, true_implies, true_or, or_true, mm_l18, mm_l19, mm_l20, mm_l21, mm_l22] at *)
          all_goals first | omega | exact q0 _ rfl _ rfl | skip
        obtain ⟨M2, e2⟩ : ∃ M2, M2 = mm_up (mm_up M1 22 w (corX M1 k p)) 21 w 0 := ⟨_, rfl⟩
        have ev : vX M2 = mm_up (mm_up (vX M1) (8 + 2 * w) 3 (corX M1 k p)) (8 + 2 * w) 2 0 := by rw [e2, vX_u21 (by omega), vX_u22 (by omega)]
        have f12 : fr [8 + 2 * w, 8 + 2 * w + 1] (vX M1) (vX M2) := by rw [ev]; exact (fr.rf.up (by simp)).up (by simp)
        have k113 : (0 ≤ corX M1 k p ∧ corX M1 k p < 10) → K 112 [some (mm_R 17), some (mm_I k), some (mm_I p), some (mm_I q), some (mm_I w), none] [] M2 d 0 := by
          intro hc
          have mw2 : mV M2 w := (mV_i (by omega)).mpr (by rw [ev]; exact ⟨by simp [mm_up], by simp [mm_up]; omega, fun j hj => by simp [mm_up] at hj; omega⟩)
          have mk2 : mV M2 k := (mV_i (show k < 4 by omega)).mpr (wVk ((mV_i (show k < 4 by omega)).mp hv) f12 ik iw hz.1)
          have dk2 := wDk hD f12 ik iw hz.1
          have dw2 : wD (vX M2) (8 + 2 * w) := by rw [ev]; exact wD_0 (by simp [mm_up])
          have elw : M2 21 w = 0 := by rw [e2]; simp [mm_up]
          have elk : M2 21 k = M1 21 k := by rw [← vX_n (M := M2) (by omega), ← vX_n (M := M1) (by omega), f12 (8 + 2 * k) (by simp; omega)]
          have h17 : M2 17 = M1 17 := by rw [e2, mm_up_o _ (by omega), mm_up_o _ (by omega)]
          have k115 := hK2 _ _ _ _ _ _ (lp_X5_cut (M0 := M1) (d := d) (Q := Q) (p := p) (q := q) hk hw hkw (by omega) ⟨by rw [en]; exact cq.2, by rw [en]; exact v1.2⟩ k146 (q - p).toNat p M2 (by omega) (Nat.le_refl _) (by rw [e2]; exact (fX.rf.up (by omega)).up (by omega)) h17 (f12.mono (by simp)) mk2 mw2 dk2 dw2 (fun x _ y hy => by rw [vX_n (by omega), elw] at hy; omega) (by omega) (by omega) ⟨by rw [vX_n (by omega), vX_n (by omega), elk]; omega, by rw [f12 (8 + 2 * k) (by simp; omega)], by rw [vX_n (by omega), elw]; omega, by rw [ev, mm_up_ob2 (by omega), mm_up_sm]; exact ecp, fun x hx => by rw [f12 (8 + 2 * k + 1) (by simp; omega)]; exact ⟨fun _ => rfl, fun _ => by rw [show ((p : Int) - p).toNat = 0 by omega]; rfl⟩, fun x hx => by omega⟩)
          clear hq q1 q9 hct ecp ecq k146
          refine hK2 _ _ _ _ _ _ ?_
          refine mm_run_at (stop := [115]) (S := K) kkX5_cut 90 ?_ (fun _ _ _ _ _ _ _ h => hK _ _ _ _ _ _ h)
          repeat' (first | with_reducible assumption | with_reducible exact mm_i17 | with_reducible exact mm_i18 | with_reducible exact mm_i19 | with_reducible exact mm_i20 | with_reducible exact mm_i21 | with_reducible exact mm_i22 | ((with_reducible show mm_rv _ _ _ _ _); first | exact True.intro | exact mm_i17 | exact mm_i18 | exact mm_i19 | exact mm_i20 | exact mm_i21 | exact mm_i22) | ((with_reducible show mm_bool _ _); first | exact True.intro | exact Or.inl rfl | exact Or.inr rfl | (show (_ : Int) = 0 ∨ _ = 1)) | refine And.intro ?_ ?_ | intro _ | with_reducible exact True.intro | exact rfl | with_reducible exact Or.inl rfl | with_reducible exact Or.inr rfl | exact Nat.le_of_ble_eq_true rfl)
          all_goals (try simp (disch := omega) only [InI, Int.toNat_natCast, Int.tmod_eq_emod_of_nonneg, Int.tdiv_eq_ediv_of_nonneg, true_implies, true_or, or_true, mm_l18, mm_l19, mm_l20, mm_l21, mm_l22] at *)
          all_goals first | omega | exact k115 | skip
        rw [e2] at k113
        have k113 : ∀ c, c = corX M1 k p ∧ 0 ≤ c ∧ c < 10 → K 112 [some (mm_R 17), some (mm_I k), some (mm_I p), some (mm_I q), some (mm_I w), none] [] (mm_up (mm_up M1 22 w c) 21 w 0) d 0 := fun c hc => by rw [hc.1]; exact k113 (by rw [← hc.1]; exact hc.2)
        clear k146 hq q1 q9 hct ecp ecq
        refine hK2 _ _ _ _ _ _ ?_
        refine mm_run_at (stop := [112]) (S := K) kkX5_cut 90 ?_ (fun _ _ _ _ _ _ _ h => hK _ _ _ _ _ _ h)
        repeat' (first | with_reducible assumption | with_reducible exact mm_i17 | with_reducible exact mm_i18 | with_reducible exact mm_i19 | with_reducible exact mm_i20 | with_reducible exact mm_i21 | with_reducible exact mm_i22 | ((with_reducible show mm_rv _ _ _ _ _); first | exact True.intro | exact mm_i17 | exact mm_i18 | exact mm_i19 | exact mm_i20 | exact mm_i21 | exact mm_i22 | ((with_reducible show mV _ _); exact hv)) | ((with_reducible show mV _ _); exact hv) | ((with_reducible show mm_bool _ _); first | exact True.intro | exact Or.inl rfl | exact Or.inr rfl | (show (_ : Int) = 0 ∨ _ = 1)) | refine And.intro ?_ ?_ | intro _ | with_reducible exact True.intro | exact rfl | with_reducible exact Or.inl rfl | with_reducible exact Or.inr rfl | exact Nat.le_of_ble_eq_true rfl)
        all_goals (try simp (disch := omega) only [InI, Int.toNat_natCast, Int.tmod_eq_emod_of_nonneg, Int.tdiv_eq_ediv_of_nonneg, true_implies, true_or, or_true, mm_l18, mm_l19, mm_l20, mm_l21, mm_l22] at *)
        all_goals first | omega | exact k113 _ (by assumption) | skip
      clear hq q1 hct ecp ecq
      refine hK2 _ _ _ _ _ _ ?_
      refine mm_run_at (stop := [91]) (S := K) kkX5_cut 90 ?_ (fun _ _ _ _ _ _ _ h => hK _ _ _ _ _ _ h)
      repeat' (first | with_reducible assumption | with_reducible exact mm_i17 | with_reducible exact mm_i18 | with_reducible exact mm_i19 | with_reducible exact mm_i20 | with_reducible exact mm_i21 | with_reducible exact mm_i22 | ((with_reducible show mm_rv _ _ _ _ _); first | exact True.intro | exact mm_i17 | exact mm_i18 | exact mm_i19 | exact mm_i20 | exact mm_i21 | exact mm_i22 | ((with_reducible show mV _ _); exact hv)) | ((with_reducible show mV _ _); exact hv) | ((with_reducible show mm_bool _ _); first | exact True.intro | exact Or.inl rfl | exact Or.inr rfl | (show (_ : Int) = 0 ∨ _ = 1)) | refine And.intro ?_ ?_ | intro _ | with_reducible exact True.intro | exact rfl | with_reducible exact Or.inl rfl | with_reducible exact Or.inr rfl | exact Nat.le_of_ble_eq_true rfl)
      all_goals (try simp (disch := omega) only [InI, Int.toNat_natCast, Int.tmod_eq_emod_of_nonneg, Int.tdiv_eq_ediv_of_nonneg, true_implies, true_or, or_true, mm_l18, mm_l19, mm_l20, mm_l21, mm_l22] at *)
      all_goals first | omega | exact q9 (by omega) | exact k91 (by omega) (by omega) (by omega) | skip
    clear hq
    refine ⟨Nat.le_of_ble_eq_true rfl, ?_⟩
    refine mm_run_at (stop := [60]) (S := K) kkX5_cut 90 ?_ (fun _ _ _ _ _ _ _ h => hK _ _ _ _ _ _ h)
    repeat' (first | with_reducible assumption | with_reducible exact mm_i17 | with_reducible exact mm_i18 | with_reducible exact mm_i19 | with_reducible exact mm_i20 | with_reducible exact mm_i21 | with_reducible exact mm_i22 | ((with_reducible show mm_rv _ _ _ _ _); first | exact True.intro | exact mm_i17 | exact mm_i18 | exact mm_i19 | exact mm_i20 | exact mm_i21 | exact mm_i22 | ((with_reducible show InI _); exact hlI (by omega))) | ((with_reducible show InI _); exact hlI (by omega)) | ((with_reducible show mm_bool _ _); first | exact True.intro | exact Or.inl rfl | exact Or.inr rfl | (show (_ : Int) = 0 ∨ _ = 1)) | refine And.intro ?_ ?_ | intro _ | with_reducible exact True.intro | exact rfl | with_reducible exact Or.inl rfl | with_reducible exact Or.inr rfl | exact Nat.le_of_ble_eq_true rfl)
    all_goals (try simp (disch := omega) only [InI, Int.toNat_natCast, Int.tmod_eq_emod_of_nonneg, Int.tdiv_eq_ediv_of_nonneg, true_implies, true_or, or_true, mm_l18, mm_l19, mm_l20, mm_l21, mm_l22] at *)
    all_goals first | omega | exact q1 _ (by omega) (by omega) | exact k60 _ (by omega) (by omega) (by omega) (by omega) (by omega) | skip
  · exact h.elim
theorem me_X5_cut {l : Launch} (hl : l.stackTraces = false) : mm_Met l yX5_cut cX5_cut 6 (some .int) [] 8 146 0 sp_X5_cut := mm_mt hl rn_X5_cut ⟨plX5, rfl⟩ kkX5_cut rfl ⟨Nat.le_of_ble_eq_true rfl, Nat.le_of_ble_eq_true rfl⟩ flkX5 (fun _ h => nomatch h) (⟨mm_pe (me_X5_isNoWalk hl) mwX5_isNoWalk (mm_t7 36 rfl rfl) (Nat.le_of_ble_eq_true rfl) (Nat.le_of_ble_eq_true rfl), mm_pe (me_X5_isIn hl) mwX5_isIn (mm_t6 107 rfl rfl) (Nat.le_of_ble_eq_true rfl) (Nat.le_of_ble_eq_true rfl), mm_pe (me_X5_start hl) mwX5_start (mm_t6 110 rfl rfl) (Nat.le_of_ble_eq_true rfl) (Nat.le_of_ble_eq_true rfl), mm_pe (me_X5_cornerOf hl) mwX5_cornerOf (mm_t6 185 rfl rfl) (Nat.le_of_ble_eq_true rfl) (Nat.le_of_ble_eq_true rfl), mm_pe (me_X5_cannot hl) mwX5_cannot (mm_t6 118 rfl rfl) (Nat.le_of_ble_eq_true rfl) (Nat.le_of_ble_eq_true rfl), mm_pe (me_X5_take hl) mwX5_take (mm_t6 193 rfl rfl) (Nat.le_of_ble_eq_true rfl) (Nat.le_of_ble_eq_true rfl), mm_pe (me_X5_put hl) mwX5_put (mm_t6 197 rfl rfl) (Nat.le_of_ble_eq_true rfl) (Nat.le_of_ble_eq_true rfl), mm_pe (me_X5_lose hl) mwX5_lose (mm_t7 40 rfl rfl) (Nat.le_of_ble_eq_true rfl) (Nat.le_of_ble_eq_true rfl), mm_pe (me_X5_act hl) mwX5_act (mm_t6 130 rfl rfl) (Nat.le_of_ble_eq_true rfl) (Nat.le_of_ble_eq_true rfl), trivial⟩) (mm_xe0 _) n9X5
end
section
/-! the model: the cursor -/
theorem cV_x {M : mm_M} (h10 : -1 ≤ M 17 10 ∧ M 17 10 ≤ 2) (h13 : M 17 13 = 0 ∨ M 17 13 = 1) (h : M 17 10 ≠ -1 → M 17 13 = 0 → (0 ≤ M 17 11 ∧ M 17 11 ≤ M 21 (M 17 10).toNat) ∧ (-1 ≤ M 17 12 ∧ M 17 12 < M 21 (M 17 10).toNat)) : cV (vX M) := by
  unfold cV
  rw [vX_c1, vX_c2, vX_c3, vX_c4]
  by_cases e : M 17 10 = -1
  · rw [if_pos e]
    exact ⟨Or.inl rfl, h13, fun h => absurd rfl h⟩
  · rw [if_neg e]
    have e2 : (8 + 2 * M 17 10).toNat = 8 + 2 * (M 17 10).toNat := by omega
    rw [e2, vX_n (by omega)]
    exact ⟨Or.inr (isW3k (by omega)), h13, fun _ h4 => h e h4⟩
theorem xP_c {M M' : mm_M} (ha : xA M) (hx : fX M M') (hf : fr [16] (vX M) (vX M')) (h10 : -1 ≤ M' 17 10 ∧ M' 17 10 ≤ 2) (h13 : M' 17 13 = 0 ∨ M' 17 13 = 1) (h : M' 17 10 ≠ -1 → M' 17 13 = 0 → (0 ≤ M' 17 11 ∧ M' 17 11 ≤ M' 21 (M' 17 10).toNat) ∧ (-1 ≤ M' 17 12 ∧ M' 17 12 < M' 21 (M' 17 10).toNat)) : xP M M' := ⟨hx, ha.1.c hf (cV_x h10 h13 h), h10⟩
theorem xP_kc {M M' : mm_M} {k : Nat} (ha : xA M) (hk : k < 3) (hx : fX M M') (hf : fr [8 + 2 * k, 8 + 2 * k + 1, 16] (vX M) (vX M')) (hv : mV M' k) (hD : wD (vX M') (8 + 2 * k)) (h10 : -1 ≤ M' 17 10 ∧ M' 17 10 ≤ 2) (h13 : M' 17 13 = 0 ∨ M' 17 13 = 1) (h : M' 17 10 ≠ -1 → M' 17 13 = 0 → (0 ≤ M' 17 11 ∧ M' 17 11 ≤ M' 21 (M' 17 10).toNat) ∧ (-1 ≤ M' 17 12 ∧ M' 17 12 < M' 21 (M' 17 10).toNat)) : xP M M' :=
  ⟨hx, ha.1.w (isKk (by omega)) (hf.mono (by intro x hx; simp at hx ⊢; omega)) ((mV_i (by omega)).mp hv) hD (cV_x h10 h13 h), h10⟩
theorem at_X5_cursor_0 : mm_at 0 kdX5_cursor = [(0, .aload_n 0, 0), (1, .aload_n 0, 0), (2, .iload_n 1, 0), (3, .invokevirtual 178, 0), (6, .ifCond .ne 17, 23), (9, .iload_n 2, 0), (10, .iconst 0, 0), (11, .aload_n 0, 0), (12, .getfield 19, 0), (15, .iload_n 1, 0), (16, .iaload, 0), (17, .invokestatic 45, 0), (20, .ifCond .ne 7, 27), (23, .iconst 1, 0), (24, .goto 4, 28), (27, .iconst 0, 0), (28, .iconst 1, 0), (29, .invokevirtual 146, 0), (32, .ifCond .eq 5, 37), (35, .iconst 0, 0), (36, .ireturn, 0), (37, .aload_n 0, 0), (38, .iload_n 1, 0), (39, .putfield 25, 0), (42, .aload_n 0, 0), (43, .iload_n 2, 0), (44, .putfield 237, 0), (47, .aload_n 0, 0), (48, .iconst (-1), 0), (49, .putfield 29, 0), (52, .aload_n 0, 0), (53, .iconst 0, 0), (54, .putfield 114, 0), (57, .aload_n 0, 0), (58, .aload_n 0, 0), (59, .iload_n 1, 0), (60, .iload_n 2, 0), (61, .invokevirtual 105, 0), (64, .invokevirtual 156, 0), (67, .ireturn, 0)] := rfl
theorem at_X5_cursor_23 : mm_at 23 kdX5_cursor = [(23, .iconst 1, 0), (24, .goto 4, 28), (27, .iconst 0, 0), (28, .iconst 1, 0), (29, .invokevirtual 146, 0), (32, .ifCond .eq 5, 37), (35, .iconst 0, 0), (36, .ireturn, 0), (37, .aload_n 0, 0), (38, .iload_n 1, 0), (39, .putfield 25, 0), (42, .aload_n 0, 0), (43, .iload_n 2, 0), (44, .putfield 237, 0), (47, .aload_n 0, 0), (48, .iconst (-1), 0), (49, .putfield 29, 0), (52, .aload_n 0, 0), (53, .iconst 0, 0), (54, .putfield 114, 0), (57, .aload_n 0, 0), (58, .aload_n 0, 0), (59, .iload_n 1, 0), (60, .iload_n 2, 0), (61, .invokevirtual 105, 0), (64, .invokevirtual 156, 0), (67, .ireturn, 0)] := rfl
theorem at_X5_cursor_27 : mm_at 27 kdX5_cursor = [(27, .iconst 0, 0), (28, .iconst 1, 0), (29, .invokevirtual 146, 0), (32, .ifCond .eq 5, 37), (35, .iconst 0, 0), (36, .ireturn, 0), (37, .aload_n 0, 0), (38, .iload_n 1, 0), (39, .putfield 25, 0), (42, .aload_n 0, 0), (43, .iload_n 2, 0), (44, .putfield 237, 0), (47, .aload_n 0, 0), (48, .iconst (-1), 0), (49, .putfield 29, 0), (52, .aload_n 0, 0), (53, .iconst 0, 0), (54, .putfield 114, 0), (57, .aload_n 0, 0), (58, .aload_n 0, 0), (59, .iload_n 1, 0), (60, .iload_n 2, 0), (61, .invokevirtual 105, 0), (64, .invokevirtual 156, 0), (67, .ireturn, 0)] := rfl
theorem at_X5_cursor_28 : mm_at 28 kdX5_cursor = [(28, .iconst 1, 0), (29, .invokevirtual 146, 0), (32, .ifCond .eq 5, 37), (35, .iconst 0, 0), (36, .ireturn, 0), (37, .aload_n 0, 0), (38, .iload_n 1, 0), (39, .putfield 25, 0), (42, .aload_n 0, 0), (43, .iload_n 2, 0), (44, .putfield 237, 0), (47, .aload_n 0, 0), (48, .iconst (-1), 0), (49, .putfield 29, 0), (52, .aload_n 0, 0), (53, .iconst 0, 0), (54, .putfield 114, 0), (57, .aload_n 0, 0), (58, .aload_n 0, 0), (59, .iload_n 1, 0), (60, .iload_n 2, 0), (61, .invokevirtual 105, 0), (64, .invokevirtual 156, 0), (67, .ireturn, 0)] := rfl
theorem at_X5_cursor_37 : mm_at 37 kdX5_cursor = [(37, .aload_n 0, 0), (38, .iload_n 1, 0), (39, .putfield 25, 0), (42, .aload_n 0, 0), (43, .iload_n 2, 0), (44, .putfield 237, 0), (47, .aload_n 0, 0), (48, .iconst (-1), 0), (49, .putfield 29, 0), (52, .aload_n 0, 0), (53, .iconst 0, 0), (54, .putfield 114, 0), (57, .aload_n 0, 0), (58, .aload_n 0, 0), (59, .iload_n 1, 0), (60, .iload_n 2, 0), (61, .invokevirtual 105, 0), (64, .invokevirtual 156, 0), (67, .ireturn, 0)] := rfl
def sp_X5_cursor : mm_S := fun av M d Q => match av with
  | [.inr (.inr (.inl o)), .inl a, .inl p] =>  o = 17 ∧ xA M ∧ InI a ∧ InI p ∧ ∀ M' r, xP M M' → C_cursor a p (vX M) (vX M') (M' 17 0) r → Q (.inl (some (mm_I r))) M' d
  | _ => False
def ct_X5_cursor : List (Nat × mm_Ca) := [(178, (0, 2, 14, sp_X5_isNoWalk, 0)), (45, (1, 3, 0, sp_X5_isIn, 0)), (146, (0, 3, 14, sp_X5_start, 0)), (105, (0, 3, 14, sp_X5_cornerOf, 0)), (156, (0, 2, 14, sp_X5_act, 0))]
abbrev rr_X5_cursor (Q : mm_Q) := mm_run (mm_look flX5) (mm_look ct_X5_cursor) mm_x0 (mm_look ([] : List (Nat × Int))) (fun _ => none) 1 0 (fun _ _ => none) Q kdX5_cursor
set_option maxRecDepth 20000 in
theorem rn_X5_cursor : mm_RN flX5 ct_X5_cursor mm_x0 [] 1 0 3 kdX5_cursor sp_X5_cursor := by
  intro av M d Q h
  unfold sp_X5_cursor at h
  split at h
  · rename_i o a p
    obtain ⟨rfl, ha, h1, h2, hq⟩ := h
    have hlI : (0 ≤ a ∧ a ≤ 2) → InI (M 21 a.toNat) := fun h => InI_l (ha.v (k := a.toNat) (by omega)) rfl
    obtain ⟨K, hK, hK2⟩ : ∃ K : Nat → mm_K, (∀ t ls st M d u, K t ls st M d u → rr_X5_cursor Q t ls st M d u) ∧ (∀ t ls st M d u, rr_X5_cursor Q t ls st M d u → K t ls st M d u) := ⟨rr_X5_cursor Q, fun _ _ _ _ _ _ h => h, fun _ _ _ _ _ _ h => h⟩
    have hn2 : (0 ≤ a ∧ a ≤ 2) → vX M (wk a) 2 = M 21 a.toNat := fun h => vX_n (wk_in h).2.2
    have q1 : ∀ v, v = 1 → (¬ (0 ≤ a ∧ a ≤ 2) ∨ ((0 ≤ a ∧ a ≤ 2) ∧ ¬ (0 ≤ p ∧ p ≤ M 21 a.toNat))) → Q (.inl (some (mm_I 0))) (mm_up M 17 0 v) d := fun v hv hn => hq _ _ (xP_s ha) (xq1 (fun h => by
      obtain ⟨g1, g2⟩ := h
      unfold iw at g1
      unfold onW at g2
      rcases hn with hn | ⟨hn, hn'⟩
      · omega
      · rw [hn2 hn] at g2
        exact hn' g2) hv)
    have k37 : ∀ v, v = 0 → (0 ≤ a ∧ a ≤ 2) → (0 ≤ p ∧ p ≤ M 21 a.toNat) → K 37 [some (mm_R 17), some (mm_I a), some (mm_I p)] [] (mm_up M 17 0 v) d 0 := by
      intro v hv0 ca cp
      have hcc : iw a ∧ onW (vX M) (wk a) p := ⟨(wk_in ca).1, by unfold onW; rw [hn2 ca]; exact cp⟩
      obtain ⟨M1, e0, ha1, hP1, e17, eo⟩ := xS (v := v) ha
      have e00 : M1 17 0 = 0 := by rw [← e0, hv0]; exact x00
      have eV : vX M1 = vX M := by rw [← e0, vX_u0]
      rw [e0]
      rw [← eo 21 (by omega)] at cp
      have v1 := (ha1.v (k := a.toNat) (by omega)).1
      obtain ⟨M2, e2⟩ : ∃ M2, M2 = mm_up (mm_up (mm_up (mm_up M1 17 10 a) 17 11 p) 17 12 (-1)) 17 13 0 := ⟨_, rfl⟩
      have e10 : M2 17 10 = a := by rw [e2]; simp [mm_up]
      have e11 : M2 17 11 = p := by rw [e2]; simp [mm_up]
      have e12 : M2 17 12 = -1 := by rw [e2]; simp [mm_up]
      have e13 : M2 17 13 = 0 := by rw [e2]; simp [mm_up]
      have e21 : M2 21 = M1 21 := by rw [e2, mm_up_o _ (by omega), mm_up_o _ (by omega), mm_up_o _ (by omega), mm_up_o _ (by omega)]
      have hP2 : xP M1 M2 := by
        refine xP_c ha1 (by rw [e2]; exact (((fX.rf.up (by omega)).up (by omega)).up (by omega)).up (by omega)) ?_ (by omega) (by omega) (fun _ _ => ?_)
        · rw [e2, vX_u13, vX_u12, vX_u11, vX_u10]
          exact (((fr.rf.up (by simp)).up (by simp)).up (by simp)).up (by simp)
        · rw [e10, e11, e12, e21]
          omega
      have ht2 := hP2.a.t
      have mv2 := hP2.a.v (k := a.toNat) (by omega)
      have cp2 : 0 ≤ p ∧ p ≤ M2 21 a.toNat := by rw [e21]; exact cp
      have ev : vX M2 = stM (vX M1) (8 + 2 * a.toNat) p := by
        rw [e2, vX_u13, vX_u12, vX_u11, vX_u10, if_neg (by omega)]
        unfold stM
        rw [show ((8 + 2 * a.toNat : Nat) : Int) = 8 + 2 * a by omega]
      have evo : ∀ o, o ≠ 16 → vX M2 o = vX M1 o := fun o ho => by rw [ev]; unfold stM; rw [mm_up_o _ ho, mm_up_o _ ho, mm_up_o _ ho, mm_up_o _ ho]
      have q0 : ∀ r, (r = corX M2 a.toNat p ∧ 0 ≤ r ∧ r < 10) → Q (.inl (some (mm_I r))) (mm_up M2 17 14 (M2 17 14 + 1)) d := fun r hr => hq _ _ (xP_ac (hP1.tr hP2)) (Or.inr ⟨hcc, by rw [mm_up_ob2 (by omega), e2, mm_up_ob2 (by omega), mm_up_ob2 (by omega), mm_up_ob2 (by omega), mm_up_ob2 (by omega)]; exact e00, by
        rw [← eV]
        refine ⟨?_, SE.eq (by rw [cX_n (r := r) (by omega), ev]; rfl)⟩
        rw [hr.1, cor_v (wk_in ca).2.2 mv2 cp2]
        have hk16 := kn (wk_in ca).2.1
        exact cor_e (evo 3 (by omega)) (evo 4 (by omega)) (evo _ hk16.1) (evo _ hk16.2)⟩)
      have k57 : K 57 [some (mm_R 17), some (mm_I a), some (mm_I p)] [] M2 d 0 := by
        clear ev evo hq q1 hcc hn2
        refine hK2 _ _ _ _ _ _ ?_
        refine mm_run_at (stop := []) (S := K) kkX5_cursor 90 ?_ (fun _ _ _ _ _ _ _ h => hK _ _ _ _ _ _ h)
        repeat' (first | with_reducible assumption | with_reducible exact mm_i17 | with_reducible exact mm_i18 | with_reducible exact mm_i19 | with_reducible exact mm_i20 | with_reducible exact mm_i21 | with_reducible exact mm_i22 | ((with_reducible show mm_rv _ _ _ _ _); first | exact True.intro | exact mm_i17 | exact mm_i18 | exact mm_i19 | exact mm_i20 | exact mm_i21 | exact mm_i22) | ((with_reducible show mm_bool _ _); first | exact True.intro | exact Or.inl rfl | exact Or.inr rfl | (show (_ : Int) = 0 ∨ _ = 1)) | refine And.intro ?_ ?_ | intro _ | with_reducible exact True.intro | exact rfl | with_reducible exact Or.inl rfl | with_reducible exact Or.inr rfl | exact Nat.le_of_ble_eq_true rfl)
        all_goals (try simp (disch := omega) only [InI, Int.toNat_natCast, Int.tmod_eq_emod_of_nonneg, Int.tdiv_eq_ediv_of_nonneg, true_implies, true_or, or_true, mm_l18, mm_l19, mm_l20, mm_l21, mm_l22] at *)
        all_goals first | omega | exact q0 _ (by assumption) | skip
      rw [e2] at k57
      clear ev evo q0 hq q1 hcc hn2
      refine hK2 _ _ _ _ _ _ ?_
      refine mm_run_at (stop := [57]) (S := K) kkX5_cursor 90 ?_ (fun _ _ _ _ _ _ _ h => hK _ _ _ _ _ _ h)
      repeat' (first | with_reducible assumption | with_reducible exact mm_i17 | with_reducible exact mm_i18 | with_reducible exact mm_i19 | with_reducible exact mm_i20 | with_reducible exact mm_i21 | with_reducible exact mm_i22 | ((with_reducible show mm_rv _ _ _ _ _); first | exact True.intro | exact mm_i17 | exact mm_i18 | exact mm_i19 | exact mm_i20 | exact mm_i21 | exact mm_i22) | ((with_reducible show mm_bool _ _); first | exact True.intro | exact Or.inl rfl | exact Or.inr rfl | (show (_ : Int) = 0 ∨ _ = 1)) | refine And.intro ?_ ?_ | intro _ | with_reducible exact True.intro | exact rfl | with_reducible exact Or.inl rfl | with_reducible exact Or.inr rfl | exact Nat.le_of_ble_eq_true rfl)
      all_goals (try simp (disch := omega) only [InI, Int.toNat_natCast, Int.tmod_eq_emod_of_nonneg, Int.tdiv_eq_ediv_of_nonneg, true_implies, true_or, or_true, mm_l18, mm_l19, mm_l20, mm_l21, mm_l22] at *)
      all_goals first | omega | exact k57 | skip
    clear hq hn2
    refine ⟨Nat.le_of_ble_eq_true rfl, ?_⟩
    refine mm_run_at (stop := [37]) (S := K) kkX5_cursor 90 ?_ (fun _ _ _ _ _ _ _ h => hK _ _ _ _ _ _ h)
    repeat' (first | with_reducible assumption | with_reducible exact mm_i17 | with_reducible exact mm_i18 | with_reducible exact mm_i19 | with_reducible exact mm_i20 | with_reducible exact mm_i21 | with_reducible exact mm_i22 | ((with_reducible show mm_rv _ _ _ _ _); first | exact True.intro | exact mm_i17 | exact mm_i18 | exact mm_i19 | exact mm_i20 | exact mm_i21 | exact mm_i22 | ((with_reducible show InI _); exact hlI (by omega))) | ((with_reducible show InI _); exact hlI (by omega)) | ((with_reducible show mm_bool _ _); first | exact True.intro | exact Or.inl rfl | exact Or.inr rfl | (show (_ : Int) = 0 ∨ _ = 1)) | refine And.intro ?_ ?_ | intro _ | with_reducible exact True.intro | exact rfl | with_reducible exact Or.inl rfl | with_reducible exact Or.inr rfl | exact Nat.le_of_ble_eq_true rfl)
    all_goals (try simp (disch := omega) only [InI, Int.toNat_natCast, Int.tmod_eq_emod_of_nonneg, Int.tdiv_eq_ediv_of_nonneg, true_implies, true_or, or_true, mm_l18, mm_l19, mm_l20, mm_l21, mm_l22] at *)
    all_goals first | omega | exact q1 _ (by omega) (by omega) | exact k37 _ (by omega) (by omega) (by omega) | skip
  · exact h.elim
theorem me_X5_cursor {l : Launch} (hl : l.stackTraces = false) : mm_Met l yX5_cursor cX5_cursor 3 (some .int) [] 8 144 0 sp_X5_cursor := mm_mt hl rn_X5_cursor ⟨plX5, rfl⟩ kkX5_cursor rfl ⟨Nat.le_of_ble_eq_true rfl, Nat.le_of_ble_eq_true rfl⟩ flkX5 (fun _ h => nomatch h) (⟨mm_pe (me_X5_isNoWalk hl) mwX5_isNoWalk (mm_t7 36 rfl rfl) (Nat.le_of_ble_eq_true rfl) (Nat.le_of_ble_eq_true rfl), mm_pe (me_X5_isIn hl) mwX5_isIn (mm_t6 107 rfl rfl) (Nat.le_of_ble_eq_true rfl) (Nat.le_of_ble_eq_true rfl), mm_pe (me_X5_start hl) mwX5_start (mm_t6 110 rfl rfl) (Nat.le_of_ble_eq_true rfl) (Nat.le_of_ble_eq_true rfl), mm_pe (me_X5_cornerOf hl) mwX5_cornerOf (mm_t6 185 rfl rfl) (Nat.le_of_ble_eq_true rfl) (Nat.le_of_ble_eq_true rfl), mm_pe (me_X5_act hl) mwX5_act (mm_t6 130 rfl rfl) (Nat.le_of_ble_eq_true rfl) (Nat.le_of_ble_eq_true rfl), trivial⟩) (mm_xe0 _) n9X5
theorem at_X5_cursorGo_0 : mm_at 0 kdX5_cursorGo = [(0, .aload_n 0, 0), (1, .iconst 0, 0), (2, .putfield 32, 0), (5, .aload_n 0, 0), (6, .iload_n 1, 0), (7, .invokevirtual 244, 0), (10, .ifCond .ne 8, 18), (13, .aload_n 0, 0), (14, .invokevirtual 149, 0), (17, .ireturn, 0), (18, .aload_n 0, 0), (19, .iload_n 1, 0), (20, .ifCond .eq 10, 30), (23, .aload_n 0, 0), (24, .getfield 237, 0), (27, .goto 9, 36), (30, .aload_n 0, 0), (31, .getfield 237, 0), (34, .iconst 1, 0), (35, .isub, 0), (36, .putfield 29, 0), (39, .aload_n 0, 0), (40, .iload_n 1, 0), (41, .ifCond .eq 12, 53), (44, .aload_n 0, 0), (45, .getfield 237, 0), (48, .iconst 1, 0), (49, .iadd, 0), (50, .goto 9, 59), (53, .aload_n 0, 0), (54, .getfield 237, 0), (57, .iconst 1, 0), (58, .isub, 0), (59, .putfield 237, 0), (62, .aload_n 0, 0), (63, .aload_n 0, 0), (64, .aload_n 0, 0), (65, .getfield 25, 0), (68, .aload_n 0, 0), (69, .getfield 29, 0), (72, .invokevirtual 98, 0), (75, .invokevirtual 156, 0), (78, .ireturn, 0)] := rfl
theorem at_X5_cursorGo_18 : mm_at 18 kdX5_cursorGo = [(18, .aload_n 0, 0), (19, .iload_n 1, 0), (20, .ifCond .eq 10, 30), (23, .aload_n 0, 0), (24, .getfield 237, 0), (27, .goto 9, 36), (30, .aload_n 0, 0), (31, .getfield 237, 0), (34, .iconst 1, 0), (35, .isub, 0), (36, .putfield 29, 0), (39, .aload_n 0, 0), (40, .iload_n 1, 0), (41, .ifCond .eq 12, 53), (44, .aload_n 0, 0), (45, .getfield 237, 0), (48, .iconst 1, 0), (49, .iadd, 0), (50, .goto 9, 59), (53, .aload_n 0, 0), (54, .getfield 237, 0), (57, .iconst 1, 0), (58, .isub, 0), (59, .putfield 237, 0), (62, .aload_n 0, 0), (63, .aload_n 0, 0), (64, .aload_n 0, 0), (65, .getfield 25, 0), (68, .aload_n 0, 0), (69, .getfield 29, 0), (72, .invokevirtual 98, 0), (75, .invokevirtual 156, 0), (78, .ireturn, 0)] := rfl
theorem at_X5_cursorGo_30 : mm_at 30 kdX5_cursorGo = [(30, .aload_n 0, 0), (31, .getfield 237, 0), (34, .iconst 1, 0), (35, .isub, 0), (36, .putfield 29, 0), (39, .aload_n 0, 0), (40, .iload_n 1, 0), (41, .ifCond .eq 12, 53), (44, .aload_n 0, 0), (45, .getfield 237, 0), (48, .iconst 1, 0), (49, .iadd, 0), (50, .goto 9, 59), (53, .aload_n 0, 0), (54, .getfield 237, 0), (57, .iconst 1, 0), (58, .isub, 0), (59, .putfield 237, 0), (62, .aload_n 0, 0), (63, .aload_n 0, 0), (64, .aload_n 0, 0), (65, .getfield 25, 0), (68, .aload_n 0, 0), (69, .getfield 29, 0), (72, .invokevirtual 98, 0), (75, .invokevirtual 156, 0), (78, .ireturn, 0)] := rfl
theorem at_X5_cursorGo_36 : mm_at 36 kdX5_cursorGo = [(36, .putfield 29, 0), (39, .aload_n 0, 0), (40, .iload_n 1, 0), (41, .ifCond .eq 12, 53), (44, .aload_n 0, 0), (45, .getfield 237, 0), (48, .iconst 1, 0), (49, .iadd, 0), (50, .goto 9, 59), (53, .aload_n 0, 0), (54, .getfield 237, 0), (57, .iconst 1, 0), (58, .isub, 0), (59, .putfield 237, 0), (62, .aload_n 0, 0), (63, .aload_n 0, 0), (64, .aload_n 0, 0), (65, .getfield 25, 0), (68, .aload_n 0, 0), (69, .getfield 29, 0), (72, .invokevirtual 98, 0), (75, .invokevirtual 156, 0), (78, .ireturn, 0)] := rfl
theorem at_X5_cursorGo_53 : mm_at 53 kdX5_cursorGo = [(53, .aload_n 0, 0), (54, .getfield 237, 0), (57, .iconst 1, 0), (58, .isub, 0), (59, .putfield 237, 0), (62, .aload_n 0, 0), (63, .aload_n 0, 0), (64, .aload_n 0, 0), (65, .getfield 25, 0), (68, .aload_n 0, 0), (69, .getfield 29, 0), (72, .invokevirtual 98, 0), (75, .invokevirtual 156, 0), (78, .ireturn, 0)] := rfl
theorem at_X5_cursorGo_59 : mm_at 59 kdX5_cursorGo = [(59, .putfield 237, 0), (62, .aload_n 0, 0), (63, .aload_n 0, 0), (64, .aload_n 0, 0), (65, .getfield 25, 0), (68, .aload_n 0, 0), (69, .getfield 29, 0), (72, .invokevirtual 98, 0), (75, .invokevirtual 156, 0), (78, .ireturn, 0)] := rfl
def sp_X5_cursorGo : mm_S := fun av M d Q => match av with
  | [.inr (.inr (.inl o)), .inl f] =>  o = 17 ∧ xA M ∧ (f = 0 ∨ f = 1) ∧ ∀ M' r, xP M M' → C_cursorGo f (vX M) (vX M') (M' 17 0) r → Q (.inl (some (mm_I r))) M' d
  | _ => False
def ct_X5_cursorGo : List (Nat × mm_Ca) := [(244, (0, 2, 14, sp_X5_canGo, 0)), (149, (0, 1, 14, sp_X5_cannot, 0)), (98, (0, 3, 14, sp_X5_stepOf, 0)), (156, (0, 2, 14, sp_X5_act, 0))]
abbrev rr_X5_cursorGo (Q : mm_Q) := mm_run (mm_look flX5) (mm_look ct_X5_cursorGo) mm_x0 (mm_look ([] : List (Nat × Int))) (fun _ => none) 1 0 (fun _ _ => none) Q kdX5_cursorGo
set_option maxRecDepth 20000 in
theorem rn_X5_cursorGo : mm_RN flX5 ct_X5_cursorGo mm_x0 [] 1 0 2 kdX5_cursorGo sp_X5_cursorGo := by
  intro av M d Q h
  unfold sp_X5_cursorGo at h
  split at h
  · rename_i o f
    obtain ⟨rfl, ha, hf, hq⟩ := h
    obtain ⟨M1, e0, ha1, hP1, e17, eo⟩ := xS (v := 0) ha
    have e00 : M1 17 0 = 0 := by rw [← e0]; exact x00
    have eV : vX M1 = vX M := by rw [← e0, vX_u0]
    obtain ⟨PH, ePH⟩ : ∃ PH : Prop, PH ↔ hsP (vX M1) f := ⟨_, Iff.rfl⟩
    have q9 : ¬ PH → Q (.inl (some (mm_I (-9)))) (mm_up M1 17 15 (M1 17 15 + 1)) d := fun h => hq _ (-9) (hP1.tr (xA_u (x := M1 17 15 + 1) ha1)) ⟨by rw [mm_up_ob2 (by omega)]; exact e00, vX M1, by rw [← eV]; exact Or.inl ⟨fun h2 => h (ePH.mpr h2), rfl, rfl⟩, SE.eq cX_9⟩
    obtain ⟨K, hK, hK2⟩ : ∃ K : Nat → mm_K, (∀ t ls st M d u, K t ls st M d u → rr_X5_cursorGo Q t ls st M d u) ∧ (∀ t ls st M d u, rr_X5_cursorGo Q t ls st M d u → K t ls st M d u) := ⟨rr_X5_cursorGo Q, fun _ _ _ _ _ _ h => h, fun _ _ _ _ _ _ h => h⟩
    have k62 : PH → (M1 17 10 ≠ -1 ∧ M1 17 13 = 0) → ∀ l p, (l = if f = 0 then M1 17 11 - 1 else M1 17 11) → (p = if f = 0 then M1 17 11 - 1 else M1 17 11 + 1) → (0 ≤ l ∧ l < M1 21 (M1 17 10).toNat) → (0 ≤ p ∧ p ≤ M1 21 (M1 17 10).toNat) → K 62 [some (mm_R 17), some (mm_I f)] [] (mm_up (mm_up M1 17 12 l) 17 11 p) d 0 := by
      intro hPH hc l p hl9 hp9 hl hp
      have h10 := ha1.2
      have v1 := (ha1.v (k := (M1 17 10).toNat) (by omega)).1
      obtain ⟨M2, e2⟩ : ∃ M2, M2 = mm_up (mm_up M1 17 12 l) 17 11 p := ⟨_, rfl⟩
      have e10 : M2 17 10 = M1 17 10 := by rw [e2]; simp [mm_up]
      have e11 : M2 17 11 = p := by rw [e2]; simp [mm_up]
      have e12 : M2 17 12 = l := by rw [e2]; simp [mm_up]
      have e13 : M2 17 13 = 0 := by rw [e2]; simp [mm_up]; exact hc.2
      have e21 : M2 21 = M1 21 := by rw [e2, mm_up_o _ (by omega), mm_up_o _ (by omega)]
      have hP2 : xP M1 M2 := by
        refine xP_c ha1 (by rw [e2]; exact (fX.rf.up (by omega)).up (by omega)) ?_ (by omega) (by omega) (fun _ _ => ?_)
        · rw [e2, vX_u11, vX_u12]
          exact (fr.rf.up (by simp)).up (by simp)
        · rw [e10, e11, e12, e21]
          omega
      have w1 := (hP2.a.v (k := (M1 17 10).toNat) (by omega)).2.2 l.toNat (by rw [e21]; omega)
      have t1 := hP2.a.t.1
      have ev : vX M2 = mm_up (mm_up (vX M1) 16 3 l) 16 2 p := by rw [e2, vX_u11, vX_u12]
      have ec := (vX_c0 ha1).2 hc.1
      have q0 : ∀ r, r = M2 20 (30 * (M1 17 10).toNat + l.toNat) → 0 ≤ r → Q (.inl (some (mm_I r))) (mm_up M2 17 14 (M2 17 14 + 1)) d := fun r hr hr0 => by
        refine hq _ _ (xP_ac (hP1.tr hP2)) ⟨by rw [mm_up_ob2 (by omega), e2, mm_up_ob2 (by omega), mm_up_ob2 (by omega)]; exact e00, vX M2, ?_, SE.eq (cX_n (by omega))⟩
        rw [← eV]
        refine Or.inr ⟨ePH.mp hPH, ?_, by rw [ev]; exact (fr.rf.up (by simp)).up (by simp), by rw [ev, mm_up_ob2 (by omega), mm_up_ob2 (by omega)], by rw [ev, mm_up_ob2 (by omega), mm_up_ob2 (by omega)], by rw [ev, mm_up_ob2 (by omega), mm_up_sm, hl9]; rfl, by rw [ev, mm_up_sm, hp9]; rfl⟩
        rw [ec.1, show tlP (vX M1) f = l by rw [hl9]; rfl, vX_i (by omega) (by omega), hr, e2, mm_up_o _ (by omega), mm_up_o _ (by omega)]
      rw [← e2]
      clear ev ec hq q9 hl9 hp9 ePH
      refine hK2 _ _ _ _ _ _ ?_
      refine mm_run_at (stop := []) (S := K) kkX5_cursorGo 90 ?_ (fun _ _ _ _ _ _ _ h => hK _ _ _ _ _ _ h)
      repeat' (first | with_reducible assumption | with_reducible exact mm_i17 | with_reducible exact mm_i18 | with_reducible exact mm_i19 | with_reducible exact mm_i20 | with_reducible exact mm_i21 | with_reducible exact mm_i22 | ((with_reducible show mm_rv _ _ _ _ _); first | exact True.intro | exact mm_i17 | exact mm_i18 | exact mm_i19 | exact mm_i20 | exact mm_i21 | exact mm_i22) | ((with_reducible show mm_bool _ _); first | exact True.intro | exact Or.inl rfl | exact Or.inr rfl | (show (_ : Int) = 0 ∨ _ = 1)) | refine And.intro ?_ ?_ | intro _ | with_reducible exact True.intro | exact rfl | with_reducible exact Or.inl rfl | with_reducible exact Or.inr rfl | exact Nat.le_of_ble_eq_true rfl)
      all_goals (try simp (disch := omega) only [e10, e12, InI, Int.toNat_natCast, Int.tmod_eq_emod_of_nonneg, Int.tdiv_eq_ediv_of_nonneg, true_implies, true_or, or_true, mm_l18, mm_l19, mm_l20, mm_l21, mm_l22] at *)
      all_goals first | omega | exact q0 _ rfl (by omega) | skip
    have k39 : PH → (M1 17 10 ≠ -1 ∧ M1 17 13 = 0) → ∀ l, (f = 1 → l = M1 17 11 ∧ M1 17 11 < M1 21 (M1 17 10).toNat) → (f = 0 → l = M1 17 11 - 1 ∧ 0 < M1 17 11) → K 39 [some (mm_R 17), some (mm_I f)] [] (mm_up M1 17 12 l) d 0 := by
      intro hPH hc l h1 h0
      have hp := ha1.p hc.1 hc.2
      have v1 := (ha1.v (k := (M1 17 10).toNat) (by omega)).1
      have k622 := k62 hPH hc
      clear k62 hq q9 ePH
      have e11 : mm_up M1 17 12 l 17 11 = M1 17 11 := mm_up_ob2 (by omega)
      refine hK2 _ _ _ _ _ _ ?_
      rcases hf with rfl | rfl
      · have h0' := h0 rfl
        have k6 := k622 l (M1 17 11 - 1) (by rw [if_pos rfl]; omega) (by rw [if_pos rfl]) ⟨by omega, by omega⟩ ⟨by omega, by omega⟩
        clear k622 h0 h1
        refine mm_run_at (stop := [44, 62]) (S := K) kkX5_cursorGo 90 ?_ (fun _ _ _ _ _ _ _ h => hK _ _ _ _ _ _ h)
        repeat' (first | with_reducible assumption | with_reducible exact mm_i17 | with_reducible exact mm_i18 | with_reducible exact mm_i19 | with_reducible exact mm_i20 | with_reducible exact mm_i21 | with_reducible exact mm_i22 | ((with_reducible show mm_rv _ _ _ _ _); first | exact True.intro | exact mm_i17 | exact mm_i18 | exact mm_i19 | exact mm_i20 | exact mm_i21 | exact mm_i22) | ((with_reducible show mm_bool _ _); first | exact True.intro | exact Or.inl rfl | exact Or.inr rfl | (show (_ : Int) = 0 ∨ _ = 1)) | refine And.intro ?_ ?_ | intro _ | with_reducible exact True.intro | exact rfl | with_reducible exact Or.inl rfl | with_reducible exact Or.inr rfl | exact Nat.le_of_ble_eq_true rfl)
        all_goals (try simp (disch := omega) only [e11, InI, Int.toNat_natCast, Int.tmod_eq_emod_of_nonneg, Int.tdiv_eq_ediv_of_nonneg, true_implies, true_or, or_true, mm_l18, mm_l19, mm_l20, mm_l21, mm_l22] at *)
        all_goals first | omega | exact k6 | skip
      · have h1' := h1 rfl
        have k6 := k622 l (M1 17 11 + 1) (by rw [if_neg (by omega)]; omega) (by rw [if_neg (by omega)]) ⟨by omega, by omega⟩ ⟨by omega, by omega⟩
        clear k622 h0 h1
        refine mm_run_at (stop := [53, 62]) (S := K) kkX5_cursorGo 90 ?_ (fun _ _ _ _ _ _ _ h => hK _ _ _ _ _ _ h)
        repeat' (first | with_reducible assumption | with_reducible exact mm_i17 | with_reducible exact mm_i18 | with_reducible exact mm_i19 | with_reducible exact mm_i20 | with_reducible exact mm_i21 | with_reducible exact mm_i22 | ((with_reducible show mm_rv _ _ _ _ _); first | exact True.intro | exact mm_i17 | exact mm_i18 | exact mm_i19 | exact mm_i20 | exact mm_i21 | exact mm_i22) | ((with_reducible show mm_bool _ _); first | exact True.intro | exact Or.inl rfl | exact Or.inr rfl | (show (_ : Int) = 0 ∨ _ = 1)) | refine And.intro ?_ ?_ | intro _ | with_reducible exact True.intro | exact rfl | with_reducible exact Or.inl rfl | with_reducible exact Or.inr rfl | exact Nat.le_of_ble_eq_true rfl)
        all_goals (try simp (disch := omega) only [e11, InI, Int.toNat_natCast, Int.tmod_eq_emod_of_nonneg, Int.tdiv_eq_ediv_of_nonneg, true_implies, true_or, or_true, mm_l18, mm_l19, mm_l20, mm_l21, mm_l22] at *)
        all_goals first | omega | exact k6 | skip
    have k18 : PH → (M1 17 10 ≠ -1 ∧ M1 17 13 = 0) → (f ≠ 0 → M1 17 11 < M1 21 (M1 17 10).toNat) → (f = 0 → 0 < M1 17 11) → K 18 [some (mm_R 17), some (mm_I f)] [] M1 d 0 := by
      intro hPH hc h1 h0
      have hp := ha1.p hc.1 hc.2
      have v1 := (ha1.v (k := (M1 17 10).toNat) (by omega)).1
      have k399 := k39 hPH hc
      clear k62 k39 hq q9 ePH
      refine hK2 _ _ _ _ _ _ ?_
      rcases hf with rfl | rfl
      · have h0' := h0 rfl
        have h9 := k399 (M1 17 11 - 1) (fun h => absurd h (by decide)) (fun _ => ⟨rfl, h0'⟩)
        clear k399 h0 h1
        refine mm_run_at (stop := [23, 39]) (S := K) kkX5_cursorGo 90 ?_ (fun _ _ _ _ _ _ _ h => hK _ _ _ _ _ _ h)
        repeat' (first | with_reducible assumption | with_reducible exact mm_i17 | with_reducible exact mm_i18 | with_reducible exact mm_i19 | with_reducible exact mm_i20 | with_reducible exact mm_i21 | with_reducible exact mm_i22 | ((with_reducible show mm_rv _ _ _ _ _); first | exact True.intro | exact mm_i17 | exact mm_i18 | exact mm_i19 | exact mm_i20 | exact mm_i21 | exact mm_i22) | ((with_reducible show mm_bool _ _); first | exact True.intro | exact Or.inl rfl | exact Or.inr rfl | (show (_ : Int) = 0 ∨ _ = 1)) | refine And.intro ?_ ?_ | intro _ | with_reducible exact True.intro | exact rfl | with_reducible exact Or.inl rfl | with_reducible exact Or.inr rfl | exact Nat.le_of_ble_eq_true rfl)
        all_goals (try simp (disch := omega) only [InI, Int.toNat_natCast, Int.tmod_eq_emod_of_nonneg, Int.tdiv_eq_ediv_of_nonneg, true_implies, true_or, or_true, mm_l18, mm_l19, mm_l20, mm_l21, mm_l22] at *)
        all_goals first | omega | exact h9 | skip
      · have h1' := h1 (by omega)
        have h9 := k399 (M1 17 11) (fun _ => ⟨rfl, h1'⟩) (fun h => absurd h (by decide))
        clear k399 h0 h1
        refine mm_run_at (stop := [30, 39]) (S := K) kkX5_cursorGo 90 ?_ (fun _ _ _ _ _ _ _ h => hK _ _ _ _ _ _ h)
        repeat' (first | with_reducible assumption | with_reducible exact mm_i17 | with_reducible exact mm_i18 | with_reducible exact mm_i19 | with_reducible exact mm_i20 | with_reducible exact mm_i21 | with_reducible exact mm_i22 | ((with_reducible show mm_rv _ _ _ _ _); first | exact True.intro | exact mm_i17 | exact mm_i18 | exact mm_i19 | exact mm_i20 | exact mm_i21 | exact mm_i22) | ((with_reducible show mm_bool _ _); first | exact True.intro | exact Or.inl rfl | exact Or.inr rfl | (show (_ : Int) = 0 ∨ _ = 1)) | refine And.intro ?_ ?_ | intro _ | with_reducible exact True.intro | exact rfl | with_reducible exact Or.inl rfl | with_reducible exact Or.inr rfl | exact Nat.le_of_ble_eq_true rfl)
        all_goals (try simp (disch := omega) only [InI, Int.toNat_natCast, Int.tmod_eq_emod_of_nonneg, Int.tdiv_eq_ediv_of_nonneg, true_implies, true_or, or_true, mm_l18, mm_l19, mm_l20, mm_l21, mm_l22] at *)
        all_goals first | omega | exact h9 | skip
    have k10 : ∀ r, (r = 0 ∨ r = 1) ∧ (r = 1 ↔ (M1 17 10 ≠ -1 ∧ M1 17 13 = 0 ∧ (f ≠ 0 → M1 17 11 < M1 21 (M1 17 10).toNat) ∧ (f = 0 → 0 < M1 17 11))) → K 10 [some (mm_R 17), some (mm_I f)] [mm_I r] M1 d 0 := by
      intro r ⟨hr, hr2⟩
      have k188 : r = 1 → K 18 [some (mm_R 17), some (mm_I f)] [] M1 d 0 := fun h => by
        have h2 := hr2.mp h
        exact k18 (ePH.mpr ((hsX ha1).mp h2)) ⟨h2.1, h2.2.1⟩ h2.2.2.1 h2.2.2.2
      have q99 : r = 0 → Q (.inl (some (mm_I (-9)))) (mm_up M1 17 15 (M1 17 15 + 1)) d := fun h => q9 (fun h2 => by have := hr2.mpr ((hsX ha1).mpr (ePH.mp h2)); omega)
      clear hr2 k39 k62 k18 hq q9 ePH
      refine hK2 _ _ _ _ _ _ ?_
      refine mm_run_at (stop := [18]) (S := K) kkX5_cursorGo 90 ?_ (fun _ _ _ _ _ _ _ h => hK _ _ _ _ _ _ h)
      repeat' (first | with_reducible assumption | with_reducible exact mm_i17 | with_reducible exact mm_i18 | with_reducible exact mm_i19 | with_reducible exact mm_i20 | with_reducible exact mm_i21 | with_reducible exact mm_i22 | ((with_reducible show mm_rv _ _ _ _ _); first | exact True.intro | exact mm_i17 | exact mm_i18 | exact mm_i19 | exact mm_i20 | exact mm_i21 | exact mm_i22) | ((with_reducible show mm_bool _ _); first | exact True.intro | exact Or.inl rfl | exact Or.inr rfl | (show (_ : Int) = 0 ∨ _ = 1)) | refine And.intro ?_ ?_ | intro _ | with_reducible exact True.intro | exact rfl | with_reducible exact Or.inl rfl | with_reducible exact Or.inr rfl | exact Nat.le_of_ble_eq_true rfl)
      all_goals (try simp (disch := omega) only [InI, Int.toNat_natCast, Int.tmod_eq_emod_of_nonneg, Int.tdiv_eq_ediv_of_nonneg, true_implies, true_or, or_true, mm_l18, mm_l19, mm_l20, mm_l21, mm_l22] at *)
      all_goals first | omega | exact q99 (by omega) | exact k188 (by omega) | skip
    clear k18 k39 k62 hq q9 ePH
    subst e0
    refine ⟨Nat.le_of_ble_eq_true rfl, ?_⟩
    refine mm_run_at (stop := [10]) (S := K) kkX5_cursorGo 90 ?_ (fun _ _ _ _ _ _ _ h => hK _ _ _ _ _ _ h)
    repeat' (first | with_reducible assumption | with_reducible exact mm_i17 | with_reducible exact mm_i18 | with_reducible exact mm_i19 | with_reducible exact mm_i20 | with_reducible exact mm_i21 | with_reducible exact mm_i22 | ((with_reducible show mm_rv _ _ _ _ _); first | exact True.intro | exact mm_i17 | exact mm_i18 | exact mm_i19 | exact mm_i20 | exact mm_i21 | exact mm_i22) | ((with_reducible show mm_bool _ _); first | exact True.intro | exact Or.inl rfl | exact Or.inr rfl | (show (_ : Int) = 0 ∨ _ = 1)) | refine And.intro ?_ ?_ | intro _ | with_reducible exact True.intro | exact rfl | with_reducible exact Or.inl rfl | with_reducible exact Or.inr rfl | exact Nat.le_of_ble_eq_true rfl)
    all_goals (try simp (disch := omega) only [InI, Int.toNat_natCast, Int.tmod_eq_emod_of_nonneg, Int.tdiv_eq_ediv_of_nonneg, true_implies, true_or, or_true, mm_l18, mm_l19, mm_l20, mm_l21, mm_l22] at *)
    all_goals first | omega | exact k10 _ (by assumption) | skip
  · exact h.elim
theorem me_X5_cursorGo {l : Launch} (hl : l.stackTraces = false) : mm_Met l yX5_cursorGo cX5_cursorGo 2 (some .int) [] 8 141 0 sp_X5_cursorGo := mm_mt hl rn_X5_cursorGo ⟨plX5, rfl⟩ kkX5_cursorGo rfl ⟨Nat.le_of_ble_eq_true rfl, Nat.le_of_ble_eq_true rfl⟩ flkX5 (fun _ h => nomatch h) (⟨mm_pe (me_X5_canGo hl) mwX5_canGo (mm_t7 215 rfl rfl) (Nat.le_of_ble_eq_true rfl) (Nat.le_of_ble_eq_true rfl), mm_pe (me_X5_cannot hl) mwX5_cannot (mm_t6 118 rfl rfl) (Nat.le_of_ble_eq_true rfl) (Nat.le_of_ble_eq_true rfl), mm_pe (me_X5_stepOf hl) mwX5_stepOf (mm_t6 158 rfl rfl) (Nat.le_of_ble_eq_true rfl) (Nat.le_of_ble_eq_true rfl), mm_pe (me_X5_act hl) mwX5_act (mm_t6 130 rfl rfl) (Nat.le_of_ble_eq_true rfl) (Nat.le_of_ble_eq_true rfl), trivial⟩) (mm_xe0 _) n9X5
end
