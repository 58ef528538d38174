/-! the model: is all so; digest -/
theorem all_in {n : Nat} : ∀ r : Int, r = 2 ^ n - 1 ∧ 0 ≤ r ∧ r < 1073741824 → ∀ k, bt r k = 1 → k < n := fun r h k hk => all_sub k (by rw [← h.1]; exact hk)
/-- what asking leaves: but the fourth walk -/
def xQ (M M' : mm_M) : Prop := xP M M' ∧ fr [14, 15] (vX M) (vX M')
theorem xQ.tr {M M' M'' : mm_M} (h : xQ M M') (h2 : xQ M' M'') : xQ M M'' := ⟨h.1.tr h2.1, h.2.tr h2.2⟩
theorem xA.rfq {M : mm_M} (h : xA M) : xQ M M := ⟨h.rf, fr.rf⟩
theorem xQ_s {M : mm_M} {v : Int} (h : xA M) : xQ M (mm_up M 17 0 v) := ⟨xP_s h, by rw [vX_u0]; exact fr.rf⟩
theorem xQ.se {M M' : mm_M} (h : xQ M M') : SE (vX M) (vX M') := .scr (h.2.mono (by simp))
def nxc (V : mm_M) (w n i : Nat) : Int := if i = n then cor V w n else sr V (V (w + 1) i)
def okb (V : mm_M) (s : Int) : Prop := s % 2 = 1 → (V 2 5 = 0 ∧ V 3 (s / 2).toNat ≠ V 4 (s / 2).toNat)
theorem lv_ok {V : mm_M} {s c : Int} (h0 : 0 ≤ s) (h : sr V s = c) (ho : okb V s) : lv V (s / 2) c = s := by
  unfold sr at h
  unfold lv
  by_cases e : s % 2 = 0
  · rw [if_pos e] at h
    rw [if_pos h]
    omega
  · rw [if_neg e] at h
    have h2 := ho (by omega)
    rw [if_neg (fun h3 => h2.2 (h3.trans h.symm)), if_pos ⟨h2.1, h⟩]
    omega
theorem tw_ok {V : mm_M} {w i : Nat} (h : TWk V w) (hv : wV V w) (hi : (i : Int) < V w 2) : sr V (V (w + 1) i) = cor V w i ∧ okb V (V (w + 1) i) := by
  have h5 := hv.2.2 i hi
  have h6 := h i hi
  have h7 := lv_sr (V := V) (s := V (w + 1) i / 2) (c := cor V w i) (by omega) (by rw [h6]; omega)
  rw [h6] at h7
  refine ⟨h7, fun ho => ?_⟩
  unfold lv at h6
  by_cases a : V 3 (V (w + 1) i / 2).toNat = cor V w i
  · rw [if_pos a] at h6
    omega
  · rw [if_neg a] at h6
    by_cases b : V 2 5 = 0 ∧ V 4 (V (w + 1) i / 2).toNat = cor V w i
    · exact ⟨b.1, fun e => a (e.trans b.2)⟩
    · rw [if_neg b] at h6
      omega
theorem nxc_tw {V : mm_M} {w n i : Nat} (h : TWk V w) (hv : wV V w) (hn : V w 2 = n) (hi : i ≤ n) : nxc V w n i = cor V w i := by
  unfold nxc
  by_cases e : i = n
  · rw [if_pos e, e]
  · rw [if_neg e]
    exact (tw_ok h hv (by omega)).1
theorem at_X5_isWalk_0 : mm_at 0 kdX5_isWalk = [(0, .aload_n 0, 0), (1, .iload_n 1, 0), (2, .invokevirtual 108, 0), (5, .istore_n 2, 0), (6, .aload_n 0, 0), (7, .getfield 19, 0), (10, .iload_n 1, 0), (11, .iaload, 0), (12, .iconst 1, 0), (13, .isub, 0), (14, .istore_n 3, 0), (15, .iload_n 3, 0), (16, .ifCond .lt 98, 114), (19, .aload_n 0, 0), (20, .iload_n 1, 0), (21, .iload_n 3, 0), (22, .invokevirtual 98, 0), (25, .istore 4, 0), (27, .iload 4, 0), (29, .iconst 2, 0), (30, .idiv, 0), (31, .aload_n 0, 0), (32, .getfield 49, 0), (35, .if_icmp .ge 26, 61), (38, .aload_n 0, 0), (39, .iload 4, 0), (41, .invokevirtual 102, 0), (44, .iload_n 2, 0), (45, .if_icmp .ne 16, 61), (48, .aload_n 0, 0), (49, .iload_n 1, 0), (50, .iload 4, 0), (52, .iconst 2, 0), (53, .idiv, 0), (54, .invokevirtual 165, 0), (57, .iload_n 3, 0), (58, .if_icmp .eq 5, 63), (61, .iconst 0, 0), (62, .ireturn, 0), (63, .iload 4, 0), (65, .iconst 2, 0), (66, .irem, 0), (67, .iconst 1, 0), (68, .if_icmp .ne 33, 101), (71, .aload_n 0, 0), (72, .getfield 60, 0), (75, .ifCond .ne 24, 99), (78, .aload_n 0, 0), (79, .getfield 9, 0), (82, .iload 4, 0), (84, .iconst 2, 0), (85, .idiv, 0), (86, .iaload, 0), (87, .aload_n 0, 0), (88, .getfield 13, 0), (91, .iload 4, 0), (93, .iconst 2, 0), (94, .idiv, 0), (95, .iaload, 0), (96, .if_icmp .ne 5, 101), (99, .iconst 0, 0), (100, .ireturn, 0), (101, .aload_n 0, 0), (102, .iload 4, 0), (104, .invokevirtual 187, 0), (107, .istore_n 2, 0), (108, .iinc 3 (-1), 0), (111, .goto (-96), 15), (114, .iload_n 2, 0), (115, .aload_n 0, 0), (116, .getfield 22, 0), (119, .iload_n 1, 0), (120, .iaload, 0), (121, .if_icmp .ne 7, 128), (124, .iconst 1, 0), (125, .goto 4, 129), (128, .iconst 0, 0), (129, .ireturn, 0)] := rfl
theorem at_X5_isWalk_15 : mm_at 15 kdX5_isWalk = [(15, .iload_n 3, 0), (16, .ifCond .lt 98, 114), (19, .aload_n 0, 0), (20, .iload_n 1, 0), (21, .iload_n 3, 0), (22, .invokevirtual 98, 0), (25, .istore 4, 0), (27, .iload 4, 0), (29, .iconst 2, 0), (30, .idiv, 0), (31, .aload_n 0, 0), (32, .getfield 49, 0), (35, .if_icmp .ge 26, 61), (38, .aload_n 0, 0), (39, .iload 4, 0), (41, .invokevirtual 102, 0), (44, .iload_n 2, 0), (45, .if_icmp .ne 16, 61), (48, .aload_n 0, 0), (49, .iload_n 1, 0), (50, .iload 4, 0), (52, .iconst 2, 0), (53, .idiv, 0), (54, .invokevirtual 165, 0), (57, .iload_n 3, 0), (58, .if_icmp .eq 5, 63), (61, .iconst 0, 0), (62, .ireturn, 0), (63, .iload 4, 0), (65, .iconst 2, 0), (66, .irem, 0), (67, .iconst 1, 0), (68, .if_icmp .ne 33, 101), (71, .aload_n 0, 0), (72, .getfield 60, 0), (75, .ifCond .ne 24, 99), (78, .aload_n 0, 0), (79, .getfield 9, 0), (82, .iload 4, 0), (84, .iconst 2, 0), (85, .idiv, 0), (86, .iaload, 0), (87, .aload_n 0, 0), (88, .getfield 13, 0), (91, .iload 4, 0), (93, .iconst 2, 0), (94, .idiv, 0), (95, .iaload, 0), (96, .if_icmp .ne 5, 101), (99, .iconst 0, 0), (100, .ireturn, 0), (101, .aload_n 0, 0), (102, .iload 4, 0), (104, .invokevirtual 187, 0), (107, .istore_n 2, 0), (108, .iinc 3 (-1), 0), (111, .goto (-96), 15), (114, .iload_n 2, 0), (115, .aload_n 0, 0), (116, .getfield 22, 0), (119, .iload_n 1, 0), (120, .iaload, 0), (121, .if_icmp .ne 7, 128), (124, .iconst 1, 0), (125, .goto 4, 129), (128, .iconst 0, 0), (129, .ireturn, 0)] := rfl
theorem at_X5_isWalk_61 : mm_at 61 kdX5_isWalk = [(61, .iconst 0, 0), (62, .ireturn, 0), (63, .iload 4, 0), (65, .iconst 2, 0), (66, .irem, 0), (67, .iconst 1, 0), (68, .if_icmp .ne 33, 101), (71, .aload_n 0, 0), (72, .getfield 60, 0), (75, .ifCond .ne 24, 99), (78, .aload_n 0, 0), (79, .getfield 9, 0), (82, .iload 4, 0), (84, .iconst 2, 0), (85, .idiv, 0), (86, .iaload, 0), (87, .aload_n 0, 0), (88, .getfield 13, 0), (91, .iload 4, 0), (93, .iconst 2, 0), (94, .idiv, 0), (95, .iaload, 0), (96, .if_icmp .ne 5, 101), (99, .iconst 0, 0), (100, .ireturn, 0), (101, .aload_n 0, 0), (102, .iload 4, 0), (104, .invokevirtual 187, 0), (107, .istore_n 2, 0), (108, .iinc 3 (-1), 0), (111, .goto (-96), 15), (114, .iload_n 2, 0), (115, .aload_n 0, 0), (116, .getfield 22, 0), (119, .iload_n 1, 0), (120, .iaload, 0), (121, .if_icmp .ne 7, 128), (124, .iconst 1, 0), (125, .goto 4, 129), (128, .iconst 0, 0), (129, .ireturn, 0)] := rfl
theorem at_X5_isWalk_63 : mm_at 63 kdX5_isWalk = [(63, .iload 4, 0), (65, .iconst 2, 0), (66, .irem, 0), (67, .iconst 1, 0), (68, .if_icmp .ne 33, 101), (71, .aload_n 0, 0), (72, .getfield 60, 0), (75, .ifCond .ne 24, 99), (78, .aload_n 0, 0), (79, .getfield 9, 0), (82, .iload 4, 0), (84, .iconst 2, 0), (85, .idiv, 0), (86, .iaload, 0), (87, .aload_n 0, 0), (88, .getfield 13, 0), (91, .iload 4, 0), (93, .iconst 2, 0), (94, .idiv, 0), (95, .iaload, 0), (96, .if_icmp .ne 5, 101), (99, .iconst 0, 0), (100, .ireturn, 0), (101, .aload_n 0, 0), (102, .iload 4, 0), (104, .invokevirtual 187, 0), (107, .istore_n 2, 0), (108, .iinc 3 (-1), 0), (111, .goto (-96), 15), (114, .iload_n 2, 0), (115, .aload_n 0, 0), (116, .getfield 22, 0), (119, .iload_n 1, 0), (120, .iaload, 0), (121, .if_icmp .ne 7, 128), (124, .iconst 1, 0), (125, .goto 4, 129), (128, .iconst 0, 0), (129, .ireturn, 0)] := rfl
theorem at_X5_isWalk_99 : mm_at 99 kdX5_isWalk = [(99, .iconst 0, 0), (100, .ireturn, 0), (101, .aload_n 0, 0), (102, .iload 4, 0), (104, .invokevirtual 187, 0), (107, .istore_n 2, 0), (108, .iinc 3 (-1), 0), (111, .goto (-96), 15), (114, .iload_n 2, 0), (115, .aload_n 0, 0), (116, .getfield 22, 0), (119, .iload_n 1, 0), (120, .iaload, 0), (121, .if_icmp .ne 7, 128), (124, .iconst 1, 0), (125, .goto 4, 129), (128, .iconst 0, 0), (129, .ireturn, 0)] := rfl
theorem at_X5_isWalk_101 : mm_at 101 kdX5_isWalk = [(101, .aload_n 0, 0), (102, .iload 4, 0), (104, .invokevirtual 187, 0), (107, .istore_n 2, 0), (108, .iinc 3 (-1), 0), (111, .goto (-96), 15), (114, .iload_n 2, 0), (115, .aload_n 0, 0), (116, .getfield 22, 0), (119, .iload_n 1, 0), (120, .iaload, 0), (121, .if_icmp .ne 7, 128), (124, .iconst 1, 0), (125, .goto 4, 129), (128, .iconst 0, 0), (129, .ireturn, 0)] := rfl
theorem at_X5_isWalk_114 : mm_at 114 kdX5_isWalk = [(114, .iload_n 2, 0), (115, .aload_n 0, 0), (116, .getfield 22, 0), (119, .iload_n 1, 0), (120, .iaload, 0), (121, .if_icmp .ne 7, 128), (124, .iconst 1, 0), (125, .goto 4, 129), (128, .iconst 0, 0), (129, .ireturn, 0)] := rfl
theorem at_X5_isWalk_128 : mm_at 128 kdX5_isWalk = [(128, .iconst 0, 0), (129, .ireturn, 0)] := rfl
theorem at_X5_isWalk_129 : mm_at 129 kdX5_isWalk = [(129, .ireturn, 0)] := rfl
def sp_X5_isWalk : mm_S := fun av M d Q => match av with
  | [.inr (.inr (.inl o)), .inl a] =>  o = 17 ∧ xA M ∧ (0 ≤ a ∧ a < 3) ∧ ∀ r, (r = 0 ∨ r = 1) ∧ (r = 1 ↔ TWk (vX M) (8 + 2 * a.toNat)) → Q (.inl (some (mm_I r))) M d
  | _ => False
def ct_X5_isWalk : List (Nat × mm_Ca) := [(108, (0, 2, 14, sp_X5_endOf, 0)), (98, (0, 3, 14, sp_X5_stepOf, 0)), (102, (0, 2, 14, sp_X5_comesTo, 0)), (165, (0, 3, 14, sp_X5_placeOf, 0)), (187, (0, 2, 14, sp_X5_goesFrom, 0))]
abbrev rr_X5_isWalk (Q : mm_Q) := mm_run (mm_look flX5) (mm_look ct_X5_isWalk) mm_x0 (mm_look ([] : List (Nat × Int))) (fun _ => none) 2 0 (fun _ _ => none) Q kdX5_isWalk
set_option maxRecDepth 20000 in
theorem lp_X5_isWalk {M : mm_M} {d : List Nat} {Q : mm_Q} {k n : Nat} (hk : k < 3) (ha : xA M) (hn : M 21 k = n) (hq : ∀ r, (r = 0 ∨ r = 1) ∧ (r = 1 ↔ TWk (vX M) (8 + 2 * k)) → Q (.inl (some (mm_I r))) M d) : ∀ (j : Nat) (c : Int) (x4 : Option mm_V), j ≤ n → (0 ≤ c ∧ c < 10) → c = nxc (vX M) (8 + 2 * k) n j → (∀ i : Nat, j ≤ i → i < n → gl (vX M) (vX M (8 + 2 * k + 1) i) = nxc (vX M) (8 + 2 * k) n (i + 1) ∧ okb (vX M) (vX M (8 + 2 * k + 1) i)) → rr_X5_isWalk Q 15 [some (mm_R 17), some (mm_I k), some (mm_I c), some (mm_I ((j : Int) - 1)), x4] [] M d 0 := by
  have ht := ha.t
  have t1 := ht.1
  have mv := ha.v hk
  have v1 := mv.1
  have v2 := mv.2.1
  have hb := xA_b ha
  have wv := (mV_i (show k < 4 by omega)).mp mv
  have en := vX_n (M := M) (show k < 4 by omega)
  have eb := vX_b (M := M) (show k < 4 by omega)
  have hnn : vX M (8 + 2 * k) 2 = n := by rw [en]; exact hn
  have hD := ha.d hk
  have qF : ¬ TWk (vX M) (8 + 2 * k) → Q (.inl (some (mm_I 0))) M d := fun h => hq 0 ⟨Or.inl rfl, fun h2 => by omega, fun h2 => absurd h2 h⟩
  intro j
  induction j with
  | zero =>
    intro c x4 hj hc hcc hG
    have q0 : c ≠ M 22 k → Q (.inl (some (mm_I 0))) M d := fun h => qF (fun hT => h (by rw [hcc, nxc_tw hT wv hnn (by omega), ← eb]; exact cor_0))
    have q1 : c = M 22 k → Q (.inl (some (mm_I 1))) M d := fun h => hq 1 ⟨Or.inr rfl, fun _ => (fun i hi => by
      have hs : sr (vX M) (vX M (8 + 2 * k + 1) i) = cor (vX M) (8 + 2 * k) i := by
        cases i with
        | zero =>
          have h9 := hcc
          unfold nxc at h9
          rw [if_neg (by omega), h, ← eb] at h9
          rw [← h9]
          exact cor_0.symm
        | succ i =>
          have h9 := (hG i (by omega) (by omega)).1
          unfold nxc at h9
          rw [if_neg (by omega)] at h9
          rw [← h9, show ((i + 1 : Nat) : Int) = (i : Int) + 1 by omega, cor_s (by omega)]
      exact lv_ok (wv.2.2 i hi).1 hs (hG i (by omega) (by omega)).2), fun _ => rfl⟩
    clear hq qF hG hcc
    obtain ⟨K, hK, hK2⟩ : ∃ K : Nat → mm_K, (∀ t ls st M d u, K t ls st M d u → rr_X5_isWalk Q t ls st M d u) ∧ (∀ t ls st M d u, rr_X5_isWalk Q t ls st M d u → K t ls st M d u) := ⟨rr_X5_isWalk Q, fun _ _ _ _ _ _ h => h, fun _ _ _ _ _ _ h => h⟩
    refine mm_run_at (stop := [19]) (S := K) kkX5_isWalk 90 ?_ (fun _ _ _ _ _ _ _ h => hK _ _ _ _ _ _ h)
    repeat' (first | with_reducible assumption | with_reducible exact mm_i17 | with_reducible exact mm_i18 | with_reducible exact mm_i19 | with_reducible exact mm_i20 | with_reducible exact mm_i21 | with_reducible exact mm_i22 | ((with_reducible show mm_rv _ _ _ _ _); first | exact True.intro | exact mm_i17 | exact mm_i18 | exact mm_i19 | exact mm_i20 | exact mm_i21 | exact mm_i22) | ((with_reducible show mm_bool _ _); first | exact True.intro | exact Or.inl rfl | exact Or.inr rfl | (show (_ : Int) = 0 ∨ _ = 1)) | refine And.intro ?_ ?_ | intro _ | with_reducible exact True.intro | exact rfl | with_reducible exact Or.inl rfl | with_reducible exact Or.inr rfl | exact Nat.le_of_ble_eq_true rfl)
    all_goals (try simp (disch := omega) only [InI, Int.toNat_natCast, Int.tmod_eq_emod_of_nonneg, Int.tdiv_eq_ediv_of_nonneg, true_implies, true_or, or_true, mm_l18, mm_l19, mm_l20, mm_l21, mm_l22] at *)
    all_goals first | omega | exact q0 (by omega) | exact q1 (by omega) | skip
  | succ j ih =>
    intro c x4 hj hc hcc hG
    have e9 : ((j + 1 : Nat) : Int) - 1 = j := by omega
    rw [e9]
    obtain ⟨st, est⟩ : ∃ st, st = M 20 (30 * k + j) := ⟨_, rfl⟩
    have esv : vX M (8 + 2 * k + 1) j = st := by rw [vX_i (by omega) (by omega), est]
    have w1 := mv.2.2 j (by omega)
    rw [← est] at w1
    have b1 := ht.2.1 (st / 2).toNat (by omega)
    obtain ⟨K, hK, hK2⟩ : ∃ K : Nat → mm_K, (∀ t ls st M d u, K t ls st M d u → rr_X5_isWalk Q t ls st M d u) ∧ (∀ t ls st M d u, rr_X5_isWalk Q t ls st M d u → K t ls st M d u) := ⟨rr_X5_isWalk Q, fun _ _ _ _ _ _ h => h, fun _ _ _ _ _ _ h => h⟩
    have qa : glX M st ≠ c → Q (.inl (some (mm_I 0))) M d := fun h => qF (fun hT => h (by
      rw [hcc, nxc_tw hT wv hnn (by omega), show ((j + 1 : Nat) : Int) = (j : Int) + 1 by omega, cor_s (by omega), esv, gl_v]))
    have qc : st % 2 = 1 → ¬ (M 17 4 = 0 ∧ M 18 (st / 2).toNat ≠ M 19 (st / 2).toNat) → Q (.inl (some (mm_I 0))) M d := fun h h2 => qF (fun hT => by
      have h3 := (tw_ok (i := j) hT wv (by omega)).2
      rw [esv] at h3
      exact h2 (h3 h))
    have nx : glX M st = c → okb (vX M) st → ∀ c' x4, (c' = srX M st ∧ 0 ≤ c' ∧ c' < 10) → K 15 [some (mm_R 17), some (mm_I k), some (mm_I c'), some (mm_I ((j : Int) - 1)), x4] [] M d 0 := fun hgl hok c' x4 hc' => hK2 _ _ _ _ _ _ (ih c' x4 (by omega) hc'.2 (by
      unfold nxc
      rw [if_neg (by omega), esv, hc'.1, sr_v]) (fun i hi1 hi2 => by
      by_cases e : i = j
      · rw [e, esv]
        exact ⟨by rw [← gl_v, hgl]; exact hcc, hok⟩
      · exact hG i (by omega) hi2))
    have k101 : glX M st = c → okb (vX M) st → K 101 [some (mm_R 17), some (mm_I k), some (mm_I c), some (mm_I j), some (mm_I st)] [] M d 0 := by
      intro h1 h2
      have nx1 := nx h1 h2
      clear nx qa qc qF hq ih hG hcc h2
      refine hK2 _ _ _ _ _ _ ?_
      refine mm_run_at (stop := [15]) (S := K) kkX5_isWalk 90 ?_ (fun _ _ _ _ _ _ _ h => hK _ _ _ _ _ _ h)
      repeat' (first | with_reducible assumption | with_reducible exact mm_i17 | with_reducible exact mm_i18 | with_reducible exact mm_i19 | with_reducible exact mm_i20 | with_reducible exact mm_i21 | with_reducible exact mm_i22 | ((with_reducible show mm_rv _ _ _ _ _); first | exact True.intro | exact mm_i17 | exact mm_i18 | exact mm_i19 | exact mm_i20 | exact mm_i21 | exact mm_i22) | ((with_reducible show mm_bool _ _); first | exact True.intro | exact Or.inl rfl | exact Or.inr rfl | (show (_ : Int) = 0 ∨ _ = 1)) | refine And.intro ?_ ?_ | intro _ | with_reducible exact True.intro | exact rfl | with_reducible exact Or.inl rfl | with_reducible exact Or.inr rfl | exact Nat.le_of_ble_eq_true rfl)
      all_goals (try simp (disch := omega) only [InI, Int.toNat_natCast, Int.tmod_eq_emod_of_nonneg, Int.tdiv_eq_ediv_of_nonneg, true_implies, true_or, or_true, mm_l18, mm_l19, mm_l20, mm_l21, mm_l22] at *)
      all_goals first | omega | exact nx1 _ _ (by assumption) | skip
    have k63 : glX M st = c → K 63 [some (mm_R 17), some (mm_I k), some (mm_I c), some (mm_I j), some (mm_I st)] [] M d 0 := by
      intro h1
      have kA : st % 2 ≠ 1 → _ := fun h => k101 h1 (fun h2 => absurd h2 h)
      have kB : st % 2 = 1 → M 17 4 = 0 → M 18 (st / 2).toNat ≠ M 19 (st / 2).toNat → _ := fun _ h2 h3 => k101 h1 (fun _ => ⟨h2, h3⟩)
      have qc1 : st % 2 = 1 → M 17 4 ≠ 0 → _ := fun h h2 => qc h (fun h3 => h2 h3.1)
      have qc2 : st % 2 = 1 → M 18 (st / 2).toNat = M 19 (st / 2).toNat → _ := fun h h2 => qc h (fun h3 => h3.2 h2)
      clear nx qa qc qF hq ih hG hcc k101
      refine hK2 _ _ _ _ _ _ ?_
      refine mm_run_at (stop := [101]) (S := K) kkX5_isWalk 90 ?_ (fun _ _ _ _ _ _ _ h => hK _ _ _ _ _ _ h)
      repeat' (first | with_reducible assumption | with_reducible exact mm_i17 | with_reducible exact mm_i18 | with_reducible exact mm_i19 | with_reducible exact mm_i20 | with_reducible exact mm_i21 | with_reducible exact mm_i22 | ((with_reducible show mm_rv _ _ _ _ _); first | exact True.intro | exact mm_i17 | exact mm_i18 | exact mm_i19 | exact mm_i20 | exact mm_i21 | exact mm_i22) | ((with_reducible show mm_bool _ _); first | exact True.intro | exact Or.inl rfl | exact Or.inr rfl | (show (_ : Int) = 0 ∨ _ = 1)) | refine And.intro ?_ ?_ | intro _ | with_reducible exact True.intro | exact rfl | with_reducible exact Or.inl rfl | with_reducible exact Or.inr rfl | exact Nat.le_of_ble_eq_true rfl)
      all_goals (try simp (disch := omega) only [InI, Int.toNat_natCast, Int.tmod_eq_emod_of_nonneg, Int.tdiv_eq_ediv_of_nonneg, true_implies, true_or, or_true, mm_l18, mm_l19, mm_l20, mm_l21, mm_l22] at *)
      all_goals first | omega | exact kA (by omega) | exact qc1 (by omega) (by omega) | exact qc2 (by omega) (by omega) | exact kB (by omega) (by omega) (by omega) | skip
    have k27 : K 27 [some (mm_R 17), some (mm_I k), some (mm_I c), some (mm_I j), some (mm_I st)] [] M d 0 := by
      have hpl : ∀ r, ((r = -1 ∧ ∀ i : Nat, i < M 21 k → M 20 (30 * k + i) / 2 ≠ st / 2) ∨ (0 ≤ r ∧ r < M 21 k ∧ M 20 (30 * k + r.toNat) / 2 = st / 2 ∧ ∀ i : Nat, i < r → M 20 (30 * k + i) / 2 ≠ st / 2)) → r = j := fun r h => by
        rcases h with ⟨_, h⟩ | ⟨g1, g2, g3, _⟩
        · exact absurd (by rw [est]) (h j (by omega))
        · have := hD r.toNat j (by omega) (by omega) (by rw [vX_i (by omega) (by omega), esv]; exact g3)
          omega
      clear nx qc qF hq ih hG hcc k101
      refine hK2 _ _ _ _ _ _ ?_
      refine mm_run_at (stop := [63]) (S := K) kkX5_isWalk 90 ?_ (fun _ _ _ _ _ _ _ h => hK _ _ _ _ _ _ h)
      repeat' (first | with_reducible assumption | with_reducible exact mm_i17 | with_reducible exact mm_i18 | with_reducible exact mm_i19 | with_reducible exact mm_i20 | with_reducible exact mm_i21 | with_reducible exact mm_i22 | ((with_reducible show mm_rv _ _ _ _ _); first | exact True.intro | exact mm_i17 | exact mm_i18 | exact mm_i19 | exact mm_i20 | exact mm_i21 | exact mm_i22 | ((with_reducible show mV _ _); exact mv)) | ((with_reducible show mV _ _); exact mv) | ((with_reducible show mm_bool _ _); first | exact True.intro | exact Or.inl rfl | exact Or.inr rfl | (show (_ : Int) = 0 ∨ _ = 1)) | refine And.intro ?_ ?_ | intro _ | with_reducible exact True.intro | exact rfl | with_reducible exact Or.inl rfl | with_reducible exact Or.inr rfl | exact Nat.le_of_ble_eq_true rfl)
      all_goals (try simp (disch := omega) only [InI, Int.toNat_natCast, Int.tmod_eq_emod_of_nonneg, Int.tdiv_eq_ediv_of_nonneg, true_implies, true_or, or_true, mm_l18, mm_l19, mm_l20, mm_l21, mm_l22] at *)
      all_goals first | omega | exact qa (by omega) | exact k63 (by omega) | exact absurd (hpl _ (by assumption)) (by omega) | skip
    rw [est] at k27 w1
    have e6 : (30 * (k : Int).toNat + (j : Int).toNat) = 30 * k + j := by omega
    clear nx k101 k63 ih qa qc qF hq hG hcc esv
    refine mm_run_at (stop := [27, 114]) (S := K) kkX5_isWalk 90 ?_ (fun _ _ _ _ _ _ _ h => hK _ _ _ _ _ _ h)
    repeat' (first | with_reducible assumption | with_reducible exact mm_i17 | with_reducible exact mm_i18 | with_reducible exact mm_i19 | with_reducible exact mm_i20 | with_reducible exact mm_i21 | with_reducible exact mm_i22 | ((with_reducible show mm_rv _ _ _ _ _); first | exact True.intro | exact mm_i17 | exact mm_i18 | exact mm_i19 | exact mm_i20 | exact mm_i21 | exact mm_i22) | ((with_reducible show mm_bool _ _); first | exact True.intro | exact Or.inl rfl | exact Or.inr rfl | (show (_ : Int) = 0 ∨ _ = 1)) | refine And.intro ?_ ?_ | intro _ | with_reducible exact True.intro | exact rfl | with_reducible exact Or.inl rfl | with_reducible exact Or.inr rfl | exact Nat.le_of_ble_eq_true rfl)
    all_goals (try simp (disch := omega) only [e6, InI, Int.toNat_natCast, Int.tmod_eq_emod_of_nonneg, Int.tdiv_eq_ediv_of_nonneg, true_implies, true_or, or_true, mm_l18, mm_l19, mm_l20, mm_l21, mm_l22] at *)
    all_goals first | omega | exact k27 | skip
set_option maxRecDepth 20000 in
theorem rn_X5_isWalk : mm_RN flX5 ct_X5_isWalk mm_x0 [] 2 0 5 kdX5_isWalk sp_X5_isWalk := by
  intro av M d Q h
  unfold sp_X5_isWalk at h
  split at h
  · rename_i o a
    obtain ⟨rfl, ha, hk, hq⟩ := h
    obtain ⟨k, rfl⟩ := Int.eq_ofNat_of_zero_le hk.1
    have hk3 : k < 3 := by omega
    have ht := ha.t
    have mv := ha.v hk3
    have v1 := mv.1
    obtain ⟨n, hn⟩ := Int.eq_ofNat_of_zero_le v1.1
    have hnn : vX M (8 + 2 * k) 2 = n := by rw [vX_n (by omega)]; exact hn
    obtain ⟨K, hK, hK2⟩ : ∃ K : Nat → mm_K, (∀ t ls st M d u, K t ls st M d u → rr_X5_isWalk Q t ls st M d u) ∧ (∀ t ls st M d u, rr_X5_isWalk Q t ls st M d u → K t ls st M d u) := ⟨rr_X5_isWalk Q, fun _ _ _ _ _ _ h => h, fun _ _ _ _ _ _ h => h⟩
    have k15 := fun c hc hcc => hK2 _ _ _ _ _ _ (lp_X5_isWalk (d := d) (Q := Q) hk3 ha hn hq n c none (Nat.le_refl _) hc hcc (fun i h1 h2 => by omega))
    have k155 : ∀ c, (c = cor (vX M) (8 + 2 * k) (vX M (8 + 2 * k) 2) ∧ 0 ≤ c ∧ c < 10) → _ := fun c hc => k15 c hc.2 (by unfold nxc; rw [if_pos rfl, ← hnn]; exact hc.1)
    clear k15 hq
    rw [← hn] at k155
    refine ⟨Nat.le_of_ble_eq_true rfl, ?_⟩
    refine mm_run_at (stop := [15]) (S := K) kkX5_isWalk 90 ?_ (fun _ _ _ _ _ _ _ h => hK _ _ _ _ _ _ h)
    repeat' (first | with_reducible assumption | with_reducible exact mm_i17 | with_reducible exact mm_i18 | with_reducible exact mm_i19 | with_reducible exact mm_i20 | with_reducible exact mm_i21 | with_reducible exact mm_i22 | ((with_reducible show mm_rv _ _ _ _ _); first | exact True.intro | exact mm_i17 | exact mm_i18 | exact mm_i19 | exact mm_i20 | exact mm_i21 | exact mm_i22 | ((with_reducible show mV _ _); exact mv)) | ((with_reducible show mV _ _); exact mv) | ((with_reducible show mm_bool _ _); first | exact True.intro | exact Or.inl rfl | exact Or.inr rfl | (show (_ : Int) = 0 ∨ _ = 1)) | refine And.intro ?_ ?_ | intro _ | with_reducible exact True.intro | exact rfl | with_reducible exact Or.inl rfl | with_reducible exact Or.inr rfl | exact Nat.le_of_ble_eq_true rfl)
    all_goals (try simp (disch := omega) only [InI, Int.toNat_natCast, Int.tmod_eq_emod_of_nonneg, Int.tdiv_eq_ediv_of_nonneg, true_implies, true_or, or_true, mm_l18, mm_l19, mm_l20, mm_l21, mm_l22] at *)
    all_goals first | omega | exact k155 _ (by assumption) | skip
  · exact h.elim
theorem me_X5_isWalk {l : Launch} (hl : l.stackTraces = false) : mm_Met l yX5_isWalk cX5_isWalk 5 (some .boolean) [] 9 165 0 sp_X5_isWalk := mm_mt hl rn_X5_isWalk ⟨plX5, rfl⟩ kkX5_isWalk rfl ⟨Nat.le_of_ble_eq_true rfl, Nat.le_of_ble_eq_true rfl⟩ flkX5 (fun _ h => nomatch h) (⟨mm_pe (me_X5_endOf hl) mwX5_endOf (mm_t6 181 rfl rfl) (Nat.le_of_ble_eq_true rfl) (Nat.le_of_ble_eq_true rfl), mm_pe (me_X5_stepOf hl) mwX5_stepOf (mm_t6 158 rfl rfl) (Nat.le_of_ble_eq_true rfl) (Nat.le_of_ble_eq_true rfl), mm_pe (me_X5_comesTo hl) mwX5_comesTo (mm_t6 189 rfl rfl) (Nat.le_of_ble_eq_true rfl) (Nat.le_of_ble_eq_true rfl), mm_pe (me_X5_placeOf hl) mwX5_placeOf (mm_t6 154 rfl rfl) (Nat.le_of_ble_eq_true rfl) (Nat.le_of_ble_eq_true rfl), mm_pe (me_X5_goesFrom hl) mwX5_goesFrom (mm_t7 56 rfl rfl) (Nat.le_of_ble_eq_true rfl) (Nat.le_of_ble_eq_true rfl), trivial⟩) (mm_xe0 _) n9X5
theorem kd_in {F T : Nat → Int} {n : Nat} {ow r : Int} (h : kdR F T n ow r) : 0 ≤ r ∧ r ≤ 2 := by
  rcases h with ⟨-, h⟩ | ⟨-, ⟨h, -⟩ | ⟨h, -⟩⟩ <;> omega
theorem at_X5_isCounted_0 : mm_at 0 kdX5_isCounted = [(0, .iconst 0, 0), (1, .istore_n 1, 0), (2, .iconst 0, 0), (3, .istore_n 2, 0), (4, .iconst 0, 0), (5, .istore_n 3, 0), (6, .iload_n 3, 0), (7, .bipush 10, 0), (9, .if_icmp .ge 35, 44), (12, .iload_n 1, 0), (13, .aload_n 0, 0), (14, .aload_n 0, 0), (15, .invokevirtual 79, 0), (18, .iload_n 3, 0), (19, .iconst 1, 0), (20, .invokevirtual 64, 0), (23, .iadd, 0), (24, .istore_n 1, 0), (25, .iload_n 2, 0), (26, .aload_n 0, 0), (27, .aload_n 0, 0), (28, .invokevirtual 79, 0), (31, .iload_n 3, 0), (32, .iconst 2, 0), (33, .invokevirtual 64, 0), (36, .iadd, 0), (37, .istore_n 2, 0), (38, .iinc 3 1, 0), (41, .goto (-35), 6), (44, .iload_n 1, 0), (45, .aload_n 0, 0), (46, .getfield 49, 0), (49, .if_icmp .ne 35, 84), (52, .iload_n 2, 0), (53, .aload_n 0, 0), (54, .getfield 49, 0), (57, .if_icmp .ne 27, 84), (60, .aload_n 0, 0), (61, .getfield 60, 0), (64, .ifCond .ne 16, 80), (67, .aload_n 0, 0), (68, .aload_n 0, 0), (69, .invokevirtual 79, 0), (72, .invokevirtual 75, 0), (75, .iconst 2, 0), (76, .irem, 0), (77, .ifCond .ne 7, 84), (80, .iconst 1, 0), (81, .goto 4, 85), (84, .iconst 0, 0), (85, .ireturn, 0)] := rfl
theorem at_X5_isCounted_6 : mm_at 6 kdX5_isCounted = [(6, .iload_n 3, 0), (7, .bipush 10, 0), (9, .if_icmp .ge 35, 44), (12, .iload_n 1, 0), (13, .aload_n 0, 0), (14, .aload_n 0, 0), (15, .invokevirtual 79, 0), (18, .iload_n 3, 0), (19, .iconst 1, 0), (20, .invokevirtual 64, 0), (23, .iadd, 0), (24, .istore_n 1, 0), (25, .iload_n 2, 0), (26, .aload_n 0, 0), (27, .aload_n 0, 0), (28, .invokevirtual 79, 0), (31, .iload_n 3, 0), (32, .iconst 2, 0), (33, .invokevirtual 64, 0), (36, .iadd, 0), (37, .istore_n 2, 0), (38, .iinc 3 1, 0), (41, .goto (-35), 6), (44, .iload_n 1, 0), (45, .aload_n 0, 0), (46, .getfield 49, 0), (49, .if_icmp .ne 35, 84), (52, .iload_n 2, 0), (53, .aload_n 0, 0), (54, .getfield 49, 0), (57, .if_icmp .ne 27, 84), (60, .aload_n 0, 0), (61, .getfield 60, 0), (64, .ifCond .ne 16, 80), (67, .aload_n 0, 0), (68, .aload_n 0, 0), (69, .invokevirtual 79, 0), (72, .invokevirtual 75, 0), (75, .iconst 2, 0), (76, .irem, 0), (77, .ifCond .ne 7, 84), (80, .iconst 1, 0), (81, .goto 4, 85), (84, .iconst 0, 0), (85, .ireturn, 0)] := rfl
theorem at_X5_isCounted_44 : mm_at 44 kdX5_isCounted = [(44, .iload_n 1, 0), (45, .aload_n 0, 0), (46, .getfield 49, 0), (49, .if_icmp .ne 35, 84), (52, .iload_n 2, 0), (53, .aload_n 0, 0), (54, .getfield 49, 0), (57, .if_icmp .ne 27, 84), (60, .aload_n 0, 0), (61, .getfield 60, 0), (64, .ifCond .ne 16, 80), (67, .aload_n 0, 0), (68, .aload_n 0, 0), (69, .invokevirtual 79, 0), (72, .invokevirtual 75, 0), (75, .iconst 2, 0), (76, .irem, 0), (77, .ifCond .ne 7, 84), (80, .iconst 1, 0), (81, .goto 4, 85), (84, .iconst 0, 0), (85, .ireturn, 0)] := rfl
theorem at_X5_isCounted_80 : mm_at 80 kdX5_isCounted = [(80, .iconst 1, 0), (81, .goto 4, 85), (84, .iconst 0, 0), (85, .ireturn, 0)] := rfl
theorem at_X5_isCounted_84 : mm_at 84 kdX5_isCounted = [(84, .iconst 0, 0), (85, .ireturn, 0)] := rfl
theorem at_X5_isCounted_85 : mm_at 85 kdX5_isCounted = [(85, .ireturn, 0)] := rfl
def sp_X5_isCounted : mm_S := fun av M d Q => match av with
  | [.inr (.inr (.inl o))] =>  o = 17 ∧ xA M ∧ Q (.inl (some (mm_I 1))) M d
  | _ => False
def ct_X5_isCounted : List (Nat × mm_Ca) := [(79, (0, 1, 14, sp_X5_all, 0)), (64, (0, 4, 14, sp_X5_waysOf, 0)), (75, (0, 2, 14, sp_X5_oddOf, 0))]
abbrev rr_X5_isCounted (Q : mm_Q) := mm_run (mm_look flX5) (mm_look ct_X5_isCounted) mm_x0 (mm_look ([] : List (Nat × Int))) (fun _ => none) 2 0 (fun _ _ => none) Q kdX5_isCounted
set_option maxRecDepth 20000 in
theorem lp_X5_isCounted {M : mm_M} {d : List Nat} {Q : mm_Q} {S : Int} {n : Nat} (ha : xA M) (hn : M 17 1 = n) (hS : S = 2 ^ n - 1) (hq : rr_X5_isCounted Q 44 [some (mm_R 17), some (mm_I (ocs (M 18) S n 10)), some (mm_I (ocs (M 19) S n 10)), some (mm_I 10)] [] M d 0) : ∀ (j i : Nat), i + j = 10 → rr_X5_isCounted Q 6 [some (mm_R 17), some (mm_I (ocs (M 18) S n i)), some (mm_I (ocs (M 19) S n i)), some (mm_I i)] [] M d 0 := by
  have ht := ha.t
  have t1 := ht.1
  intro j
  induction j with
  | zero =>
    intro i hi
    have e : i = 10 := by omega
    subst e
    obtain ⟨K, hK, hK2⟩ : ∃ K : Nat → mm_K, (∀ t ls st M d u, K t ls st M d u → rr_X5_isCounted Q t ls st M d u) ∧ (∀ t ls st M d u, rr_X5_isCounted Q t ls st M d u → K t ls st M d u) := ⟨rr_X5_isCounted Q, fun _ _ _ _ _ _ h => h, fun _ _ _ _ _ _ h => h⟩
    have h9 := hK2 _ _ _ _ _ _ hq
    refine mm_run_at (stop := [12, 44]) (S := K) kkX5_isCounted 90 ?_ (fun _ _ _ _ _ _ _ h => hK _ _ _ _ _ _ h)
    repeat' (first | with_reducible assumption | with_reducible exact mm_i17 | with_reducible exact mm_i18 | with_reducible exact mm_i19 | with_reducible exact mm_i20 | with_reducible exact mm_i21 | with_reducible exact mm_i22 | ((with_reducible show mm_rv _ _ _ _ _); first | exact True.intro | exact mm_i17 | exact mm_i18 | exact mm_i19 | exact mm_i20 | exact mm_i21 | exact mm_i22) | ((with_reducible show mm_bool _ _); first | exact True.intro | exact Or.inl rfl | exact Or.inr rfl | (show (_ : Int) = 0 ∨ _ = 1)) | refine And.intro ?_ ?_ | intro _ | with_reducible exact True.intro | exact rfl | with_reducible exact Or.inl rfl | with_reducible exact Or.inr rfl | exact Nat.le_of_ble_eq_true rfl)
    all_goals (try simp (disch := omega) only [InI, Int.toNat_natCast, Int.tmod_eq_emod_of_nonneg, Int.tdiv_eq_ediv_of_nonneg, true_implies, true_or, or_true, mm_l18, mm_l19, mm_l20, mm_l21, mm_l22] at *)
    all_goals first | omega | exact h9 | skip
  | succ j ih =>
    intro i hi
    have h3 := oc_le (M 18) S i n
    have h4 := oc_le (M 19) S i n
    have h5 := ocs_le (F := M 18) (S := S) (n := n) i
    have h6 := ocs_le (F := M 19) (S := S) (n := n) i
    have h7 : (i : Int) * n ≤ 10 * 30 := Int.mul_le_mul (by omega) (by omega) (by omega) (by omega)
    obtain ⟨K, hK, hK2⟩ : ∃ K : Nat → mm_K, (∀ t ls st M d u, K t ls st M d u → rr_X5_isCounted Q t ls st M d u) ∧ (∀ t ls st M d u, rr_X5_isCounted Q t ls st M d u → K t ls st M d u) := ⟨rr_X5_isCounted Q, fun _ _ _ _ _ _ h => h, fun _ _ _ _ _ _ h => h⟩
    have hn2 : (M 17 1).toNat = n := by omega
    have st : ∀ S1 r1, (((1 : Int) = 0 → r1 = oc (M 18) S1 i (M 17 1).toNat + oc (M 19) S1 i (M 17 1).toNat) ∧ ((1 : Int) = 1 → r1 = oc (M 18) S1 i (M 17 1).toNat) ∧ ((1 : Int) ≠ 0 → (1 : Int) ≠ 1 → r1 = oc (M 19) S1 i (M 17 1).toNat) ∧ 0 ≤ r1 ∧ r1 ≤ 60) → (S1 = 2 ^ (M 17 1).toNat - 1 ∧ 0 ≤ S1 ∧ S1 < 1073741824) → ∀ S2 r2, (((2 : Int) = 0 → r2 = oc (M 18) S2 i (M 17 1).toNat + oc (M 19) S2 i (M 17 1).toNat) ∧ ((2 : Int) = 1 → r2 = oc (M 18) S2 i (M 17 1).toNat) ∧ ((2 : Int) ≠ 0 → (2 : Int) ≠ 1 → r2 = oc (M 19) S2 i (M 17 1).toNat) ∧ 0 ≤ r2 ∧ r2 ≤ 60) → (S2 = 2 ^ (M 17 1).toNat - 1 ∧ 0 ≤ S2 ∧ S2 < 1073741824) → K 6 [some (mm_R 17), some (mm_I (ocs (M 18) S n i + r1)), some (mm_I (ocs (M 19) S n i + r2)), some (mm_I ((i : Int) + 1))] [] M d 0 := fun S1 r1 g1 g2 S2 r2 g3 g4 => by
      have h8 := hK2 _ _ _ _ _ _ (ih (i + 1) (by omega))
      have e1 := g1.2.1 rfl
      have e2 := g3.2.2.1 (by omega) (by omega)
      rw [g2.1, hn2, ← hS] at e1
      rw [g4.1, hn2, ← hS] at e2
      rw [e1, e2]
      exact h8
    clear ih hq
    refine mm_run_at (stop := [6, 44]) (S := K) kkX5_isCounted 90 ?_ (fun _ _ _ _ _ _ _ h => hK _ _ _ _ _ _ h)
    repeat' (first | with_reducible assumption | with_reducible exact mm_i17 | with_reducible exact mm_i18 | with_reducible exact mm_i19 | with_reducible exact mm_i20 | with_reducible exact mm_i21 | with_reducible exact mm_i22 | ((with_reducible show mm_rv _ _ _ _ _); first | exact True.intro | exact mm_i17 | exact mm_i18 | exact mm_i19 | exact mm_i20 | exact mm_i21 | exact mm_i22) | ((with_reducible show mm_bool _ _); first | exact True.intro | exact Or.inl rfl | exact Or.inr rfl | (show (_ : Int) = 0 ∨ _ = 1)) | refine And.intro ?_ ?_ | intro _ | with_reducible exact True.intro | exact rfl | with_reducible exact Or.inl rfl | with_reducible exact Or.inr rfl | exact Nat.le_of_ble_eq_true rfl)
    all_goals (try simp (disch := omega) only [InI, Int.toNat_natCast, Int.tmod_eq_emod_of_nonneg, Int.tdiv_eq_ediv_of_nonneg, true_implies, true_or, or_true, mm_l18, mm_l19, mm_l20, mm_l21, mm_l22] at *)
    all_goals first | omega | exact st _ _ (by assumption) (by assumption) _ _ (by assumption) (by assumption) | skip
set_option maxRecDepth 20000 in
theorem rn_X5_isCounted : mm_RN flX5 ct_X5_isCounted mm_x0 [] 2 0 4 kdX5_isCounted sp_X5_isCounted := by
  intro av M d Q h
  unfold sp_X5_isCounted at h
  split at h
  · rename_i o
    obtain ⟨rfl, ha, hq⟩ := h
    have ht := ha.t
    have t1 := ht.1
    have hb := xA_b ha
    obtain ⟨n, hn⟩ := Int.eq_ofNat_of_zero_le t1.1
    have hS : ∀ k, k < n → bt (2 ^ n - 1) k = 1 := fun k hk => by rw [bt_all, if_pos hk]
    have hF := ocs_all (F := M 18) (S := 2 ^ n - 1) n (fun k hk => (ht.2.1 k (by omega)).1) hS
    have hT := ocs_all (F := M 19) (S := 2 ^ n - 1) n (fun k hk => (ht.2.1 k (by omega)).2) hS
    have hev : M 17 4 = 0 → ∀ S r, (S = 2 ^ (M 17 1).toNat - 1 ∧ 0 ≤ S ∧ S < 1073741824) → (r = odn (M 18) (M 19) (M 17 1).toNat (M 17 4) S 10 ∧ 0 ≤ r ∧ r ≤ 10) → r % 2 = 0 := fun h S r hS hr => by
      have := odn_ev (F := M 18) (T := M 19) (n := n) (S := S) h 10
      rw [hr.1, show (M 17 1).toNat = n by omega]
      rw [hS.1, show (M 17 1).toNat = n by omega] at this ⊢
      omega
    have k44 : rr_X5_isCounted Q 44 [some (mm_R 17), some (mm_I (ocs (M 18) (2 ^ n - 1) n 10)), some (mm_I (ocs (M 19) (2 ^ n - 1) n 10)), some (mm_I 10)] [] M d 0 := by
      rw [hF, hT]
      clear hF hT hS
      obtain ⟨K, hK, hK2⟩ : ∃ K : Nat → mm_K, (∀ t ls st M d u, K t ls st M d u → rr_X5_isCounted Q t ls st M d u) ∧ (∀ t ls st M d u, rr_X5_isCounted Q t ls st M d u → K t ls st M d u) := ⟨rr_X5_isCounted Q, fun _ _ _ _ _ _ h => h, fun _ _ _ _ _ _ h => h⟩
      refine mm_run_at (stop := []) (S := K) kkX5_isCounted 90 ?_ (fun _ _ _ _ _ _ _ h => hK _ _ _ _ _ _ h)
      repeat' (first | with_reducible assumption | with_reducible exact mm_i17 | with_reducible exact mm_i18 | with_reducible exact mm_i19 | with_reducible exact mm_i20 | with_reducible exact mm_i21 | with_reducible exact mm_i22 | ((with_reducible show mm_rv _ _ _ _ _); first | exact True.intro | exact mm_i17 | exact mm_i18 | exact mm_i19 | exact mm_i20 | exact mm_i21 | exact mm_i22) | ((with_reducible show mm_bool _ _); first | exact True.intro | exact Or.inl rfl | exact Or.inr rfl | (show (_ : Int) = 0 ∨ _ = 1)) | refine And.intro ?_ ?_ | intro _ | with_reducible exact True.intro | exact rfl | with_reducible exact Or.inl rfl | with_reducible exact Or.inr rfl | exact Nat.le_of_ble_eq_true rfl)
      all_goals (try simp (disch := omega) only [InI, Int.toNat_natCast, Int.tmod_eq_emod_of_nonneg, Int.tdiv_eq_ediv_of_nonneg, true_implies, true_or, or_true, mm_l18, mm_l19, mm_l20, mm_l21, mm_l22] at *)
      all_goals first | omega | exact hq | exact absurd (hev (by omega) _ _ (by assumption) (by assumption)) (by omega) | skip
    have k6 := lp_X5_isCounted (d := d) (Q := Q) ha hn rfl k44 10 0 (by omega)
    clear k44 hF hT hev hq
    obtain ⟨K, hK, hK2⟩ : ∃ K : Nat → mm_K, (∀ t ls st M d u, K t ls st M d u → rr_X5_isCounted Q t ls st M d u) ∧ (∀ t ls st M d u, rr_X5_isCounted Q t ls st M d u → K t ls st M d u) := ⟨rr_X5_isCounted Q, fun _ _ _ _ _ _ h => h, fun _ _ _ _ _ _ h => h⟩
    refine ⟨Nat.le_of_ble_eq_true rfl, mm_run_at (stop := [6]) (S := K) kkX5_isCounted 90 ?_ (fun _ _ _ _ _ _ _ h => hK _ _ _ _ _ _ h)⟩
    have k66 := hK2 _ _ _ _ _ _ k6
    clear k6
    repeat' (first | with_reducible assumption | with_reducible exact mm_i17 | with_reducible exact mm_i18 | with_reducible exact mm_i19 | with_reducible exact mm_i20 | with_reducible exact mm_i21 | with_reducible exact mm_i22 | ((with_reducible show mm_rv _ _ _ _ _); first | exact True.intro | exact mm_i17 | exact mm_i18 | exact mm_i19 | exact mm_i20 | exact mm_i21 | exact mm_i22) | ((with_reducible show mm_bool _ _); first | exact True.intro | exact Or.inl rfl | exact Or.inr rfl | (show (_ : Int) = 0 ∨ _ = 1)) | refine And.intro ?_ ?_ | intro _ | with_reducible exact True.intro | exact rfl | with_reducible exact Or.inl rfl | with_reducible exact Or.inr rfl | exact Nat.le_of_ble_eq_true rfl)
    all_goals (try simp (disch := omega) only [InI, Int.toNat_natCast, Int.tmod_eq_emod_of_nonneg, Int.tdiv_eq_ediv_of_nonneg, true_implies, true_or, or_true, mm_l18, mm_l19, mm_l20, mm_l21, mm_l22] at *)
    all_goals first | omega | exact k66 | skip
  · exact h.elim
theorem me_X5_isCounted {l : Launch} (hl : l.stackTraces = false) : mm_Met l yX5_isCounted cX5_isCounted 4 (some .boolean) [] 10 192 0 sp_X5_isCounted := mm_mt hl rn_X5_isCounted ⟨plX5, rfl⟩ kkX5_isCounted rfl ⟨Nat.le_of_ble_eq_true rfl, Nat.le_of_ble_eq_true rfl⟩ flkX5 (fun _ h => nomatch h) (⟨mm_pe (me_X5_all hl) mwX5_all (mm_t6 213 rfl rfl) (Nat.le_of_ble_eq_true rfl) (Nat.le_of_ble_eq_true rfl), mm_pe (me_X5_waysOf hl) mwX5_waysOf (mm_t6 217 rfl rfl) (Nat.le_of_ble_eq_true rfl) (Nat.le_of_ble_eq_true rfl), mm_pe (me_X5_oddOf hl) mwX5_oddOf (mm_t6 228 rfl rfl) (Nat.le_of_ble_eq_true rfl) (Nat.le_of_ble_eq_true rfl), trivial⟩) (mm_xe0 _) n9X5
theorem at_X5_isCompleted_0 : mm_at 0 kdX5_isCompleted = [(0, .aload_n 0, 0), (1, .invokevirtual 172, 0), (4, .istore_n 1, 0), (5, .aload_n 0, 0), (6, .invokevirtual 86, 0), (9, .istore_n 2, 0), (10, .iload_n 1, 0), (11, .ifCond .le 7, 18), (14, .iconst 1, 0), (15, .goto 4, 19), (18, .iconst 0, 0), (19, .iload_n 2, 0), (20, .iconst (-1), 0), (21, .if_icmp .eq 7, 28), (24, .iconst 1, 0), (25, .goto 4, 29), (28, .iconst 0, 0), (29, .if_icmp .eq 5, 34), (32, .iconst 0, 0), (33, .ireturn, 0), (34, .iload_n 2, 0), (35, .iconst (-1), 0), (36, .if_icmp .ne 5, 41), (39, .iconst 1, 0), (40, .ireturn, 0), (41, .aload_n 0, 0), (42, .getfield 22, 0), (45, .iconst 3, 0), (46, .iload_n 2, 0), (47, .iastore, 0), (48, .aload_n 0, 0), (49, .getfield 19, 0), (52, .iconst 3, 0), (53, .iconst 0, 0), (54, .iastore, 0), (55, .aload_n 0, 0), (56, .iconst 3, 0), (57, .iconst 1, 0), (58, .invokevirtual 190, 0), (61, .pop, 0), (62, .aload_n 0, 0), (63, .iconst 3, 0), (64, .invokevirtual 207, 0), (67, .ifCond .eq 21, 88), (70, .aload_n 0, 0), (71, .iconst 3, 0), (72, .invokevirtual 137, 0), (75, .iload_n 1, 0), (76, .iconst 2, 0), (77, .if_icmp .ne 7, 84), (80, .iconst 1, 0), (81, .goto 4, 85), (84, .iconst 0, 0), (85, .if_icmp .eq 5, 90), (88, .iconst 0, 0), (89, .ireturn, 0), (90, .iconst 0, 0), (91, .istore_n 3, 0), (92, .aload_n 0, 0), (93, .getfield 60, 0), (96, .ifCond .eq 55, 151), (99, .aload_n 0, 0), (100, .getfield 89, 0), (103, .ifCond .le 48, 151), (106, .iload_n 3, 0), (107, .aload_n 0, 0), (108, .getfield 49, 0), (111, .if_icmp .ge 40, 151), (114, .aload_n 0, 0), (115, .iconst 3, 0), (116, .iload_n 3, 0), (117, .iconst 0, 0), (118, .invokevirtual 234, 0), (121, .istore 4, 0), (123, .iload 4, 0), (125, .iconst (-1), 0), (126, .if_icmp .eq 17, 143), (129, .aload_n 0, 0), (130, .iconst 3, 0), (131, .iload_n 3, 0), (132, .iload 4, 0), (134, .iconst 1, 0), (135, .iadd, 0), (136, .invokevirtual 234, 0), (139, .iconst (-1), 0), (140, .if_icmp .eq 5, 145), (143, .iconst 0, 0), (144, .ireturn, 0), (145, .iinc 3 1, 0), (148, .goto (-56), 92), (151, .iconst 1, 0), (152, .ireturn, 0)] := rfl
theorem at_X5_isCompleted_18 : mm_at 18 kdX5_isCompleted = [(18, .iconst 0, 0), (19, .iload_n 2, 0), (20, .iconst (-1), 0), (21, .if_icmp .eq 7, 28), (24, .iconst 1, 0), (25, .goto 4, 29), (28, .iconst 0, 0), (29, .if_icmp .eq 5, 34), (32, .iconst 0, 0), (33, .ireturn, 0), (34, .iload_n 2, 0), (35, .iconst (-1), 0), (36, .if_icmp .ne 5, 41), (39, .iconst 1, 0), (40, .ireturn, 0), (41, .aload_n 0, 0), (42, .getfield 22, 0), (45, .iconst 3, 0), (46, .iload_n 2, 0), (47, .iastore, 0), (48, .aload_n 0, 0), (49, .getfield 19, 0), (52, .iconst 3, 0), (53, .iconst 0, 0), (54, .iastore, 0), (55, .aload_n 0, 0), (56, .iconst 3, 0), (57, .iconst 1, 0), (58, .invokevirtual 190, 0), (61, .pop, 0), (62, .aload_n 0, 0), (63, .iconst 3, 0), (64, .invokevirtual 207, 0), (67, .ifCond .eq 21, 88), (70, .aload_n 0, 0), (71, .iconst 3, 0), (72, .invokevirtual 137, 0), (75, .iload_n 1, 0), (76, .iconst 2, 0), (77, .if_icmp .ne 7, 84), (80, .iconst 1, 0), (81, .goto 4, 85), (84, .iconst 0, 0), (85, .if_icmp .eq 5, 90), (88, .iconst 0, 0), (89, .ireturn, 0), (90, .iconst 0, 0), (91, .istore_n 3, 0), (92, .aload_n 0, 0), (93, .getfield 60, 0), (96, .ifCond .eq 55, 151), (99, .aload_n 0, 0), (100, .getfield 89, 0), (103, .ifCond .le 48, 151), (106, .iload_n 3, 0), (107, .aload_n 0, 0), (108, .getfield 49, 0), (111, .if_icmp .ge 40, 151), (114, .aload_n 0, 0), (115, .iconst 3, 0), (116, .iload_n 3, 0), (117, .iconst 0, 0), (118, .invokevirtual 234, 0), (121, .istore 4, 0), (123, .iload 4, 0), (125, .iconst (-1), 0), (126, .if_icmp .eq 17, 143), (129, .aload_n 0, 0), (130, .iconst 3, 0), (131, .iload_n 3, 0), (132, .iload 4, 0), (134, .iconst 1, 0), (135, .iadd, 0), (136, .invokevirtual 234, 0), (139, .iconst (-1), 0), (140, .if_icmp .eq 5, 145), (143, .iconst 0, 0), (144, .ireturn, 0), (145, .iinc 3 1, 0), (148, .goto (-56), 92), (151, .iconst 1, 0), (152, .ireturn, 0)] := rfl
theorem at_X5_isCompleted_19 : mm_at 19 kdX5_isCompleted = [(19, .iload_n 2, 0), (20, .iconst (-1), 0), (21, .if_icmp .eq 7, 28), (24, .iconst 1, 0), (25, .goto 4, 29), (28, .iconst 0, 0), (29, .if_icmp .eq 5, 34), (32, .iconst 0, 0), (33, .ireturn, 0), (34, .iload_n 2, 0), (35, .iconst (-1), 0), (36, .if_icmp .ne 5, 41), (39, .iconst 1, 0), (40, .ireturn, 0), (41, .aload_n 0, 0), (42, .getfield 22, 0), (45, .iconst 3, 0), (46, .iload_n 2, 0), (47, .iastore, 0), (48, .aload_n 0, 0), (49, .getfield 19, 0), (52, .iconst 3, 0), (53, .iconst 0, 0), (54, .iastore, 0), (55, .aload_n 0, 0), (56, .iconst 3, 0), (57, .iconst 1, 0), (58, .invokevirtual 190, 0), (61, .pop, 0), (62, .aload_n 0, 0), (63, .iconst 3, 0), (64, .invokevirtual 207, 0), (67, .ifCond .eq 21, 88), (70, .aload_n 0, 0), (71, .iconst 3, 0), (72, .invokevirtual 137, 0), (75, .iload_n 1, 0), (76, .iconst 2, 0), (77, .if_icmp .ne 7, 84), (80, .iconst 1, 0), (81, .goto 4, 85), (84, .iconst 0, 0), (85, .if_icmp .eq 5, 90), (88, .iconst 0, 0), (89, .ireturn, 0), (90, .iconst 0, 0), (91, .istore_n 3, 0), (92, .aload_n 0, 0), (93, .getfield 60, 0), (96, .ifCond .eq 55, 151), (99, .aload_n 0, 0), (100, .getfield 89, 0), (103, .ifCond .le 48, 151), (106, .iload_n 3, 0), (107, .aload_n 0, 0), (108, .getfield 49, 0), (111, .if_icmp .ge 40, 151), (114, .aload_n 0, 0), (115, .iconst 3, 0), (116, .iload_n 3, 0), (117, .iconst 0, 0), (118, .invokevirtual 234, 0), (121, .istore 4, 0), (123, .iload 4, 0), (125, .iconst (-1), 0), (126, .if_icmp .eq 17, 143), (129, .aload_n 0, 0), (130, .iconst 3, 0), (131, .iload_n 3, 0), (132, .iload 4, 0), (134, .iconst 1, 0), (135, .iadd, 0), (136, .invokevirtual 234, 0), (139, .iconst (-1), 0), (140, .if_icmp .eq 5, 145), (143, .iconst 0, 0), (144, .ireturn, 0), (145, .iinc 3 1, 0), (148, .goto (-56), 92), (151, .iconst 1, 0), (152, .ireturn, 0)] := rfl
theorem at_X5_isCompleted_28 : mm_at 28 kdX5_isCompleted = [(28, .iconst 0, 0), (29, .if_icmp .eq 5, 34), (32, .iconst 0, 0), (33, .ireturn, 0), (34, .iload_n 2, 0), (35, .iconst (-1), 0), (36, .if_icmp .ne 5, 41), (39, .iconst 1, 0), (40, .ireturn, 0), (41, .aload_n 0, 0), (42, .getfield 22, 0), (45, .iconst 3, 0), (46, .iload_n 2, 0), (47, .iastore, 0), (48, .aload_n 0, 0), (49, .getfield 19, 0), (52, .iconst 3, 0), (53, .iconst 0, 0), (54, .iastore, 0), (55, .aload_n 0, 0), (56, .iconst 3, 0), (57, .iconst 1, 0), (58, .invokevirtual 190, 0), (61, .pop, 0), (62, .aload_n 0, 0), (63, .iconst 3, 0), (64, .invokevirtual 207, 0), (67, .ifCond .eq 21, 88), (70, .aload_n 0, 0), (71, .iconst 3, 0), (72, .invokevirtual 137, 0), (75, .iload_n 1, 0), (76, .iconst 2, 0), (77, .if_icmp .ne 7, 84), (80, .iconst 1, 0), (81, .goto 4, 85), (84, .iconst 0, 0), (85, .if_icmp .eq 5, 90), (88, .iconst 0, 0), (89, .ireturn, 0), (90, .iconst 0, 0), (91, .istore_n 3, 0), (92, .aload_n 0, 0), (93, .getfield 60, 0), (96, .ifCond .eq 55, 151), (99, .aload_n 0, 0), (100, .getfield 89, 0), (103, .ifCond .le 48, 151), (106, .iload_n 3, 0), (107, .aload_n 0, 0), (108, .getfield 49, 0), (111, .if_icmp .ge 40, 151), (114, .aload_n 0, 0), (115, .iconst 3, 0), (116, .iload_n 3, 0), (117, .iconst 0, 0), (118, .invokevirtual 234, 0), (121, .istore 4, 0), (123, .iload 4, 0), (125, .iconst (-1), 0), (126, .if_icmp .eq 17, 143), (129, .aload_n 0, 0), (130, .iconst 3, 0), (131, .iload_n 3, 0), (132, .iload 4, 0), (134, .iconst 1, 0), (135, .iadd, 0), (136, .invokevirtual 234, 0), (139, .iconst (-1), 0), (140, .if_icmp .eq 5, 145), (143, .iconst 0, 0), (144, .ireturn, 0), (145, .iinc 3 1, 0), (148, .goto (-56), 92), (151, .iconst 1, 0), (152, .ireturn, 0)] := rfl
theorem at_X5_isCompleted_29 : mm_at 29 kdX5_isCompleted = [(29, .if_icmp .eq 5, 34), (32, .iconst 0, 0), (33, .ireturn, 0), (34, .iload_n 2, 0), (35, .iconst (-1), 0), (36, .if_icmp .ne 5, 41), (39, .iconst 1, 0), (40, .ireturn, 0), (41, .aload_n 0, 0), (42, .getfield 22, 0), (45, .iconst 3, 0), (46, .iload_n 2, 0), (47, .iastore, 0), (48, .aload_n 0, 0), (49, .getfield 19, 0), (52, .iconst 3, 0), (53, .iconst 0, 0), (54, .iastore, 0), (55, .aload_n 0, 0), (56, .iconst 3, 0), (57, .iconst 1, 0), (58, .invokevirtual 190, 0), (61, .pop, 0), (62, .aload_n 0, 0), (63, .iconst 3, 0), (64, .invokevirtual 207, 0), (67, .ifCond .eq 21, 88), (70, .aload_n 0, 0), (71, .iconst 3, 0), (72, .invokevirtual 137, 0), (75, .iload_n 1, 0), (76, .iconst 2, 0), (77, .if_icmp .ne 7, 84), (80, .iconst 1, 0), (81, .goto 4, 85), (84, .iconst 0, 0), (85, .if_icmp .eq 5, 90), (88, .iconst 0, 0), (89, .ireturn, 0), (90, .iconst 0, 0), (91, .istore_n 3, 0), (92, .aload_n 0, 0), (93, .getfield 60, 0), (96, .ifCond .eq 55, 151), (99, .aload_n 0, 0), (100, .getfield 89, 0), (103, .ifCond .le 48, 151), (106, .iload_n 3, 0), (107, .aload_n 0, 0), (108, .getfield 49, 0), (111, .if_icmp .ge 40, 151), (114, .aload_n 0, 0), (115, .iconst 3, 0), (116, .iload_n 3, 0), (117, .iconst 0, 0), (118, .invokevirtual 234, 0), (121, .istore 4, 0), (123, .iload 4, 0), (125, .iconst (-1), 0), (126, .if_icmp .eq 17, 143), (129, .aload_n 0, 0), (130, .iconst 3, 0), (131, .iload_n 3, 0), (132, .iload 4, 0), (134, .iconst 1, 0), (135, .iadd, 0), (136, .invokevirtual 234, 0), (139, .iconst (-1), 0), (140, .if_icmp .eq 5, 145), (143, .iconst 0, 0), (144, .ireturn, 0), (145, .iinc 3 1, 0), (148, .goto (-56), 92), (151, .iconst 1, 0), (152, .ireturn, 0)] := rfl
theorem at_X5_isCompleted_34 : mm_at 34 kdX5_isCompleted = [(34, .iload_n 2, 0), (35, .iconst (-1), 0), (36, .if_icmp .ne 5, 41), (39, .iconst 1, 0), (40, .ireturn, 0), (41, .aload_n 0, 0), (42, .getfield 22, 0), (45, .iconst 3, 0), (46, .iload_n 2, 0), (47, .iastore, 0), (48, .aload_n 0, 0), (49, .getfield 19, 0), (52, .iconst 3, 0), (53, .iconst 0, 0), (54, .iastore, 0), (55, .aload_n 0, 0), (56, .iconst 3, 0), (57, .iconst 1, 0), (58, .invokevirtual 190, 0), (61, .pop, 0), (62, .aload_n 0, 0), (63, .iconst 3, 0), (64, .invokevirtual 207, 0), (67, .ifCond .eq 21, 88), (70, .aload_n 0, 0), (71, .iconst 3, 0), (72, .invokevirtual 137, 0), (75, .iload_n 1, 0), (76, .iconst 2, 0), (77, .if_icmp .ne 7, 84), (80, .iconst 1, 0), (81, .goto 4, 85), (84, .iconst 0, 0), (85, .if_icmp .eq 5, 90), (88, .iconst 0, 0), (89, .ireturn, 0), (90, .iconst 0, 0), (91, .istore_n 3, 0), (92, .aload_n 0, 0), (93, .getfield 60, 0), (96, .ifCond .eq 55, 151), (99, .aload_n 0, 0), (100, .getfield 89, 0), (103, .ifCond .le 48, 151), (106, .iload_n 3, 0), (107, .aload_n 0, 0), (108, .getfield 49, 0), (111, .if_icmp .ge 40, 151), (114, .aload_n 0, 0), (115, .iconst 3, 0), (116, .iload_n 3, 0), (117, .iconst 0, 0), (118, .invokevirtual 234, 0), (121, .istore 4, 0), (123, .iload 4, 0), (125, .iconst (-1), 0), (126, .if_icmp .eq 17, 143), (129, .aload_n 0, 0), (130, .iconst 3, 0), (131, .iload_n 3, 0), (132, .iload 4, 0), (134, .iconst 1, 0), (135, .iadd, 0), (136, .invokevirtual 234, 0), (139, .iconst (-1), 0), (140, .if_icmp .eq 5, 145), (143, .iconst 0, 0), (144, .ireturn, 0), (145, .iinc 3 1, 0), (148, .goto (-56), 92), (151, .iconst 1, 0), (152, .ireturn, 0)] := rfl
theorem at_X5_isCompleted_41 : mm_at 41 kdX5_isCompleted = [(41, .aload_n 0, 0), (42, .getfield 22, 0), (45, .iconst 3, 0), (46, .iload_n 2, 0), (47, .iastore, 0), (48, .aload_n 0, 0), (49, .getfield 19, 0), (52, .iconst 3, 0), (53, .iconst 0, 0), (54, .iastore, 0), (55, .aload_n 0, 0), (56, .iconst 3, 0), (57, .iconst 1, 0), (58, .invokevirtual 190, 0), (61, .pop, 0), (62, .aload_n 0, 0), (63, .iconst 3, 0), (64, .invokevirtual 207, 0), (67, .ifCond .eq 21, 88), (70, .aload_n 0, 0), (71, .iconst 3, 0), (72, .invokevirtual 137, 0), (75, .iload_n 1, 0), (76, .iconst 2, 0), (77, .if_icmp .ne 7, 84), (80, .iconst 1, 0), (81, .goto 4, 85), (84, .iconst 0, 0), (85, .if_icmp .eq 5, 90), (88, .iconst 0, 0), (89, .ireturn, 0), (90, .iconst 0, 0), (91, .istore_n 3, 0), (92, .aload_n 0, 0), (93, .getfield 60, 0), (96, .ifCond .eq 55, 151), (99, .aload_n 0, 0), (100, .getfield 89, 0), (103, .ifCond .le 48, 151), (106, .iload_n 3, 0), (107, .aload_n 0, 0), (108, .getfield 49, 0), (111, .if_icmp .ge 40, 151), (114, .aload_n 0, 0), (115, .iconst 3, 0), (116, .iload_n 3, 0), (117, .iconst 0, 0), (118, .invokevirtual 234, 0), (121, .istore 4, 0), (123, .iload 4, 0), (125, .iconst (-1), 0), (126, .if_icmp .eq 17, 143), (129, .aload_n 0, 0), (130, .iconst 3, 0), (131, .iload_n 3, 0), (132, .iload 4, 0), (134, .iconst 1, 0), (135, .iadd, 0), (136, .invokevirtual 234, 0), (139, .iconst (-1), 0), (140, .if_icmp .eq 5, 145), (143, .iconst 0, 0), (144, .ireturn, 0), (145, .iinc 3 1, 0), (148, .goto (-56), 92), (151, .iconst 1, 0), (152, .ireturn, 0)] := rfl
theorem at_X5_isCompleted_84 : mm_at 84 kdX5_isCompleted = [(84, .iconst 0, 0), (85, .if_icmp .eq 5, 90), (88, .iconst 0, 0), (89, .ireturn, 0), (90, .iconst 0, 0), (91, .istore_n 3, 0), (92, .aload_n 0, 0), (93, .getfield 60, 0), (96, .ifCond .eq 55, 151), (99, .aload_n 0, 0), (100, .getfield 89, 0), (103, .ifCond .le 48, 151), (106, .iload_n 3, 0), (107, .aload_n 0, 0), (108, .getfield 49, 0), (111, .if_icmp .ge 40, 151), (114, .aload_n 0, 0), (115, .iconst 3, 0), (116, .iload_n 3, 0), (117, .iconst 0, 0), (118, .invokevirtual 234, 0), (121, .istore 4, 0), (123, .iload 4, 0), (125, .iconst (-1), 0), (126, .if_icmp .eq 17, 143), (129, .aload_n 0, 0), (130, .iconst 3, 0), (131, .iload_n 3, 0), (132, .iload 4, 0), (134, .iconst 1, 0), (135, .iadd, 0), (136, .invokevirtual 234, 0), (139, .iconst (-1), 0), (140, .if_icmp .eq 5, 145), (143, .iconst 0, 0), (144, .ireturn, 0), (145, .iinc 3 1, 0), (148, .goto (-56), 92), (151, .iconst 1, 0), (152, .ireturn, 0)] := rfl
theorem at_X5_isCompleted_85 : mm_at 85 kdX5_isCompleted = [(85, .if_icmp .eq 5, 90), (88, .iconst 0, 0), (89, .ireturn, 0), (90, .iconst 0, 0), (91, .istore_n 3, 0), (92, .aload_n 0, 0), (93, .getfield 60, 0), (96, .ifCond .eq 55, 151), (99, .aload_n 0, 0), (100, .getfield 89, 0), (103, .ifCond .le 48, 151), (106, .iload_n 3, 0), (107, .aload_n 0, 0), (108, .getfield 49, 0), (111, .if_icmp .ge 40, 151), (114, .aload_n 0, 0), (115, .iconst 3, 0), (116, .iload_n 3, 0), (117, .iconst 0, 0), (118, .invokevirtual 234, 0), (121, .istore 4, 0), (123, .iload 4, 0), (125, .iconst (-1), 0), (126, .if_icmp .eq 17, 143), (129, .aload_n 0, 0), (130, .iconst 3, 0), (131, .iload_n 3, 0), (132, .iload 4, 0), (134, .iconst 1, 0), (135, .iadd, 0), (136, .invokevirtual 234, 0), (139, .iconst (-1), 0), (140, .if_icmp .eq 5, 145), (143, .iconst 0, 0), (144, .ireturn, 0), (145, .iinc 3 1, 0), (148, .goto (-56), 92), (151, .iconst 1, 0), (152, .ireturn, 0)] := rfl
theorem at_X5_isCompleted_88 : mm_at 88 kdX5_isCompleted = [(88, .iconst 0, 0), (89, .ireturn, 0), (90, .iconst 0, 0), (91, .istore_n 3, 0), (92, .aload_n 0, 0), (93, .getfield 60, 0), (96, .ifCond .eq 55, 151), (99, .aload_n 0, 0), (100, .getfield 89, 0), (103, .ifCond .le 48, 151), (106, .iload_n 3, 0), (107, .aload_n 0, 0), (108, .getfield 49, 0), (111, .if_icmp .ge 40, 151), (114, .aload_n 0, 0), (115, .iconst 3, 0), (116, .iload_n 3, 0), (117, .iconst 0, 0), (118, .invokevirtual 234, 0), (121, .istore 4, 0), (123, .iload 4, 0), (125, .iconst (-1), 0), (126, .if_icmp .eq 17, 143), (129, .aload_n 0, 0), (130, .iconst 3, 0), (131, .iload_n 3, 0), (132, .iload 4, 0), (134, .iconst 1, 0), (135, .iadd, 0), (136, .invokevirtual 234, 0), (139, .iconst (-1), 0), (140, .if_icmp .eq 5, 145), (143, .iconst 0, 0), (144, .ireturn, 0), (145, .iinc 3 1, 0), (148, .goto (-56), 92), (151, .iconst 1, 0), (152, .ireturn, 0)] := rfl
theorem at_X5_isCompleted_90 : mm_at 90 kdX5_isCompleted = [(90, .iconst 0, 0), (91, .istore_n 3, 0), (92, .aload_n 0, 0), (93, .getfield 60, 0), (96, .ifCond .eq 55, 151), (99, .aload_n 0, 0), (100, .getfield 89, 0), (103, .ifCond .le 48, 151), (106, .iload_n 3, 0), (107, .aload_n 0, 0), (108, .getfield 49, 0), (111, .if_icmp .ge 40, 151), (114, .aload_n 0, 0), (115, .iconst 3, 0), (116, .iload_n 3, 0), (117, .iconst 0, 0), (118, .invokevirtual 234, 0), (121, .istore 4, 0), (123, .iload 4, 0), (125, .iconst (-1), 0), (126, .if_icmp .eq 17, 143), (129, .aload_n 0, 0), (130, .iconst 3, 0), (131, .iload_n 3, 0), (132, .iload 4, 0), (134, .iconst 1, 0), (135, .iadd, 0), (136, .invokevirtual 234, 0), (139, .iconst (-1), 0), (140, .if_icmp .eq 5, 145), (143, .iconst 0, 0), (144, .ireturn, 0), (145, .iinc 3 1, 0), (148, .goto (-56), 92), (151, .iconst 1, 0), (152, .ireturn, 0)] := rfl
theorem at_X5_isCompleted_92 : mm_at 92 kdX5_isCompleted = [(92, .aload_n 0, 0), (93, .getfield 60, 0), (96, .ifCond .eq 55, 151), (99, .aload_n 0, 0), (100, .getfield 89, 0), (103, .ifCond .le 48, 151), (106, .iload_n 3, 0), (107, .aload_n 0, 0), (108, .getfield 49, 0), (111, .if_icmp .ge 40, 151), (114, .aload_n 0, 0), (115, .iconst 3, 0), (116, .iload_n 3, 0), (117, .iconst 0, 0), (118, .invokevirtual 234, 0), (121, .istore 4, 0), (123, .iload 4, 0), (125, .iconst (-1), 0), (126, .if_icmp .eq 17, 143), (129, .aload_n 0, 0), (130, .iconst 3, 0), (131, .iload_n 3, 0), (132, .iload 4, 0), (134, .iconst 1, 0), (135, .iadd, 0), (136, .invokevirtual 234, 0), (139, .iconst (-1), 0), (140, .if_icmp .eq 5, 145), (143, .iconst 0, 0), (144, .ireturn, 0), (145, .iinc 3 1, 0), (148, .goto (-56), 92), (151, .iconst 1, 0), (152, .ireturn, 0)] := rfl
theorem at_X5_isCompleted_143 : mm_at 143 kdX5_isCompleted = [(143, .iconst 0, 0), (144, .ireturn, 0), (145, .iinc 3 1, 0), (148, .goto (-56), 92), (151, .iconst 1, 0), (152, .ireturn, 0)] := rfl
theorem at_X5_isCompleted_145 : mm_at 145 kdX5_isCompleted = [(145, .iinc 3 1, 0), (148, .goto (-56), 92), (151, .iconst 1, 0), (152, .ireturn, 0)] := rfl
theorem at_X5_isCompleted_151 : mm_at 151 kdX5_isCompleted = [(151, .iconst 1, 0), (152, .ireturn, 0)] := rfl
def sp_X5_isCompleted : mm_S := fun av M d Q => match av with
  | [.inr (.inr (.inl o))] =>  o = 17 ∧ xA M ∧ ∀ M' r, (xQ M M' ∧ (r = 0 ∨ r = 1)) ∧ cmpR (vX M) r → Q (.inl (some (mm_I r))) M' d
  | _ => False
def ct_X5_isCompleted : List (Nat × mm_Ca) := [(172, (0, 1, 14, sp_X5_kindOf, 0)), (86, (0, 1, 14, sp_X5_leastStart, 0)), (190, (0, 3, 14, sp_X5_completed, 0)), (207, (0, 2, 14, sp_X5_isWhole, 0)), (137, (0, 2, 14, sp_X5_isHome, 0)), (234, (0, 4, 14, sp_X5_wordIn, 0))]
abbrev rr_X5_isCompleted (Q : mm_Q) := mm_run (mm_look flX5) (mm_look ct_X5_isCompleted) mm_x0 (mm_look ([] : List (Nat × Int))) (fun _ => none) 2 0 (fun _ _ => none) Q kdX5_isCompleted
set_option maxRecDepth 20000 in
theorem lp_X5_isCompleted {M : mm_M} {d : List Nat} {Q : mm_Q} {x1 x2 : Int} {n : Nat} (ht : tX M) (mv : mV M 3) (hn : M 17 1 = n) (hb : M 17 4 = 0 ∨ M 17 4 = 1) (q0 : ¬ ewO (vX M) 14 → Q (.inl (some (mm_I 0))) M d) (q1 : ewO (vX M) 14 → Q (.inl (some (mm_I 1))) M d) : ∀ (j i : Nat) (x4 : Option mm_V), i + j = n → (∀ x : Nat, x < i → ∃ p, wdR (vX M) 14 x 0 p ∧ 0 ≤ p ∧ wdR (vX M) 14 x (p + 1) (-1)) → rr_X5_isCompleted Q 92 [some (mm_R 17), some (mm_I x1), some (mm_I x2), some (mm_I i), x4] [] M d 0 := by
  have t1 := ht.1
  have t5 := ht.2.2.2.1
  have qv : ¬ (M 17 4 ≠ 0 ∧ 0 < M 17 5) → Q (.inl (some (mm_I 1))) M d := fun h => q1 (fun h2 => absurd ⟨h2.2, h2.1⟩ h)
  intro j
  induction j with
  | zero =>
    intro i x4 hi hA
    have qe := q1 (fun _ x hx => hA x (by have h9 : (x : Int) < M 17 1 := hx; omega))
    clear hA q0 q1 qv
    obtain ⟨K, hK, hK2⟩ : ∃ K : Nat → mm_K, (∀ t ls st M d u, K t ls st M d u → rr_X5_isCompleted Q t ls st M d u) ∧ (∀ t ls st M d u, rr_X5_isCompleted Q t ls st M d u → K t ls st M d u) := ⟨rr_X5_isCompleted Q, fun _ _ _ _ _ _ h => h, fun _ _ _ _ _ _ h => h⟩
    refine mm_run_at (stop := [114]) (S := K) kkX5_isCompleted 90 ?_ (fun _ _ _ _ _ _ _ h => hK _ _ _ _ _ _ h)
    repeat' (first | with_reducible assumption | with_reducible exact mm_i17 | with_reducible exact mm_i18 | with_reducible exact mm_i19 | with_reducible exact mm_i20 | with_reducible exact mm_i21 | with_reducible exact mm_i22 | ((with_reducible show mm_rv _ _ _ _ _); first | exact True.intro | exact mm_i17 | exact mm_i18 | exact mm_i19 | exact mm_i20 | exact mm_i21 | exact mm_i22) | ((with_reducible show mm_bool _ _); first | exact True.intro | exact Or.inl rfl | exact Or.inr rfl | (show (_ : Int) = 0 ∨ _ = 1)) | refine And.intro ?_ ?_ | intro _ | with_reducible exact True.intro | exact rfl | with_reducible exact Or.inl rfl | with_reducible exact Or.inr rfl | exact Nat.le_of_ble_eq_true rfl)
    all_goals (try simp (disch := omega) only [InI, Int.toNat_natCast, Int.tmod_eq_emod_of_nonneg, Int.tdiv_eq_ediv_of_nonneg, true_implies, true_or, or_true, mm_l18, mm_l19, mm_l20, mm_l21, mm_l22] at *)
    all_goals first | omega | exact qe | skip
  | succ j ih =>
    intro i x4 hi hA
    obtain ⟨K, hK, hK2⟩ : ∃ K : Nat → mm_K, (∀ t ls st M d u, K t ls st M d u → rr_X5_isCompleted Q t ls st M d u) ∧ (∀ t ls st M d u, rr_X5_isCompleted Q t ls st M d u → K t ls st M d u) := ⟨rr_X5_isCompleted Q, fun _ _ _ _ _ _ h => h, fun _ _ _ _ _ _ h => h⟩
    have hin : (i : Int) < vX M 2 4 := by have h9 : vX M 2 4 = M 17 1 := rfl; omega
    have k123 : (M 17 4 ≠ 0 ∧ 0 < M 17 5) → ∀ x4, ((-1 ≤ x4 ∧ x4 ≤ 30) ∧ wdR (vX M) 14 i 0 x4) → K 123 [some (mm_R 17), some (mm_I x1), some (mm_I x2), some (mm_I i), some (mm_I x4)] [] M d 0 := by
      intro hc x4 ⟨h4, hw⟩
      have qa : x4 = -1 → Q (.inl (some (mm_I 0))) M d := fun h => q0 (fun h2 => by
        obtain ⟨p, p1, p2, p3⟩ := h2 ⟨hc.2, hc.1⟩ i hin
        have := wdR_det .rf .rf p1 hw
        omega)
      have qb : x4 ≠ -1 → ∀ r2, ((-1 ≤ r2 ∧ r2 ≤ 30) ∧ wdR (vX M) 14 i (x4 + 1) r2) → r2 ≠ -1 → Q (.inl (some (mm_I 0))) M d := fun h r2 hr2 h3 => q0 (fun h2 => by
        obtain ⟨p, p1, p2, p3⟩ := h2 ⟨hc.2, hc.1⟩ i hin
        have e := wdR_det .rf .rf p1 hw
        subst e
        exact h3 (wdR_det .rf .rf hr2.2 p3))
      have st : x4 ≠ -1 → ∀ r2, ((-1 ≤ r2 ∧ r2 ≤ 30) ∧ wdR (vX M) 14 i (x4 + 1) r2) → r2 = -1 → ∀ x4, K 92 [some (mm_R 17), some (mm_I x1), some (mm_I x2), some (mm_I ((i : Int) + 1)), x4] [] M d 0 := fun h r2 hr2 h3 x5 => hK2 _ _ _ _ _ _ (ih (i + 1) x5 (by omega) (fun x hx => by
        by_cases e : x = i
        · subst e
          exact ⟨x4, hw, by omega, by rw [← h3]; exact hr2.2⟩
        · exact hA x (by omega)))
      clear hA q0 q1 qv ih hw
      refine hK2 _ _ _ _ _ _ ?_
      refine mm_run_at (stop := [92]) (S := K) kkX5_isCompleted 90 ?_ (fun _ _ _ _ _ _ _ h => hK _ _ _ _ _ _ h)
      repeat' (first | with_reducible assumption | with_reducible exact mm_i17 | with_reducible exact mm_i18 | with_reducible exact mm_i19 | with_reducible exact mm_i20 | with_reducible exact mm_i21 | with_reducible exact mm_i22 | ((with_reducible show mm_rv _ _ _ _ _); first | exact True.intro | exact mm_i17 | exact mm_i18 | exact mm_i19 | exact mm_i20 | exact mm_i21 | exact mm_i22 | ((with_reducible show mV _ _); exact mv)) | ((with_reducible show mV _ _); exact mv) | ((with_reducible show mm_bool _ _); first | exact True.intro | exact Or.inl rfl | exact Or.inr rfl | (show (_ : Int) = 0 ∨ _ = 1)) | refine And.intro ?_ ?_ | intro _ | with_reducible exact True.intro | exact rfl | with_reducible exact Or.inl rfl | with_reducible exact Or.inr rfl | exact Nat.le_of_ble_eq_true rfl)
      all_goals (try simp (disch := omega) only [InI, Int.toNat_natCast, Int.tmod_eq_emod_of_nonneg, Int.tdiv_eq_ediv_of_nonneg, true_implies, true_or, or_true, mm_l18, mm_l19, mm_l20, mm_l21, mm_l22] at *)
      all_goals first | omega | exact qa (by omega) | exact qb (by omega) _ (by assumption) (by omega) | exact st (by omega) _ (by assumption) (by omega) _ | skip
    clear ih hA q0 q1
    refine mm_run_at (stop := [123]) (S := K) kkX5_isCompleted 90 ?_ (fun _ _ _ _ _ _ _ h => hK _ _ _ _ _ _ h)
    repeat' (first | with_reducible assumption | with_reducible exact mm_i17 | with_reducible exact mm_i18 | with_reducible exact mm_i19 | with_reducible exact mm_i20 | with_reducible exact mm_i21 | with_reducible exact mm_i22 | ((with_reducible show mm_rv _ _ _ _ _); first | exact True.intro | exact mm_i17 | exact mm_i18 | exact mm_i19 | exact mm_i20 | exact mm_i21 | exact mm_i22 | ((with_reducible show mV _ _); exact mv)) | ((with_reducible show mV _ _); exact mv) | ((with_reducible show mm_bool _ _); first | exact True.intro | exact Or.inl rfl | exact Or.inr rfl | (show (_ : Int) = 0 ∨ _ = 1)) | refine And.intro ?_ ?_ | intro _ | with_reducible exact True.intro | exact rfl | with_reducible exact Or.inl rfl | with_reducible exact Or.inr rfl | exact Nat.le_of_ble_eq_true rfl)
    all_goals (try simp (disch := omega) only [InI, Int.toNat_natCast, Int.tmod_eq_emod_of_nonneg, Int.tdiv_eq_ediv_of_nonneg, true_implies, true_or, or_true, mm_l18, mm_l19, mm_l20, mm_l21, mm_l22] at *)
    all_goals first | omega | exact qv (by omega) | exact k123 ⟨by omega, by omega⟩ _ (by assumption) | skip
set_option maxRecDepth 20000 in
theorem rn_X5_isCompleted : mm_RN flX5 ct_X5_isCompleted mm_x0 [] 2 0 5 kdX5_isCompleted sp_X5_isCompleted := by
  intro av M d Q h
  unfold sp_X5_isCompleted at h
  split at h
  · rename_i o
    obtain ⟨rfl, ha, hq⟩ := h
    have ht := ha.t
    have t1 := ht.1
    have hb := xA_b ha
    obtain ⟨K, hK, hK2⟩ : ∃ K : Nat → mm_K, (∀ t ls st M d u, K t ls st M d u → rr_X5_isCompleted Q t ls st M d u) ∧ (∀ t ls st M d u, rr_X5_isCompleted Q t ls st M d u → K t ls st M d u) := ⟨rr_X5_isCompleted Q, fun _ _ _ _ _ _ h => h, fun _ _ _ _ _ _ h => h⟩
    have k10 : ∀ x1 x2, kdR (M 18) (M 19) (M 17 1).toNat (M 17 4) x1 → ((x2 = -1 ∧ ∀ c : Nat, c < 10 → ¬ ST (M 18) (M 19) (M 17 1).toNat (M 17 4) (2 ^ (M 17 1).toNat - 1) c) ∨ (0 ≤ x2 ∧ x2 < 10 ∧ ST (M 18) (M 19) (M 17 1).toNat (M 17 4) (2 ^ (M 17 1).toNat - 1) x2 ∧ ∀ c : Nat, c < x2 → ¬ ST (M 18) (M 19) (M 17 1).toNat (M 17 4) (2 ^ (M 17 1).toNat - 1) c)) → K 10 [some (mm_R 17), some (mm_I x1), some (mm_I x2), none, none] [] M d 0 := by
      intro x1 x2 hkd hls
      have h1 := kd_in hkd
      have h2 : -1 ≤ x2 ∧ x2 < 10 := by rcases hls with h | h <;> omega
      have hls2 : lsR (vX M) x2 := hls
      have hkd2 : kdR (vX M 3) (vX M 4) (vX M 2 4).toNat (vX M 2 5) x1 := hkd
      have qd : ¬ (0 < x1 ↔ 0 ≤ x2) → Q (.inl (some (mm_I 0))) M d := fun h => hq M 0 ⟨⟨ha.rfq, Or.inl rfl⟩, x1, x2, hkd2, hls2, Or.inl ⟨h, rfl⟩⟩
      have qe : (0 < x1 ↔ 0 ≤ x2) → x2 = -1 → Q (.inl (some (mm_I 1))) M d := fun h h3 => hq M 1 ⟨⟨ha.rfq, Or.inr rfl⟩, x1, x2, hkd2, hls2, Or.inr ⟨h, Or.inl ⟨h3, rfl⟩⟩⟩
      have k41 : (0 < x1 ↔ 0 ≤ x2) → 0 ≤ x2 → K 41 [some (mm_R 17), some (mm_I x1), some (mm_I x2), none, none] [] M d 0 := by
        intro hc h0
        obtain ⟨M3, e3⟩ : ∃ M3, M3 = mm_up (mm_up M 22 3 x2) 21 3 0 := ⟨_, rfl⟩
        have ev : vX M3 = mm_up (mm_up (vX M) 14 3 x2) 14 2 0 := by rw [e3, vX_u21 (by omega), vX_u22 (by omega)]
        have hv9 : mV M3 3 := (mV_i (by omega)).mpr (by rw [ev]; exact ⟨by simp [mm_up], by simp [mm_up]; omega, fun j hj => by simp [mm_up] at hj; omega⟩)
        have hD9 : wD (vX M3) 14 := by rw [ev]; exact wD_0 (by simp [mm_up])
        have hx : fX M M3 := by rw [e3]; exact (fX.rf.up (by omega)).up (by omega)
        have hf3 : fr [14, 15] (vX M) (vX M3) := by rw [ev]; exact (fr.rf.up (by simp)).up (by simp)
        have h17 : M3 17 = M 17 := by rw [e3, mm_up_o _ (by omega), mm_up_o _ (by omega)]
        have ht3 : tX M3 := tX_to ht hf3 (isKk (show 3 < 4 by omega))
        have k61 : ∀ M4 (c : Nat), fX M3 M4 ∧ M4 17 = M3 17 ∧ fr [14, 15] (vX M3) (vX M4) ∧ mV M4 3 ∧ wD (vX M4) 14 ∧ comR 1 14 (vX M3) (vX M4) c ∧ M4 21 3 = M3 21 3 + c → K 62 [some (mm_R 17), some (mm_I x1), some (mm_I x2), none, none] [] M4 d 0 := by
          intro M4 c ⟨g1, g2, g3, g4, g5, g6, g7⟩
          have hP4 : xQ M M4 := ⟨xP_3 ha (hx.tr g1) (by rw [g2, h17]) ((hf3.tr g3).mono (by simp)), hf3.tr g3⟩
          have ht4 := hP4.1.a.t
          have e2 : vX M4 2 = vX M 2 := hP4.2 2 (by simp)
          have fin : ∀ r : Int, (r = 0 ∨ r = 1) → (r = 1 ↔ gdR (vX M) (vX M4) x1) → Q (.inl (some (mm_I r))) M4 d := fun r hr h => hq M4 r ⟨⟨hP4, hr⟩, x1, x2, hkd2, hls2, Or.inr ⟨hc, Or.inr ⟨h0, vX M, vX M4, c, fr.rf, by rw [← bgM_2, ← ev]; exact g6, by rw [← bgM_2, ← ev]; exact g3, hr, h⟩⟩⟩
          have hew : ewO (vX M4) 14 ↔ ewO (vX M4) 14 := Iff.rfl
          have e24 : vX M4 2 4 = vX M 2 4 := by rw [e2]
          have qw : ¬ M4 21 3 = M4 17 1 → Q (.inl (some (mm_I 0))) M4 d := fun h => fin 0 (Or.inl rfl) ⟨fun h2 => by omega, fun h2 => absurd (show vX M4 14 2 = vX M4 2 4 by rw [e24]; exact h2.1) h⟩
          have qh : ¬ (hmP (vX M4) 14 ↔ x1 = 2) → Q (.inl (some (mm_I 0))) M4 d := fun h => fin 0 (Or.inl rfl) ⟨fun h2 => by omega, fun h2 => absurd h2.2.1 h⟩
          obtain ⟨n, hn⟩ := Int.eq_ofNat_of_zero_le ht4.1.1
          have k92 : M4 21 3 = M4 17 1 → (hmP (vX M4) 14 ↔ x1 = 2) → K 92 [some (mm_R 17), some (mm_I x1), some (mm_I x2), some (mm_I 0), none] [] M4 d 0 := fun hw hh => hK2 _ _ _ _ _ _ (lp_X5_isCompleted (d := d) (Q := Q) (x1 := x1) (x2 := x2) ht4 g4 hn (xA_b hP4.1.a) (fun h => fin 0 (Or.inl rfl) ⟨fun h2 => by omega, fun h2 => absurd h2.2.2 h⟩) (fun h => fin 1 (Or.inr rfl) ⟨fun _ => ⟨by rw [← e24]; exact hw, hh, h⟩, fun _ => rfl⟩) n 0 none (by omega) (fun x hx => by omega))
          clear g6 fin hq qd qe
          have k75 : M4 21 3 = M4 17 1 → ∀ r, (r = 0 ∨ r = 1) ∧ (r = 1 ↔ hmP (vX M4) 14) → K 75 [some (mm_R 17), some (mm_I x1), some (mm_I x2), none, none] [mm_I r] M4 d 0 := by
            intro hw r ⟨hr, hr2⟩
            have qh1 : r = 0 → x1 = 2 → _ := fun h1 h2 => qh (fun h3 => by have := hr2.mpr (h3.mpr h2); omega)
            have qh2 : r = 1 → x1 ≠ 2 → _ := fun h1 h2 => qh (fun h3 => h2 (h3.mp (hr2.mp h1)))
            have k921 : r = 1 → x1 = 2 → _ := fun h1 h2 => k92 hw ⟨fun _ => h2, fun _ => hr2.mp h1⟩
            have k922 : r = 0 → x1 ≠ 2 → _ := fun h1 h2 => k92 hw ⟨fun h3 => by have := hr2.mpr h3; omega, fun h3 => absurd h3 h2⟩
            clear hr2 qh k92 qw
            refine hK2 _ _ _ _ _ _ ?_
            refine mm_run_at (stop := [92]) (S := K) kkX5_isCompleted 90 ?_ (fun _ _ _ _ _ _ _ h => hK _ _ _ _ _ _ h)
            repeat' (first | with_reducible assumption | with_reducible exact mm_i17 | with_reducible exact mm_i18 | with_reducible exact mm_i19 | with_reducible exact mm_i20 | with_reducible exact mm_i21 | with_reducible exact mm_i22 | ((with_reducible show mm_rv _ _ _ _ _); first | exact True.intro | exact mm_i17 | exact mm_i18 | exact mm_i19 | exact mm_i20 | exact mm_i21 | exact mm_i22) | ((with_reducible show mm_bool _ _); first | exact True.intro | exact Or.inl rfl | exact Or.inr rfl | (show (_ : Int) = 0 ∨ _ = 1)) | refine And.intro ?_ ?_ | intro _ | with_reducible exact True.intro | exact rfl | with_reducible exact Or.inl rfl | with_reducible exact Or.inr rfl | exact Nat.le_of_ble_eq_true rfl)
            all_goals (try simp (disch := omega) only [InI, Int.toNat_natCast, Int.tmod_eq_emod_of_nonneg, Int.tdiv_eq_ediv_of_nonneg, true_implies, true_or, or_true, mm_l18, mm_l19, mm_l20, mm_l21, mm_l22] at *)
            all_goals first | omega | exact qh1 (by omega) (by omega) | exact qh2 (by omega) (by omega) | exact k921 (by omega) (by omega) | exact k922 (by omega) (by omega) | skip
          have k70 : M4 21 3 = M4 17 1 → K 70 [some (mm_R 17), some (mm_I x1), some (mm_I x2), none, none] [] M4 d 0 := by
            intro hw
            refine hK2 _ _ _ _ _ _ ?_
            refine mm_run_at (stop := [75]) (S := K) kkX5_isCompleted 90 ?_ (fun _ _ _ _ _ _ _ h => hK _ _ _ _ _ _ h)
            exact mm_c5 rfl (Nat.le_of_ble_eq_true rfl) (by exact mm_i17) (Nat.le_of_ble_eq_true rfl) (Nat.le_of_ble_eq_true rfl) (mm_a5 rfl ht4 ⟨by omega, by omega⟩ g4 (fun r hr => k75 hw r hr))
          have k67 : ∀ r, (r = 0 ∨ r = 1) ∧ (r = 1 ↔ M4 21 3 = M4 17 1) → K 67 [some (mm_R 17), some (mm_I x1), some (mm_I x2), none, none] [mm_I r] M4 d 0 := by
            intro r ⟨hr, hr2⟩
            have k700 := fun h => k70 (hr2.mp h)
            have qw0 : r = 0 → _ := fun h => qw (fun h2 => by have := hr2.mpr h2; omega)
            clear hr2 k70 k75 k92 qw qh
            refine hK2 _ _ _ _ _ _ ?_
            refine mm_run_at (stop := [70]) (S := K) kkX5_isCompleted 90 ?_ (fun _ _ _ _ _ _ _ h => hK _ _ _ _ _ _ h)
            repeat' (first | with_reducible assumption | with_reducible exact mm_i17 | with_reducible exact mm_i18 | with_reducible exact mm_i19 | with_reducible exact mm_i20 | with_reducible exact mm_i21 | with_reducible exact mm_i22 | ((with_reducible show mm_rv _ _ _ _ _); first | exact True.intro | exact mm_i17 | exact mm_i18 | exact mm_i19 | exact mm_i20 | exact mm_i21 | exact mm_i22) | ((with_reducible show mm_bool _ _); first | exact True.intro | exact Or.inl rfl | exact Or.inr rfl | (show (_ : Int) = 0 ∨ _ = 1)) | refine And.intro ?_ ?_ | intro _ | with_reducible exact True.intro | exact rfl | with_reducible exact Or.inl rfl | with_reducible exact Or.inr rfl | exact Nat.le_of_ble_eq_true rfl)
            all_goals (try simp (disch := omega) only [InI, Int.toNat_natCast, Int.tmod_eq_emod_of_nonneg, Int.tdiv_eq_ediv_of_nonneg, true_implies, true_or, or_true, mm_l18, mm_l19, mm_l20, mm_l21, mm_l22] at *)
            all_goals first | omega | exact qw0 (by omega) | exact k700 (by omega) | skip
          refine hK2 _ _ _ _ _ _ ?_
          refine mm_run_at (stop := [67]) (S := K) kkX5_isCompleted 90 ?_ (fun _ _ _ _ _ _ _ h => hK _ _ _ _ _ _ h)
          exact mm_c5 rfl (Nat.le_of_ble_eq_true rfl) (by exact mm_i17) (Nat.le_of_ble_eq_true rfl) (Nat.le_of_ble_eq_true rfl) (mm_a6 rfl ht4 ⟨by omega, by omega⟩ g4 g5 (fun r hr => k67 r hr))
        have k55 : K 55 [some (mm_R 17), some (mm_I x1), some (mm_I x2), none, none] [] M3 d 0 := by
          refine hK2 _ _ _ _ _ _ ?_
          refine mm_run_at (stop := [62]) (S := K) kkX5_isCompleted 90 ?_ (fun _ _ _ _ _ _ _ h => hK _ _ _ _ _ _ h)
          exact mm_c5 rfl (Nat.le_of_ble_eq_true rfl) (by exact mm_i17) (Nat.le_of_ble_eq_true rfl) (Nat.le_of_ble_eq_true rfl) (mm_a7 rfl ht3 ⟨by omega, by omega⟩ hv9 hD9 (by omega) (fun M4 c h => k61 M4 c h))
        rw [e3] at k55
        clear k61 hq qd qe
        refine hK2 _ _ _ _ _ _ ?_
        refine mm_run_at (stop := [55]) (S := K) kkX5_isCompleted 90 ?_ (fun _ _ _ _ _ _ _ h => hK _ _ _ _ _ _ h)
        repeat' (first | with_reducible assumption | with_reducible exact mm_i17 | with_reducible exact mm_i18 | with_reducible exact mm_i19 | with_reducible exact mm_i20 | with_reducible exact mm_i21 | with_reducible exact mm_i22 | ((with_reducible show mm_rv _ _ _ _ _); first | exact True.intro | exact mm_i17 | exact mm_i18 | exact mm_i19 | exact mm_i20 | exact mm_i21 | exact mm_i22) | ((with_reducible show mm_bool _ _); first | exact True.intro | exact Or.inl rfl | exact Or.inr rfl | (show (_ : Int) = 0 ∨ _ = 1)) | refine And.intro ?_ ?_ | intro _ | with_reducible exact True.intro | exact rfl | with_reducible exact Or.inl rfl | with_reducible exact Or.inr rfl | exact Nat.le_of_ble_eq_true rfl)
        all_goals (try simp (disch := omega) only [InI, Int.toNat_natCast, Int.tmod_eq_emod_of_nonneg, Int.tdiv_eq_ediv_of_nonneg, true_implies, true_or, or_true, mm_l18, mm_l19, mm_l20, mm_l21, mm_l22] at *)
        all_goals first | omega | exact k55 | skip
      clear hq hkd hls hkd2 hls2
      refine hK2 _ _ _ _ _ _ ?_
      refine mm_run_at (stop := [41]) (S := K) kkX5_isCompleted 90 ?_ (fun _ _ _ _ _ _ _ h => hK _ _ _ _ _ _ h)
      repeat' (first | with_reducible assumption | with_reducible exact mm_i17 | with_reducible exact mm_i18 | with_reducible exact mm_i19 | with_reducible exact mm_i20 | with_reducible exact mm_i21 | with_reducible exact mm_i22 | ((with_reducible show mm_rv _ _ _ _ _); first | exact True.intro | exact mm_i17 | exact mm_i18 | exact mm_i19 | exact mm_i20 | exact mm_i21 | exact mm_i22) | ((with_reducible show mm_bool _ _); first | exact True.intro | exact Or.inl rfl | exact Or.inr rfl | (show (_ : Int) = 0 ∨ _ = 1)) | refine And.intro ?_ ?_ | intro _ | with_reducible exact True.intro | exact rfl | with_reducible exact Or.inl rfl | with_reducible exact Or.inr rfl | exact Nat.le_of_ble_eq_true rfl)
      all_goals (try simp (disch := omega) only [InI, Int.toNat_natCast, Int.tmod_eq_emod_of_nonneg, Int.tdiv_eq_ediv_of_nonneg, true_implies, true_or, or_true, mm_l18, mm_l19, mm_l20, mm_l21, mm_l22] at *)
      all_goals first | omega | exact qd (by omega) | exact qe (by omega) (by omega) | exact k41 (by omega) (by omega) | skip
    clear hq
    refine ⟨Nat.le_of_ble_eq_true rfl, ?_⟩
    refine mm_run_at (stop := [10]) (S := K) kkX5_isCompleted 90 ?_ (fun _ _ _ _ _ _ _ h => hK _ _ _ _ _ _ h)
    exact mm_c5 rfl (Nat.le_of_ble_eq_true rfl) (by exact mm_i17) (Nat.le_of_ble_eq_true rfl) (Nat.le_of_ble_eq_true rfl) (mm_a3 rfl ht (fun x1 hx1 => mm_a2 rfl (mm_c5 rfl (Nat.le_of_ble_eq_true rfl) (by exact mm_i17) (Nat.le_of_ble_eq_true rfl) (Nat.le_of_ble_eq_true rfl) (mm_a3 rfl ht (fun x2 hx2 => mm_a2 rfl (k10 x1 x2 hx1 hx2))))))
  · exact h.elim
theorem me_X5_isCompleted {l : Launch} (hl : l.stackTraces = false) : mm_Met l yX5_isCompleted cX5_isCompleted 5 (some .boolean) [] 13 256 0 sp_X5_isCompleted := mm_mt hl rn_X5_isCompleted ⟨plX5, rfl⟩ kkX5_isCompleted rfl ⟨Nat.le_of_ble_eq_true rfl, Nat.le_of_ble_eq_true rfl⟩ flkX5 (fun _ h => nomatch h) (⟨mm_pe (me_X5_kindOf hl) mwX5_kindOf (mm_t7 8 rfl rfl) (Nat.le_of_ble_eq_true rfl) (Nat.le_of_ble_eq_true rfl), mm_pe (me_X5_leastStart hl) mwX5_leastStart (mm_t7 12 rfl rfl) (Nat.le_of_ble_eq_true rfl) (Nat.le_of_ble_eq_true rfl), mm_pe (me_X5_completed hl) mwX5_completed (mm_t7 80 rfl rfl) (Nat.le_of_ble_eq_true rfl) (Nat.le_of_ble_eq_true rfl), mm_pe (me_X5_isWhole hl) mwX5_isWhole (mm_t7 136 rfl rfl) (Nat.le_of_ble_eq_true rfl) (Nat.le_of_ble_eq_true rfl), mm_pe (me_X5_isHome hl) mwX5_isHome (mm_t7 92 rfl rfl) (Nat.le_of_ble_eq_true rfl) (Nat.le_of_ble_eq_true rfl), mm_pe (me_X5_wordIn hl) mwX5_wordIn (mm_t7 203 rfl rfl) (Nat.le_of_ble_eq_true rfl) (Nat.le_of_ble_eq_true rfl), trivial⟩) (mm_xe0 _) n9X5
def sp_X5_isAllSo : mm_S := fun av M d Q => match av with
  | [.inr (.inr (.inl o))] =>  o = 17 ∧ xA M ∧ ∀ M' r, (xQ M M' ∧ (r = 0 ∨ r = 1)) ∧ sndR (vX M) r → Q (.inl (some (mm_I r))) M' d
  | _ => False
def ct_X5_isAllSo : List (Nat × mm_Ca) := [(263, (0, 2, 14, sp_X5_isWalk, 0)), (266, (0, 1, 14, sp_X5_isCounted, 0)), (269, (0, 1, 14, sp_X5_isCompleted, 0))]
abbrev rr_X5_isAllSo (Q : mm_Q) := mm_run (mm_look flX5) (mm_look ct_X5_isAllSo) mm_x0 (mm_look ([] : List (Nat × Int))) (fun _ => none) 2 0 (fun _ _ => none) Q kdX5_isAllSo
set_option maxRecDepth 20000 in
theorem rn_X5_isAllSo : mm_RN flX5 ct_X5_isAllSo mm_x0 [] 2 0 1 kdX5_isAllSo sp_X5_isAllSo := by
  intro av M d Q h
  unfold sp_X5_isAllSo at h
  split at h
  · rename_i o
    obtain ⟨rfl, ha, hq⟩ := h
    have qn : ¬ aTW (vX M) → Q (.inl (some (mm_I 0))) M d := fun h => hq M 0 ⟨⟨ha.rfq, Or.inl rfl⟩, Or.inl ⟨h, rfl⟩⟩
    have q8 : ∀ r : Int, ((r = 0 ∨ r = 1) ∧ (r = 1 ↔ TWk (vX M) 8)) → r = 0 → Q (.inl (some (mm_I 0))) M d := fun r hr h => qn (fun h2 => by have := hr.2.mpr (h2 8 (Or.inl rfl)); omega)
    have q10 : ∀ r : Int, ((r = 0 ∨ r = 1) ∧ (r = 1 ↔ TWk (vX M) 10)) → r = 0 → Q (.inl (some (mm_I 0))) M d := fun r hr h => qn (fun h2 => by have := hr.2.mpr (h2 10 (Or.inr (Or.inl rfl))); omega)
    have q12 : ∀ r : Int, ((r = 0 ∨ r = 1) ∧ (r = 1 ↔ TWk (vX M) 12)) → r = 0 → Q (.inl (some (mm_I 0))) M d := fun r hr h => qn (fun h2 => by have := hr.2.mpr (h2 12 (Or.inr (Or.inr rfl))); omega)
    obtain ⟨K, hK, hK2⟩ : ∃ K : Nat → mm_K, (∀ t ls st M d u, K t ls st M d u → rr_X5_isAllSo Q t ls st M d u) ∧ (∀ t ls st M d u, rr_X5_isAllSo Q t ls st M d u → K t ls st M d u) := ⟨rr_X5_isAllSo Q, fun _ _ _ _ _ _ h => h, fun _ _ _ _ _ _ h => h⟩
    have k35 : aTW (vX M) → ∀ M' r, (xQ M M' ∧ (r = 0 ∨ r = 1)) ∧ cmpR (vX M) r → K 35 [some (mm_R 17)] [mm_I r] M' d 0 := by
      intro hT M' r hP
      have qr := hq M' r ⟨hP.1, Or.inr ⟨hT, hP.2⟩⟩
      have hr := hP.1.2
      have qr0 : r = 0 → Q (.inl (some (mm_I 0))) M' d := fun h => by rw [h] at qr; exact qr
      have qr1 : r ≠ 0 → Q (.inl (some (mm_I 1))) M' d := fun h => by rw [show r = 1 by omega] at qr; exact qr
      clear hq qn q8 q10 q12 qr hP
      refine hK2 _ _ _ _ _ _ ?_
      refine mm_run_at (stop := []) (S := K) kkX5_isAllSo 90 ?_ (fun _ _ _ _ _ _ _ h => hK _ _ _ _ _ _ h)
      repeat' (first | with_reducible assumption | with_reducible exact mm_i17 | with_reducible exact mm_i18 | with_reducible exact mm_i19 | with_reducible exact mm_i20 | with_reducible exact mm_i21 | with_reducible exact mm_i22 | ((with_reducible show mm_rv _ _ _ _ _); first | exact True.intro | exact mm_i17 | exact mm_i18 | exact mm_i19 | exact mm_i20 | exact mm_i21 | exact mm_i22) | ((with_reducible show mm_bool _ _); first | exact True.intro | exact Or.inl rfl | exact Or.inr rfl | (show (_ : Int) = 0 ∨ _ = 1)) | refine And.intro ?_ ?_ | intro _ | with_reducible exact True.intro | exact rfl | with_reducible exact Or.inl rfl | with_reducible exact Or.inr rfl | exact Nat.le_of_ble_eq_true rfl)
      all_goals (try simp (disch := omega) only [InI, Int.toNat_natCast, Int.tmod_eq_emod_of_nonneg, Int.tdiv_eq_ediv_of_nonneg, true_implies, true_or, or_true, mm_l18, mm_l19, mm_l20, mm_l21, mm_l22] at *)
      all_goals first | omega | exact qr0 (by omega) | exact qr1 (by omega) | skip
    have k34 : ∀ a b c : Int, ((a = 0 ∨ a = 1) ∧ (a = 1 ↔ TWk (vX M) 8)) → ((b = 0 ∨ b = 1) ∧ (b = 1 ↔ TWk (vX M) 10)) → ((c = 0 ∨ c = 1) ∧ (c = 1 ↔ TWk (vX M) 12)) → a ≠ 0 → b ≠ 0 → c ≠ 0 → ∀ M' r, (xQ M M' ∧ (r = 0 ∨ r = 1)) ∧ cmpR (vX M) r → K 35 [some (mm_R 17)] [mm_I r] M' d 0 := fun a b c h1 h2 h3 n1 n2 n3 => k35 (fun w hw => by
      rcases hw with rfl | rfl | rfl
      · exact h1.2.mp (by omega)
      · exact h2.2.mp (by omega)
      · exact h3.2.mp (by omega))
    clear hq qn k35
    refine ⟨Nat.le_of_ble_eq_true rfl, ?_⟩
    refine mm_run_at (stop := [35]) (S := K) kkX5_isAllSo 90 ?_ (fun _ _ _ _ _ _ _ h => hK _ _ _ _ _ _ h)
    repeat' (first | with_reducible assumption | with_reducible exact mm_i17 | with_reducible exact mm_i18 | with_reducible exact mm_i19 | with_reducible exact mm_i20 | with_reducible exact mm_i21 | with_reducible exact mm_i22 | ((with_reducible show mm_rv _ _ _ _ _); first | exact True.intro | exact mm_i17 | exact mm_i18 | exact mm_i19 | exact mm_i20 | exact mm_i21 | exact mm_i22) | ((with_reducible show mm_bool _ _); first | exact True.intro | exact Or.inl rfl | exact Or.inr rfl | (show (_ : Int) = 0 ∨ _ = 1)) | refine And.intro ?_ ?_ | intro _ | with_reducible exact True.intro | exact rfl | with_reducible exact Or.inl rfl | with_reducible exact Or.inr rfl | exact Nat.le_of_ble_eq_true rfl)
    all_goals (try simp (disch := omega) only [InI, Int.toNat_natCast, Int.tmod_eq_emod_of_nonneg, Int.tdiv_eq_ediv_of_nonneg, true_implies, true_or, or_true, mm_l18, mm_l19, mm_l20, mm_l21, mm_l22] at *)
    all_goals first | omega | exact q8 _ (by assumption) (by omega) | exact q10 _ (by assumption) (by omega) | exact q12 _ (by assumption) (by omega) | exact k34 _ _ _ (by assumption) (by assumption) (by assumption) (by omega) (by omega) (by omega) _ _ (by assumption) | skip
  · exact h.elim
theorem me_X5_isAllSo {l : Launch} (hl : l.stackTraces = false) : mm_Met l yX5_isAllSo cX5_isAllSo 1 (some .boolean) [] 14 280 0 sp_X5_isAllSo := mm_mt hl rn_X5_isAllSo ⟨plX5, rfl⟩ kkX5_isAllSo rfl ⟨Nat.le_of_ble_eq_true rfl, Nat.le_of_ble_eq_true rfl⟩ flkX5 (fun _ h => nomatch h) (⟨mm_pe (me_X5_isWalk hl) mwX5_isWalk (mm_t8 35 rfl rfl) (Nat.le_of_ble_eq_true rfl) (Nat.le_of_ble_eq_true rfl), mm_pe (me_X5_isCounted hl) mwX5_isCounted (mm_t8 39 rfl rfl) (Nat.le_of_ble_eq_true rfl) (Nat.le_of_ble_eq_true rfl), mm_pe (me_X5_isCompleted hl) mwX5_isCompleted (mm_t8 43 rfl rfl) (Nat.le_of_ble_eq_true rfl) (Nat.le_of_ble_eq_true rfl), trivial⟩) (mm_xe0 _) n9X5
def sp_X5_isSound : mm_S := fun av M d Q => match av with
  | [.inr (.inr (.inl o))] =>  o = 17 ∧ xA M ∧ ∀ M' r, (xQ M M' ∧ (r = 0 ∨ r = 1)) ∧ sndR (vX M) r → Q (.inl (some (mm_I r))) M' d
  | _ => False
def ct_X5_isSound : List (Nat × mm_Ca) := [(272, (0, 1, 14, sp_X5_isAllSo, 0))]
abbrev rr_X5_isSound (Q : mm_Q) := mm_run (mm_look flX5) (mm_look ct_X5_isSound) mm_x0 (mm_look ([] : List (Nat × Int))) (fun _ => none) 2 0 (fun _ _ => none) Q kdX5_isSound
set_option maxRecDepth 20000 in
theorem rn_X5_isSound : mm_RN flX5 ct_X5_isSound mm_x0 [] 2 0 1 kdX5_isSound sp_X5_isSound := by
  intro av M d Q h
  unfold sp_X5_isSound at h
  split at h
  · rename_i o
    obtain ⟨rfl, ha, hq⟩ := h
    have ha0 := ha.s (v := 0)
    have q := fun M' r (h : (xQ (mm_up M 17 0 0) M' ∧ (r = 0 ∨ r = 1)) ∧ sndR (vX (mm_up M 17 0 0)) r) => hq M' r ⟨⟨(xQ_s (v := 0) ha).tr h.1.1, h.1.2⟩, by rw [← vX_u0 (M := M) (v := 0)]; exact h.2⟩
    clear hq
    obtain ⟨K, hK, hK2⟩ : ∃ K : Nat → mm_K, (∀ t ls st M d u, K t ls st M d u → rr_X5_isSound Q t ls st M d u) ∧ (∀ t ls st M d u, rr_X5_isSound Q t ls st M d u → K t ls st M d u) := ⟨rr_X5_isSound Q, fun _ _ _ _ _ _ h => h, fun _ _ _ _ _ _ h => h⟩
    refine ⟨Nat.le_of_ble_eq_true rfl, mm_run_at (stop := []) (S := K) kkX5_isSound 90 ?_ (fun _ _ _ _ _ _ _ h => hK _ _ _ _ _ _ h)⟩
    repeat' (first | with_reducible assumption | with_reducible exact mm_i17 | with_reducible exact mm_i18 | with_reducible exact mm_i19 | with_reducible exact mm_i20 | with_reducible exact mm_i21 | with_reducible exact mm_i22 | ((with_reducible show mm_rv _ _ _ _ _); first | exact True.intro | exact mm_i17 | exact mm_i18 | exact mm_i19 | exact mm_i20 | exact mm_i21 | exact mm_i22) | ((with_reducible show mm_bool _ _); first | exact True.intro | exact Or.inl rfl | exact Or.inr rfl | (show (_ : Int) = 0 ∨ _ = 1)) | refine And.intro ?_ ?_ | intro _ | with_reducible exact True.intro | exact rfl | with_reducible exact Or.inl rfl | with_reducible exact Or.inr rfl | exact Nat.le_of_ble_eq_true rfl)
    all_goals (try simp (disch := omega) only [InI, Int.toNat_natCast, Int.tmod_eq_emod_of_nonneg, Int.tdiv_eq_ediv_of_nonneg, true_implies, true_or, or_true, mm_l18, mm_l19, mm_l20, mm_l21, mm_l22] at *)
    all_goals first | omega | exact q _ _ (by assumption) | skip
  · exact h.elim
theorem me_X5_isSound {l : Launch} (hl : l.stackTraces = false) : mm_Met l yX5_isSound cX5_isSound 1 (some .boolean) [] 15 300 0 sp_X5_isSound := mm_mt hl rn_X5_isSound ⟨plX5, rfl⟩ kkX5_isSound rfl ⟨Nat.le_of_ble_eq_true rfl, Nat.le_of_ble_eq_true rfl⟩ flkX5 (fun _ h => nomatch h) (⟨mm_pe (me_X5_isAllSo hl) mwX5_isAllSo (mm_t8 31 rfl rfl) (Nat.le_of_ble_eq_true rfl) (Nat.le_of_ble_eq_true rfl), trivial⟩) (mm_xe0 _) n9X5
/-- four sums, one behind another -/
noncomputable def g4 (D a b c : Int) : Nat → Int
  | 0 => D
  | 1 => D * 31 + a
  | 2 => (D * 31 + a) * 31 + b
  | _ => ((D * 31 + a) * 31 + b) * 31 + c
theorem g4_s {D a b c : Int} {x : Nat} (h : x < 3) : g4 D a b c (x + 1) = g4 D a b c x * 31 + (if (x : Int) = 0 then a else if (x : Int) = 1 then b else c) := by
  have h3 : x = 0 ∨ x = 1 ∨ x = 2 := by omega
  rcases h3 with rfl | rfl | rfl
  · rw [if_pos (by omega)]
    rfl
  · rw [if_neg (by omega), if_pos (by omega)]
    rfl
  · rw [if_neg (by omega), if_neg (by omega)]
    rfl
theorem g4_w {D a b c a' b' c' : Int} {x : Nat} (h : x < 3) (ha : mm_w a' = a) (hb : mm_w b' = b) (hc : mm_w c' = c) : g4 D a b c x * 31 + mm_w (if (x : Int) = 0 then a' else if (x : Int) = 1 then b' else c') = g4 D a b c (x + 1) := by
  rw [g4_s h, ← ha, ← hb, ← hc]
  by_cases e : (x : Int) = 0
  · rw [if_pos e, if_pos e]
  · rw [if_neg e, if_neg e]
    by_cases e2 : (x : Int) = 1
    · rw [if_pos e2, if_pos e2]
    · rw [if_neg e2, if_neg e2]
theorem at_X5_addTown_0 : mm_at 0 kdX5_addTown = [(0, .lload_n 1, 0), (1, .aload_n 0, 0), (2, .getfield 49, 0), (5, .i2l, 0), (6, .invokestatic 277, 0), (9, .lstore_n 3, 0), (10, .iconst 0, 0), (11, .istore 5, 0), (13, .iload 5, 0), (15, .aload_n 0, 0), (16, .getfield 49, 0), (19, .if_icmp .ge 33, 52), (22, .lload_n 3, 0), (23, .aload_n 0, 0), (24, .getfield 9, 0), (27, .iload 5, 0), (29, .iaload, 0), (30, .i2l, 0), (31, .invokestatic 277, 0), (34, .aload_n 0, 0), (35, .getfield 13, 0), (38, .iload 5, 0), (40, .iaload, 0), (41, .i2l, 0), (42, .invokestatic 277, 0), (45, .lstore_n 3, 0), (46, .iinc 5 1, 0), (49, .goto (-36), 13), (52, .iconst 0, 0), (53, .istore 5, 0), (55, .iload 5, 0), (57, .bipush 10, 0), (59, .if_icmp .ge 61, 120), (62, .iconst 0, 0), (63, .istore 6, 0), (65, .iload 6, 0), (67, .iconst 2, 0), (68, .if_icmp .ge 27, 95), (71, .lload_n 3, 0), (72, .aload_n 0, 0), (73, .aload_n 0, 0), (74, .invokevirtual 79, 0), (77, .iload 5, 0), (79, .iload 6, 0), (81, .invokevirtual 64, 0), (84, .i2l, 0), (85, .invokestatic 277, 0), (88, .lstore_n 3, 0), (89, .iinc 6 1, 0), (92, .goto (-27), 65), (95, .lload_n 3, 0), (96, .aload_n 0, 0), (97, .aload_n 0, 0), (98, .invokevirtual 79, 0), (101, .iload 5, 0), (103, .invokevirtual 83, 0), (106, .invokestatic 56, 0), (109, .i2l, 0), (110, .invokestatic 277, 0), (113, .lstore_n 3, 0), (114, .iinc 5 1, 0), (117, .goto (-62), 55), (120, .lload_n 3, 0), (121, .aload_n 0, 0), (122, .aload_n 0, 0), (123, .invokevirtual 79, 0), (126, .invokevirtual 75, 0), (129, .i2l, 0), (130, .invokestatic 277, 0), (133, .aload_n 0, 0), (134, .aload_n 0, 0), (135, .invokevirtual 79, 0), (138, .invokevirtual 71, 0), (141, .invokestatic 56, 0), (144, .i2l, 0), (145, .invokestatic 277, 0), (148, .aload_n 0, 0), (149, .invokevirtual 172, 0), (152, .i2l, 0), (153, .invokestatic 277, 0), (156, .lstore_n 3, 0), (157, .iconst 0, 0), (158, .istore 5, 0), (160, .iload 5, 0), (162, .iconst 3, 0), (163, .if_icmp .ge 21, 184), (166, .lload_n 3, 0), (167, .aload_n 0, 0), (168, .iload 5, 0), (170, .invokevirtual 175, 0), (173, .i2l, 0), (174, .invokestatic 277, 0), (177, .lstore_n 3, 0), (178, .iinc 5 1, 0), (181, .goto (-21), 160), (184, .lload_n 3, 0), (185, .lreturn, 0)] := rfl
theorem at_X5_addTown_13 : mm_at 13 kdX5_addTown = [(13, .iload 5, 0), (15, .aload_n 0, 0), (16, .getfield 49, 0), (19, .if_icmp .ge 33, 52), (22, .lload_n 3, 0), (23, .aload_n 0, 0), (24, .getfield 9, 0), (27, .iload 5, 0), (29, .iaload, 0), (30, .i2l, 0), (31, .invokestatic 277, 0), (34, .aload_n 0, 0), (35, .getfield 13, 0), (38, .iload 5, 0), (40, .iaload, 0), (41, .i2l, 0), (42, .invokestatic 277, 0), (45, .lstore_n 3, 0), (46, .iinc 5 1, 0), (49, .goto (-36), 13), (52, .iconst 0, 0), (53, .istore 5, 0), (55, .iload 5, 0), (57, .bipush 10, 0), (59, .if_icmp .ge 61, 120), (62, .iconst 0, 0), (63, .istore 6, 0), (65, .iload 6, 0), (67, .iconst 2, 0), (68, .if_icmp .ge 27, 95), (71, .lload_n 3, 0), (72, .aload_n 0, 0), (73, .aload_n 0, 0), (74, .invokevirtual 79, 0), (77, .iload 5, 0), (79, .iload 6, 0), (81, .invokevirtual 64, 0), (84, .i2l, 0), (85, .invokestatic 277, 0), (88, .lstore_n 3, 0), (89, .iinc 6 1, 0), (92, .goto (-27), 65), (95, .lload_n 3, 0), (96, .aload_n 0, 0), (97, .aload_n 0, 0), (98, .invokevirtual 79, 0), (101, .iload 5, 0), (103, .invokevirtual 83, 0), (106, .invokestatic 56, 0), (109, .i2l, 0), (110, .invokestatic 277, 0), (113, .lstore_n 3, 0), (114, .iinc 5 1, 0), (117, .goto (-62), 55), (120, .lload_n 3, 0), (121, .aload_n 0, 0), (122, .aload_n 0, 0), (123, .invokevirtual 79, 0), (126, .invokevirtual 75, 0), (129, .i2l, 0), (130, .invokestatic 277, 0), (133, .aload_n 0, 0), (134, .aload_n 0, 0), (135, .invokevirtual 79, 0), (138, .invokevirtual 71, 0), (141, .invokestatic 56, 0), (144, .i2l, 0), (145, .invokestatic 277, 0), (148, .aload_n 0, 0), (149, .invokevirtual 172, 0), (152, .i2l, 0), (153, .invokestatic 277, 0), (156, .lstore_n 3, 0), (157, .iconst 0, 0), (158, .istore 5, 0), (160, .iload 5, 0), (162, .iconst 3, 0), (163, .if_icmp .ge 21, 184), (166, .lload_n 3, 0), (167, .aload_n 0, 0), (168, .iload 5, 0), (170, .invokevirtual 175, 0), (173, .i2l, 0), (174, .invokestatic 277, 0), (177, .lstore_n 3, 0), (178, .iinc 5 1, 0), (181, .goto (-21), 160), (184, .lload_n 3, 0), (185, .lreturn, 0)] := rfl
theorem at_X5_addTown_52 : mm_at 52 kdX5_addTown = [(52, .iconst 0, 0), (53, .istore 5, 0), (55, .iload 5, 0), (57, .bipush 10, 0), (59, .if_icmp .ge 61, 120), (62, .iconst 0, 0), (63, .istore 6, 0), (65, .iload 6, 0), (67, .iconst 2, 0), (68, .if_icmp .ge 27, 95), (71, .lload_n 3, 0), (72, .aload_n 0, 0), (73, .aload_n 0, 0), (74, .invokevirtual 79, 0), (77, .iload 5, 0), (79, .iload 6, 0), (81, .invokevirtual 64, 0), (84, .i2l, 0), (85, .invokestatic 277, 0), (88, .lstore_n 3, 0), (89, .iinc 6 1, 0), (92, .goto (-27), 65), (95, .lload_n 3, 0), (96, .aload_n 0, 0), (97, .aload_n 0, 0), (98, .invokevirtual 79, 0), (101, .iload 5, 0), (103, .invokevirtual 83, 0), (106, .invokestatic 56, 0), (109, .i2l, 0), (110, .invokestatic 277, 0), (113, .lstore_n 3, 0), (114, .iinc 5 1, 0), (117, .goto (-62), 55), (120, .lload_n 3, 0), (121, .aload_n 0, 0), (122, .aload_n 0, 0), (123, .invokevirtual 79, 0), (126, .invokevirtual 75, 0), (129, .i2l, 0), (130, .invokestatic 277, 0), (133, .aload_n 0, 0), (134, .aload_n 0, 0), (135, .invokevirtual 79, 0), (138, .invokevirtual 71, 0), (141, .invokestatic 56, 0), (144, .i2l, 0), (145, .invokestatic 277, 0), (148, .aload_n 0, 0), (149, .invokevirtual 172, 0), (152, .i2l, 0), (153, .invokestatic 277, 0), (156, .lstore_n 3, 0), (157, .iconst 0, 0), (158, .istore 5, 0), (160, .iload 5, 0), (162, .iconst 3, 0), (163, .if_icmp .ge 21, 184), (166, .lload_n 3, 0), (167, .aload_n 0, 0), (168, .iload 5, 0), (170, .invokevirtual 175, 0), (173, .i2l, 0), (174, .invokestatic 277, 0), (177, .lstore_n 3, 0), (178, .iinc 5 1, 0), (181, .goto (-21), 160), (184, .lload_n 3, 0), (185, .lreturn, 0)] := rfl
theorem at_X5_addTown_55 : mm_at 55 kdX5_addTown = [(55, .iload 5, 0), (57, .bipush 10, 0), (59, .if_icmp .ge 61, 120), (62, .iconst 0, 0), (63, .istore 6, 0), (65, .iload 6, 0), (67, .iconst 2, 0), (68, .if_icmp .ge 27, 95), (71, .lload_n 3, 0), (72, .aload_n 0, 0), (73, .aload_n 0, 0), (74, .invokevirtual 79, 0), (77, .iload 5, 0), (79, .iload 6, 0), (81, .invokevirtual 64, 0), (84, .i2l, 0), (85, .invokestatic 277, 0), (88, .lstore_n 3, 0), (89, .iinc 6 1, 0), (92, .goto (-27), 65), (95, .lload_n 3, 0), (96, .aload_n 0, 0), (97, .aload_n 0, 0), (98, .invokevirtual 79, 0), (101, .iload 5, 0), (103, .invokevirtual 83, 0), (106, .invokestatic 56, 0), (109, .i2l, 0), (110, .invokestatic 277, 0), (113, .lstore_n 3, 0), (114, .iinc 5 1, 0), (117, .goto (-62), 55), (120, .lload_n 3, 0), (121, .aload_n 0, 0), (122, .aload_n 0, 0), (123, .invokevirtual 79, 0), (126, .invokevirtual 75, 0), (129, .i2l, 0), (130, .invokestatic 277, 0), (133, .aload_n 0, 0), (134, .aload_n 0, 0), (135, .invokevirtual 79, 0), (138, .invokevirtual 71, 0), (141, .invokestatic 56, 0), (144, .i2l, 0), (145, .invokestatic 277, 0), (148, .aload_n 0, 0), (149, .invokevirtual 172, 0), (152, .i2l, 0), (153, .invokestatic 277, 0), (156, .lstore_n 3, 0), (157, .iconst 0, 0), (158, .istore 5, 0), (160, .iload 5, 0), (162, .iconst 3, 0), (163, .if_icmp .ge 21, 184), (166, .lload_n 3, 0), (167, .aload_n 0, 0), (168, .iload 5, 0), (170, .invokevirtual 175, 0), (173, .i2l, 0), (174, .invokestatic 277, 0), (177, .lstore_n 3, 0), (178, .iinc 5 1, 0), (181, .goto (-21), 160), (184, .lload_n 3, 0), (185, .lreturn, 0)] := rfl
theorem at_X5_addTown_65 : mm_at 65 kdX5_addTown = [(65, .iload 6, 0), (67, .iconst 2, 0), (68, .if_icmp .ge 27, 95), (71, .lload_n 3, 0), (72, .aload_n 0, 0), (73, .aload_n 0, 0), (74, .invokevirtual 79, 0), (77, .iload 5, 0), (79, .iload 6, 0), (81, .invokevirtual 64, 0), (84, .i2l, 0), (85, .invokestatic 277, 0), (88, .lstore_n 3, 0), (89, .iinc 6 1, 0), (92, .goto (-27), 65), (95, .lload_n 3, 0), (96, .aload_n 0, 0), (97, .aload_n 0, 0), (98, .invokevirtual 79, 0), (101, .iload 5, 0), (103, .invokevirtual 83, 0), (106, .invokestatic 56, 0), (109, .i2l, 0), (110, .invokestatic 277, 0), (113, .lstore_n 3, 0), (114, .iinc 5 1, 0), (117, .goto (-62), 55), (120, .lload_n 3, 0), (121, .aload_n 0, 0), (122, .aload_n 0, 0), (123, .invokevirtual 79, 0), (126, .invokevirtual 75, 0), (129, .i2l, 0), (130, .invokestatic 277, 0), (133, .aload_n 0, 0), (134, .aload_n 0, 0), (135, .invokevirtual 79, 0), (138, .invokevirtual 71, 0), (141, .invokestatic 56, 0), (144, .i2l, 0), (145, .invokestatic 277, 0), (148, .aload_n 0, 0), (149, .invokevirtual 172, 0), (152, .i2l, 0), (153, .invokestatic 277, 0), (156, .lstore_n 3, 0), (157, .iconst 0, 0), (158, .istore 5, 0), (160, .iload 5, 0), (162, .iconst 3, 0), (163, .if_icmp .ge 21, 184), (166, .lload_n 3, 0), (167, .aload_n 0, 0), (168, .iload 5, 0), (170, .invokevirtual 175, 0), (173, .i2l, 0), (174, .invokestatic 277, 0), (177, .lstore_n 3, 0), (178, .iinc 5 1, 0), (181, .goto (-21), 160), (184, .lload_n 3, 0), (185, .lreturn, 0)] := rfl
theorem at_X5_addTown_95 : mm_at 95 kdX5_addTown = [(95, .lload_n 3, 0), (96, .aload_n 0, 0), (97, .aload_n 0, 0), (98, .invokevirtual 79, 0), (101, .iload 5, 0), (103, .invokevirtual 83, 0), (106, .invokestatic 56, 0), (109, .i2l, 0), (110, .invokestatic 277, 0), (113, .lstore_n 3, 0), (114, .iinc 5 1, 0), (117, .goto (-62), 55), (120, .lload_n 3, 0), (121, .aload_n 0, 0), (122, .aload_n 0, 0), (123, .invokevirtual 79, 0), (126, .invokevirtual 75, 0), (129, .i2l, 0), (130, .invokestatic 277, 0), (133, .aload_n 0, 0), (134, .aload_n 0, 0), (135, .invokevirtual 79, 0), (138, .invokevirtual 71, 0), (141, .invokestatic 56, 0), (144, .i2l, 0), (145, .invokestatic 277, 0), (148, .aload_n 0, 0), (149, .invokevirtual 172, 0), (152, .i2l, 0), (153, .invokestatic 277, 0), (156, .lstore_n 3, 0), (157, .iconst 0, 0), (158, .istore 5, 0), (160, .iload 5, 0), (162, .iconst 3, 0), (163, .if_icmp .ge 21, 184), (166, .lload_n 3, 0), (167, .aload_n 0, 0), (168, .iload 5, 0), (170, .invokevirtual 175, 0), (173, .i2l, 0), (174, .invokestatic 277, 0), (177, .lstore_n 3, 0), (178, .iinc 5 1, 0), (181, .goto (-21), 160), (184, .lload_n 3, 0), (185, .lreturn, 0)] := rfl
theorem at_X5_addTown_120 : mm_at 120 kdX5_addTown = [(120, .lload_n 3, 0), (121, .aload_n 0, 0), (122, .aload_n 0, 0), (123, .invokevirtual 79, 0), (126, .invokevirtual 75, 0), (129, .i2l, 0), (130, .invokestatic 277, 0), (133, .aload_n 0, 0), (134, .aload_n 0, 0), (135, .invokevirtual 79, 0), (138, .invokevirtual 71, 0), (141, .invokestatic 56, 0), (144, .i2l, 0), (145, .invokestatic 277, 0), (148, .aload_n 0, 0), (149, .invokevirtual 172, 0), (152, .i2l, 0), (153, .invokestatic 277, 0), (156, .lstore_n 3, 0), (157, .iconst 0, 0), (158, .istore 5, 0), (160, .iload 5, 0), (162, .iconst 3, 0), (163, .if_icmp .ge 21, 184), (166, .lload_n 3, 0), (167, .aload_n 0, 0), (168, .iload 5, 0), (170, .invokevirtual 175, 0), (173, .i2l, 0), (174, .invokestatic 277, 0), (177, .lstore_n 3, 0), (178, .iinc 5 1, 0), (181, .goto (-21), 160), (184, .lload_n 3, 0), (185, .lreturn, 0)] := rfl
theorem at_X5_addTown_160 : mm_at 160 kdX5_addTown = [(160, .iload 5, 0), (162, .iconst 3, 0), (163, .if_icmp .ge 21, 184), (166, .lload_n 3, 0), (167, .aload_n 0, 0), (168, .iload 5, 0), (170, .invokevirtual 175, 0), (173, .i2l, 0), (174, .invokestatic 277, 0), (177, .lstore_n 3, 0), (178, .iinc 5 1, 0), (181, .goto (-21), 160), (184, .lload_n 3, 0), (185, .lreturn, 0)] := rfl
theorem at_X5_addTown_184 : mm_at 184 kdX5_addTown = [(184, .lload_n 3, 0), (185, .lreturn, 0)] := rfl
def sp_X5_addTown : mm_S := fun av M d Q => match av with
  | [.inr (.inr (.inl o)), .inr (.inl s)] =>  o = 17 ∧ xA M ∧ ∀ r kd, kdR (vX M 3) (vX M 4) (vX M 2 4).toNat (vX M 2 5) kd → r = dgT (vX M) s kd → Q (.inl (some (mm_L r))) M d
  | _ => False
def ct_X5_addTown : List (Nat × mm_Ca) := [(277, (1, 2, 0, sp_X5_add, 0)), (79, (0, 1, 14, sp_X5_all, 0)), (64, (0, 4, 14, sp_X5_waysOf, 0)), (83, (0, 3, 14, sp_X5_isStartOf, 0)), (56, (1, 1, 0, sp_X5_one, 0)), (75, (0, 2, 14, sp_X5_oddOf, 0)), (71, (0, 2, 14, sp_X5_hang, 0)), (172, (0, 1, 14, sp_X5_kindOf, 0)), (175, (0, 2, 14, sp_X5_ruleOf, 0))]
abbrev rr_X5_addTown (Q : mm_Q) := mm_run (mm_look flX5) (mm_look ct_X5_addTown) mm_x0 (mm_look ([] : List (Nat × Int))) (fun _ => none) 3 0 (fun _ _ => none) Q kdX5_addTown
set_option maxRecDepth 20000 in
theorem lp4_X5_addTown {M : mm_M} {d : List Nat} {Q : mm_Q} {s0 D : Int} (ht : tX M) (hb : M 17 4 = 0 ∨ M 17 4 = 1) (hq : Q (.inl (some (mm_L (g4 D (M 17 5) (M 17 6) (M 17 4) 3)))) M d) : ∀ (j i : Nat) (x6 : Option mm_V), i + j = 3 → rr_X5_addTown Q 160 [some (mm_R 17), some (mm_L s0), none, some (mm_L (g4 D (M 17 5) (M 17 6) (M 17 4) i)), none, some (mm_I i), x6] [] M d 0 := by
  have t6 := ht.2.2.2.1
  have t7 := ht.2.2.2.2
  have t6 : 0 ≤ M 17 5 ∧ M 17 5 ≤ 5 := t6
  have t7 : 0 ≤ M 17 6 ∧ M 17 6 ≤ 4 := t7
  intro j
  induction j with
  | zero =>
    intro i x6 hi
    have e : i = 3 := by omega
    subst e
    obtain ⟨K, hK, hK2⟩ : ∃ K : Nat → mm_K, (∀ t ls st M d u, K t ls st M d u → rr_X5_addTown Q t ls st M d u) ∧ (∀ t ls st M d u, rr_X5_addTown Q t ls st M d u → K t ls st M d u) := ⟨rr_X5_addTown Q, fun _ _ _ _ _ _ h => h, fun _ _ _ _ _ _ h => h⟩
    refine mm_run_at (stop := [166]) (S := K) kkX5_addTown 90 ?_ (fun _ _ _ _ _ _ _ h => hK _ _ _ _ _ _ h)
    repeat' (first | with_reducible assumption | with_reducible exact mm_i17 | with_reducible exact mm_i18 | with_reducible exact mm_i19 | with_reducible exact mm_i20 | with_reducible exact mm_i21 | with_reducible exact mm_i22 | ((with_reducible show mm_rv _ _ _ _ _); first | exact True.intro | exact mm_i17 | exact mm_i18 | exact mm_i19 | exact mm_i20 | exact mm_i21 | exact mm_i22) | ((with_reducible show mm_bool _ _); first | exact True.intro | exact Or.inl rfl | exact Or.inr rfl | (show (_ : Int) = 0 ∨ _ = 1)) | refine And.intro ?_ ?_ | intro _ | with_reducible exact True.intro | exact rfl | with_reducible exact Or.inl rfl | with_reducible exact Or.inr rfl | exact Nat.le_of_ble_eq_true rfl)
    all_goals (try simp (disch := omega) only [InI, Int.toNat_natCast, Int.tmod_eq_emod_of_nonneg, Int.tdiv_eq_ediv_of_nonneg, true_implies, true_or, or_true, mm_l18, mm_l19, mm_l20, mm_l21, mm_l22] at *)
    all_goals first | omega | exact hq | skip
  | succ j ih =>
    intro i x6 hi
    obtain ⟨K, hK, hK2⟩ : ∃ K : Nat → mm_K, (∀ t ls st M d u, K t ls st M d u → rr_X5_addTown Q t ls st M d u) ∧ (∀ t ls st M d u, rr_X5_addTown Q t ls st M d u → K t ls st M d u) := ⟨rr_X5_addTown Q, fun _ _ _ _ _ _ h => h, fun _ _ _ _ _ _ h => h⟩
    have st : K 160 [some (mm_R 17), some (mm_L s0), none, some (mm_L (g4 D (M 17 5) (M 17 6) (M 17 4) i * 31 + mm_w (if (i : Int) = 0 then M 17 5 else if (i : Int) = 1 then M 17 6 else M 17 4))), none, some (mm_I ((i : Int) + 1)), x6] [] M d 0 := by
      rw [g4_w (by omega) (mw_id ⟨by omega, by omega⟩) (mw_id ⟨by omega, by omega⟩) (mw_01 hb)]
      exact hK2 _ _ _ _ _ _ (ih (i + 1) x6 (by omega))
    clear ih hq
    refine mm_run_at (stop := [160, 184]) (S := K) kkX5_addTown 90 ?_ (fun _ _ _ _ _ _ _ h => hK _ _ _ _ _ _ h)
    repeat' (first | with_reducible assumption | with_reducible exact mm_i17 | with_reducible exact mm_i18 | with_reducible exact mm_i19 | with_reducible exact mm_i20 | with_reducible exact mm_i21 | with_reducible exact mm_i22 | ((with_reducible show mm_rv _ _ _ _ _); first | exact True.intro | exact mm_i17 | exact mm_i18 | exact mm_i19 | exact mm_i20 | exact mm_i21 | exact mm_i22) | ((with_reducible show mm_bool _ _); first | exact True.intro | exact Or.inl rfl | exact Or.inr rfl | (show (_ : Int) = 0 ∨ _ = 1)) | refine And.intro ?_ ?_ | intro _ | with_reducible exact True.intro | exact rfl | with_reducible exact Or.inl rfl | with_reducible exact Or.inr rfl | exact Nat.le_of_ble_eq_true rfl)
    all_goals (try simp (disch := omega) only [InI, Int.toNat_natCast, Int.tmod_eq_emod_of_nonneg, Int.tdiv_eq_ediv_of_nonneg, true_implies, true_or, or_true, mm_l18, mm_l19, mm_l20, mm_l21, mm_l22] at *)
    all_goals first | omega | exact st | skip
set_option maxRecDepth 20000 in
theorem lp3_X5_addTown {M : mm_M} {d : List Nat} {Q : mm_Q} {s0 s : Int} {i : Nat} (hi : i < 10) (ha : xA M) (hq : rr_X5_addTown Q 95 [some (mm_R 17), some (mm_L s0), none, some (mm_L (g4 s (oc (M 18) (2 ^ (M 17 1).toNat - 1) i (M 17 1).toNat + oc (M 19) (2 ^ (M 17 1).toNat - 1) i (M 17 1).toNat) (oc (M 18) (2 ^ (M 17 1).toNat - 1) i (M 17 1).toNat) 0 2)), none, some (mm_I i), some (mm_I 2)] [] M d 0) : ∀ (j x : Nat), x + j = 2 → rr_X5_addTown Q 65 [some (mm_R 17), some (mm_L s0), none, some (mm_L (g4 s (oc (M 18) (2 ^ (M 17 1).toNat - 1) i (M 17 1).toNat + oc (M 19) (2 ^ (M 17 1).toNat - 1) i (M 17 1).toNat) (oc (M 18) (2 ^ (M 17 1).toNat - 1) i (M 17 1).toNat) 0 x)), none, some (mm_I i), some (mm_I x)] [] M d 0 := by
  have ht := ha.t
  obtain ⟨a, hA⟩ : ∃ a, a = oc (M 18) (2 ^ (M 17 1).toNat - 1) i (M 17 1).toNat := ⟨_, rfl⟩
  obtain ⟨b, hB⟩ : ∃ b, b = oc (M 19) (2 ^ (M 17 1).toNat - 1) i (M 17 1).toNat := ⟨_, rfl⟩
  rw [← hA, ← hB] at hq
  rw [← hA, ← hB]
  intro j
  induction j with
  | zero =>
    intro x hx
    have e : x = 2 := by omega
    subst e
    obtain ⟨K, hK, hK2⟩ : ∃ K : Nat → mm_K, (∀ t ls st M d u, K t ls st M d u → rr_X5_addTown Q t ls st M d u) ∧ (∀ t ls st M d u, rr_X5_addTown Q t ls st M d u → K t ls st M d u) := ⟨rr_X5_addTown Q, fun _ _ _ _ _ _ h => h, fun _ _ _ _ _ _ h => h⟩
    have h9 := hK2 _ _ _ _ _ _ hq
    clear hq
    refine mm_run_at (stop := [71, 95]) (S := K) kkX5_addTown 90 ?_ (fun _ _ _ _ _ _ _ h => hK _ _ _ _ _ _ h)
    repeat' (first | with_reducible assumption | with_reducible exact mm_i17 | with_reducible exact mm_i18 | with_reducible exact mm_i19 | with_reducible exact mm_i20 | with_reducible exact mm_i21 | with_reducible exact mm_i22 | ((with_reducible show mm_rv _ _ _ _ _); first | exact True.intro | exact mm_i17 | exact mm_i18 | exact mm_i19 | exact mm_i20 | exact mm_i21 | exact mm_i22) | ((with_reducible show mm_bool _ _); first | exact True.intro | exact Or.inl rfl | exact Or.inr rfl | (show (_ : Int) = 0 ∨ _ = 1)) | refine And.intro ?_ ?_ | intro _ | with_reducible exact True.intro | exact rfl | with_reducible exact Or.inl rfl | with_reducible exact Or.inr rfl | exact Nat.le_of_ble_eq_true rfl)
    all_goals (try simp (disch := omega) only [InI, Int.toNat_natCast, Int.tmod_eq_emod_of_nonneg, Int.tdiv_eq_ediv_of_nonneg, true_implies, true_or, or_true, mm_l18, mm_l19, mm_l20, mm_l21, mm_l22] at *)
    all_goals first | omega | exact h9 | skip
  | succ j ih =>
    intro x hx
    obtain ⟨K, hK, hK2⟩ : ∃ K : Nat → mm_K, (∀ t ls st M d u, K t ls st M d u → rr_X5_addTown Q t ls st M d u) ∧ (∀ t ls st M d u, rr_X5_addTown Q t ls st M d u → K t ls st M d u) := ⟨rr_X5_addTown Q, fun _ _ _ _ _ _ h => h, fun _ _ _ _ _ _ h => h⟩
    have st : ∀ S, (S = 2 ^ (M 17 1).toNat - 1 ∧ 0 ≤ S ∧ S < 1073741824) → ∀ r, (((x : Int) = 0 → r = oc (M 18) S i (M 17 1).toNat + oc (M 19) S i (M 17 1).toNat) ∧ ((x : Int) = 1 → r = oc (M 18) S i (M 17 1).toNat) ∧ ((x : Int) ≠ 0 → (x : Int) ≠ 1 → r = oc (M 19) S i (M 17 1).toNat) ∧ 0 ≤ r ∧ r ≤ 60) → K 65 [some (mm_R 17), some (mm_L s0), none, some (mm_L (g4 s (a + b) a 0 x * 31 + mm_w r)), none, some (mm_I i), some (mm_I ((x : Int) + 1))] [] M d 0 := fun S hS r hr => by
      have h3 := hK2 _ _ _ _ _ _ (ih (x + 1) (by omega))
      rw [hS.1] at hr
      rw [mw_id (x := r) ⟨by omega, by omega⟩]
      have e9 : g4 s (a + b) a 0 x * 31 + r = g4 s (a + b) a 0 (x + 1) := by
        rw [g4_s (by omega)]
        by_cases e : (x : Int) = 0
        · rw [if_pos e, hr.1 e, hA, hB]
        · rw [if_neg e, if_pos (by omega), hr.2.1 (by omega), hA]
      rw [e9]
      exact h3
    clear ih hq hA hB
    refine mm_run_at (stop := [65, 95]) (S := K) kkX5_addTown 90 ?_ (fun _ _ _ _ _ _ _ h => hK _ _ _ _ _ _ h)
    repeat' (first | with_reducible assumption | with_reducible exact mm_i17 | with_reducible exact mm_i18 | with_reducible exact mm_i19 | with_reducible exact mm_i20 | with_reducible exact mm_i21 | with_reducible exact mm_i22 | ((with_reducible show mm_rv _ _ _ _ _); first | exact True.intro | exact mm_i17 | exact mm_i18 | exact mm_i19 | exact mm_i20 | exact mm_i21 | exact mm_i22) | ((with_reducible show mm_bool _ _); first | exact True.intro | exact Or.inl rfl | exact Or.inr rfl | (show (_ : Int) = 0 ∨ _ = 1)) | refine And.intro ?_ ?_ | intro _ | with_reducible exact True.intro | exact rfl | with_reducible exact Or.inl rfl | with_reducible exact Or.inr rfl | exact Nat.le_of_ble_eq_true rfl)
    all_goals (try simp (disch := omega) only [InI, Int.toNat_natCast, Int.tmod_eq_emod_of_nonneg, Int.tdiv_eq_ediv_of_nonneg, true_implies, true_or, or_true, mm_l18, mm_l19, mm_l20, mm_l21, mm_l22] at *)
    all_goals first | omega | exact st _ (by assumption) _ (by assumption) | skip
set_option maxRecDepth 20000 in
theorem lp2_X5_addTown {M : mm_M} {d : List Nat} {Q : mm_Q} {s0 s1 : Int} (ha : xA M) (hq : ∀ x6, rr_X5_addTown Q 120 [some (mm_R 17), some (mm_L s0), none, some (mm_L (dgC (vX M) s1 10)), none, some (mm_I 10), x6] [] M d 0) : ∀ (j i : Nat) (x6 : Option mm_V), i + j = 10 → rr_X5_addTown Q 55 [some (mm_R 17), some (mm_L s0), none, some (mm_L (dgC (vX M) s1 i)), none, some (mm_I i), x6] [] M d 0 := by
  have ht := ha.t
  intro j
  induction j with
  | zero =>
    intro i x6 hi
    have e : i = 10 := by omega
    subst e
    obtain ⟨K, hK, hK2⟩ : ∃ K : Nat → mm_K, (∀ t ls st M d u, K t ls st M d u → rr_X5_addTown Q t ls st M d u) ∧ (∀ t ls st M d u, rr_X5_addTown Q t ls st M d u → K t ls st M d u) := ⟨rr_X5_addTown Q, fun _ _ _ _ _ _ h => h, fun _ _ _ _ _ _ h => h⟩
    have h9 := hK2 _ _ _ _ _ _ (hq x6)
    clear hq
    refine mm_run_at (stop := [62, 120]) (S := K) kkX5_addTown 90 ?_ (fun _ _ _ _ _ _ _ h => hK _ _ _ _ _ _ h)
    repeat' (first | with_reducible assumption | with_reducible exact mm_i17 | with_reducible exact mm_i18 | with_reducible exact mm_i19 | with_reducible exact mm_i20 | with_reducible exact mm_i21 | with_reducible exact mm_i22 | ((with_reducible show mm_rv _ _ _ _ _); first | exact True.intro | exact mm_i17 | exact mm_i18 | exact mm_i19 | exact mm_i20 | exact mm_i21 | exact mm_i22) | ((with_reducible show mm_bool _ _); first | exact True.intro | exact Or.inl rfl | exact Or.inr rfl | (show (_ : Int) = 0 ∨ _ = 1)) | refine And.intro ?_ ?_ | intro _ | with_reducible exact True.intro | exact rfl | with_reducible exact Or.inl rfl | with_reducible exact Or.inr rfl | exact Nat.le_of_ble_eq_true rfl)
    all_goals (try simp (disch := omega) only [InI, Int.toNat_natCast, Int.tmod_eq_emod_of_nonneg, Int.tdiv_eq_ediv_of_nonneg, true_implies, true_or, or_true, mm_l18, mm_l19, mm_l20, mm_l21, mm_l22] at *)
    all_goals first | omega | exact h9 | skip
  | succ j ih =>
    intro i x6 hi
    have hs := all_in (n := (M 17 1).toNat)
    obtain ⟨s, hs2⟩ : ∃ s, s = dgC (vX M) s1 i := ⟨_, rfl⟩
    have k95 : rr_X5_addTown Q 95 [some (mm_R 17), some (mm_L s0), none, some (mm_L (g4 s (oc (M 18) (2 ^ (M 17 1).toNat - 1) i (M 17 1).toNat + oc (M 19) (2 ^ (M 17 1).toNat - 1) i (M 17 1).toNat) (oc (M 18) (2 ^ (M 17 1).toNat - 1) i (M 17 1).toNat) 0 2)), none, some (mm_I i), some (mm_I 2)] [] M d 0 := by
      obtain ⟨X, hX⟩ : ∃ X, X = g4 s (oc (M 18) (2 ^ (M 17 1).toNat - 1) i (M 17 1).toNat + oc (M 19) (2 ^ (M 17 1).toNat - 1) i (M 17 1).toNat) (oc (M 18) (2 ^ (M 17 1).toNat - 1) i (M 17 1).toNat) 0 2 := ⟨_, rfl⟩
      rw [← hX]
      obtain ⟨K, hK, hK2⟩ : ∃ K : Nat → mm_K, (∀ t ls st M d u, K t ls st M d u → rr_X5_addTown Q t ls st M d u) ∧ (∀ t ls st M d u, rr_X5_addTown Q t ls st M d u → K t ls st M d u) := ⟨rr_X5_addTown Q, fun _ _ _ _ _ _ h => h, fun _ _ _ _ _ _ h => h⟩
      have st : ∀ x6 r, ((ST (M 18) (M 19) (M 17 1).toNat (M 17 4) (2 ^ (M 17 1).toNat - 1) i → r = 1) ∧ (¬ ST (M 18) (M 19) (M 17 1).toNat (M 17 4) (2 ^ (M 17 1).toNat - 1) i → r = 0)) → K 55 [some (mm_R 17), some (mm_L s0), none, some (mm_L (X * 31 + mm_w r)), none, some (mm_I ((i : Int) + 1)), x6] [] M d 0 := fun x6 r hr => by
        have h3 := hK2 _ _ _ _ _ _ (ih (i + 1) x6 (by omega))
        rw [mw_ind hr, hX, hs2]
        exact h3
      clear ih hq hX hs2
      have k109 : ∀ r, ((ST (M 18) (M 19) (M 17 1).toNat (M 17 4) (2 ^ (M 17 1).toNat - 1) i → r = 1) ∧ (¬ ST (M 18) (M 19) (M 17 1).toNat (M 17 4) (2 ^ (M 17 1).toNat - 1) i → r = 0)) → K 106 [some (mm_R 17), some (mm_L s0), none, some (mm_L X), none, some (mm_I i), some (mm_I 2)] [mm_I r, mm_L X] M d 0 := by
        intro r hr
        have h4 := in01 hr
        have st := fun x6 => st x6 r hr
        clear hr
        refine hK2 _ _ _ _ _ _ ?_
        refine mm_run_at (stop := [55]) (S := K) kkX5_addTown 90 ?_ (fun _ _ _ _ _ _ _ h => hK _ _ _ _ _ _ h)
        repeat' (first | with_reducible assumption | with_reducible exact mm_i17 | with_reducible exact mm_i18 | with_reducible exact mm_i19 | with_reducible exact mm_i20 | with_reducible exact mm_i21 | with_reducible exact mm_i22 | ((with_reducible show mm_rv _ _ _ _ _); first | exact True.intro | exact mm_i17 | exact mm_i18 | exact mm_i19 | exact mm_i20 | exact mm_i21 | exact mm_i22) | ((with_reducible show mm_bool _ _); first | exact True.intro | exact Or.inl rfl | exact Or.inr rfl | (show (_ : Int) = 0 ∨ _ = 1)) | refine And.intro ?_ ?_ | intro _ | with_reducible exact True.intro | exact rfl | with_reducible exact Or.inl rfl | with_reducible exact Or.inr rfl | exact Nat.le_of_ble_eq_true rfl)
        all_goals (try simp (disch := omega) only [InI, Int.toNat_natCast, Int.tmod_eq_emod_of_nonneg, Int.tdiv_eq_ediv_of_nonneg, true_implies, true_or, or_true, mm_l18, mm_l19, mm_l20, mm_l21, mm_l22] at *)
        all_goals first | omega | exact st _ | skip
      refine mm_run_at (stop := [106]) (S := K) kkX5_addTown 90 ?_ (fun _ _ _ _ _ _ _ h => hK _ _ _ _ _ _ h)
      refine mm_c5 rfl (Nat.le_of_ble_eq_true rfl) (by exact mm_i17) (Nat.le_of_ble_eq_true rfl) (Nat.le_of_ble_eq_true rfl) (mm_a3 rfl ht (fun r hr => ?_))
      exact mm_c5 rfl (Nat.le_of_ble_eq_true rfl) (by exact mm_i17) (Nat.le_of_ble_eq_true rfl) (Nat.le_of_ble_eq_true rfl) (mm_a6 rfl ht hr.2 (hs r hr) ⟨by omega, by omega⟩ (fun r2 hr2 => k109 r2 (by rw [← hr.1]; exact hr2)))
    have h65 := lp3_X5_addTown (d := d) (Q := Q) (s0 := s0) (s := s) (show i < 10 by omega) ha k95 2 0 (by omega)
    rw [← hs2]
    obtain ⟨K, hK, hK2⟩ : ∃ K : Nat → mm_K, (∀ t ls st M d u, K t ls st M d u → rr_X5_addTown Q t ls st M d u) ∧ (∀ t ls st M d u, rr_X5_addTown Q t ls st M d u → K t ls st M d u) := ⟨rr_X5_addTown Q, fun _ _ _ _ _ _ h => h, fun _ _ _ _ _ _ h => h⟩
    have h65 := hK2 _ _ _ _ _ _ h65
    clear ih k95 hq
    refine mm_run_at (stop := [65, 120]) (S := K) kkX5_addTown 90 ?_ (fun _ _ _ _ _ _ _ h => hK _ _ _ _ _ _ h)
    repeat' (first | with_reducible assumption | with_reducible exact mm_i17 | with_reducible exact mm_i18 | with_reducible exact mm_i19 | with_reducible exact mm_i20 | with_reducible exact mm_i21 | with_reducible exact mm_i22 | ((with_reducible show mm_rv _ _ _ _ _); first | exact True.intro | exact mm_i17 | exact mm_i18 | exact mm_i19 | exact mm_i20 | exact mm_i21 | exact mm_i22) | ((with_reducible show mm_bool _ _); first | exact True.intro | exact Or.inl rfl | exact Or.inr rfl | (show (_ : Int) = 0 ∨ _ = 1)) | refine And.intro ?_ ?_ | intro _ | with_reducible exact True.intro | exact rfl | with_reducible exact Or.inl rfl | with_reducible exact Or.inr rfl | exact Nat.le_of_ble_eq_true rfl)
    all_goals (try simp (disch := omega) only [InI, Int.toNat_natCast, Int.tmod_eq_emod_of_nonneg, Int.tdiv_eq_ediv_of_nonneg, true_implies, true_or, or_true, mm_l18, mm_l19, mm_l20, mm_l21, mm_l22] at *)
    all_goals first | omega | exact h65 | skip
set_option maxRecDepth 20000 in
theorem lp_X5_addTown {M : mm_M} {d : List Nat} {Q : mm_Q} {s0 s1 : Int} {n : Nat} (ha : xA M) (hn : M 17 1 = n) (hq : ∀ x6, rr_X5_addTown Q 52 [some (mm_R 17), some (mm_L s0), none, some (mm_L (dgF (vX M) s1 n)), none, some (mm_I n), x6] [] M d 0) : ∀ (j i : Nat) (x6 : Option mm_V), i + j = n → rr_X5_addTown Q 13 [some (mm_R 17), some (mm_L s0), none, some (mm_L (dgF (vX M) s1 i)), none, some (mm_I i), x6] [] M d 0 := by
  have ht := ha.t
  have t1 := ht.1
  intro j
  induction j with
  | zero =>
    intro i x6 hi
    have e : i = n := by omega
    subst e
    obtain ⟨K, hK, hK2⟩ : ∃ K : Nat → mm_K, (∀ t ls st M d u, K t ls st M d u → rr_X5_addTown Q t ls st M d u) ∧ (∀ t ls st M d u, rr_X5_addTown Q t ls st M d u → K t ls st M d u) := ⟨rr_X5_addTown Q, fun _ _ _ _ _ _ h => h, fun _ _ _ _ _ _ h => h⟩
    have h9 := hK2 _ _ _ _ _ _ (hq x6)
    clear hq
    refine mm_run_at (stop := [22, 52]) (S := K) kkX5_addTown 90 ?_ (fun _ _ _ _ _ _ _ h => hK _ _ _ _ _ _ h)
    repeat' (first | with_reducible assumption | with_reducible exact mm_i17 | with_reducible exact mm_i18 | with_reducible exact mm_i19 | with_reducible exact mm_i20 | with_reducible exact mm_i21 | with_reducible exact mm_i22 | ((with_reducible show mm_rv _ _ _ _ _); first | exact True.intro | exact mm_i17 | exact mm_i18 | exact mm_i19 | exact mm_i20 | exact mm_i21 | exact mm_i22) | ((with_reducible show mm_bool _ _); first | exact True.intro | exact Or.inl rfl | exact Or.inr rfl | (show (_ : Int) = 0 ∨ _ = 1)) | refine And.intro ?_ ?_ | intro _ | with_reducible exact True.intro | exact rfl | with_reducible exact Or.inl rfl | with_reducible exact Or.inr rfl | exact Nat.le_of_ble_eq_true rfl)
    all_goals (try simp (disch := omega) only [InI, Int.toNat_natCast, Int.tmod_eq_emod_of_nonneg, Int.tdiv_eq_ediv_of_nonneg, true_implies, true_or, or_true, mm_l18, mm_l19, mm_l20, mm_l21, mm_l22] at *)
    all_goals first | omega | exact h9 | skip
  | succ j ih =>
    intro i x6 hi
    have b1 := ht.2.1 i (by omega)
    obtain ⟨K, hK, hK2⟩ : ∃ K : Nat → mm_K, (∀ t ls st M d u, K t ls st M d u → rr_X5_addTown Q t ls st M d u) ∧ (∀ t ls st M d u, rr_X5_addTown Q t ls st M d u → K t ls st M d u) := ⟨rr_X5_addTown Q, fun _ _ _ _ _ _ h => h, fun _ _ _ _ _ _ h => h⟩
    have st : K 13 [some (mm_R 17), some (mm_L s0), none, some (mm_L ((dgF (vX M) s1 i * 31 + mm_w (M 18 i)) * 31 + mm_w (M 19 i))), none, some (mm_I ((i : Int) + 1)), x6] [] M d 0 := by
      rw [mw_id (x := M 18 i) ⟨by omega, by omega⟩, mw_id (x := M 19 i) ⟨by omega, by omega⟩]
      exact hK2 _ _ _ _ _ _ (ih (i + 1) x6 (by omega))
    clear ih hq
    refine mm_run_at (stop := [13, 52]) (S := K) kkX5_addTown 90 ?_ (fun _ _ _ _ _ _ _ h => hK _ _ _ _ _ _ h)
    repeat' (first | with_reducible assumption | with_reducible exact mm_i17 | with_reducible exact mm_i18 | with_reducible exact mm_i19 | with_reducible exact mm_i20 | with_reducible exact mm_i21 | with_reducible exact mm_i22 | ((with_reducible show mm_rv _ _ _ _ _); first | exact True.intro | exact mm_i17 | exact mm_i18 | exact mm_i19 | exact mm_i20 | exact mm_i21 | exact mm_i22) | ((with_reducible show mm_bool _ _); first | exact True.intro | exact Or.inl rfl | exact Or.inr rfl | (show (_ : Int) = 0 ∨ _ = 1)) | refine And.intro ?_ ?_ | intro _ | with_reducible exact True.intro | exact rfl | with_reducible exact Or.inl rfl | with_reducible exact Or.inr rfl | exact Nat.le_of_ble_eq_true rfl)
    all_goals (try simp (disch := omega) only [InI, Int.toNat_natCast, Int.tmod_eq_emod_of_nonneg, Int.tdiv_eq_ediv_of_nonneg, true_implies, true_or, or_true, mm_l18, mm_l19, mm_l20, mm_l21, mm_l22] at *)
    all_goals first | omega | exact st | skip
set_option maxRecDepth 20000 in
theorem rn_X5_addTown : mm_RN flX5 ct_X5_addTown mm_x0 [] 3 0 7 kdX5_addTown sp_X5_addTown := by
  intro av M d Q h
  unfold sp_X5_addTown at h
  split at h
  · rename_i o s
    obtain ⟨rfl, ha, hq⟩ := h
    have ht := ha.t
    have t1 := ht.1
    have hs := all_in (n := (M 17 1).toNat)
    have hb := xA_b ha
    obtain ⟨n, hn⟩ := Int.eq_ofNat_of_zero_le t1.1
    have hn2 : (vX M 2 4).toNat = n := by have h9 : vX M 2 4 = M 17 1 := rfl; omega
    obtain ⟨D, hD⟩ : ∃ D, D = dgC (vX M) (dgF (vX M) (s * 31 + M 17 1) n) 10 := ⟨_, rfl⟩
    have k120 : ∀ x6, rr_X5_addTown Q 120 [some (mm_R 17), some (mm_L s), none, some (mm_L D), none, some (mm_I 10), x6] [] M d 0 := by
      intro x6
      obtain ⟨K, hK, hK2⟩ : ∃ K : Nat → mm_K, (∀ t ls st M d u, K t ls st M d u → rr_X5_addTown Q t ls st M d u) ∧ (∀ t ls st M d u, rr_X5_addTown Q t ls st M d u → K t ls st M d u) := ⟨rr_X5_addTown Q, fun _ _ _ _ _ _ h => h, fun _ _ _ _ _ _ h => h⟩
      have k149 : ∀ r1 r2 r3, (r1 = odn (M 18) (M 19) (M 17 1).toNat (M 17 4) (2 ^ (M 17 1).toNat - 1) 10 ∧ 0 ≤ r1 ∧ r1 ≤ 10) → ((HG (M 18) (M 19) (M 17 1).toNat (2 ^ (M 17 1).toNat - 1) → r2 = 1) ∧ (¬ HG (M 18) (M 19) (M 17 1).toNat (2 ^ (M 17 1).toNat - 1) → r2 = 0)) → kdR (M 18) (M 19) (M 17 1).toNat (M 17 4) r3 → K 152 [some (mm_R 17), some (mm_L s), none, some (mm_L D), none, some (mm_I 10), x6] [mm_I r3, mm_L ((D * 31 + mm_w r1) * 31 + mm_w r2)] M d 0 := by
        intro r1 r2 r3 g1 g2 g3
        have h4 := kd_in g3
        have h9 := fun D2 h => hK2 _ _ _ _ _ _ (lp4_X5_addTown (d := d) (Q := Q) (s0 := s) (D := D2) ht hb (hq _ r3 g3 h) 3 0 x6 (by omega))
        have h9 := h9 (((D * 31 + mm_w r1) * 31 + mm_w r2) * 31 + mm_w r3) (by
          rw [mw_id (x := r1) ⟨by omega, by omega⟩, mw_ind g2, mw_id (x := r3) ⟨by omega, by omega⟩, g1.1, hD, ← hn2]
          first | done | rfl)
        clear hq g1 g2 g3 hD
        refine hK2 _ _ _ _ _ _ ?_
        refine mm_run_at (stop := [160]) (S := K) kkX5_addTown 90 ?_ (fun _ _ _ _ _ _ _ h => hK _ _ _ _ _ _ h)
        repeat' (first | with_reducible assumption | with_reducible exact mm_i17 | with_reducible exact mm_i18 | with_reducible exact mm_i19 | with_reducible exact mm_i20 | with_reducible exact mm_i21 | with_reducible exact mm_i22 | ((with_reducible show mm_rv _ _ _ _ _); first | exact True.intro | exact mm_i17 | exact mm_i18 | exact mm_i19 | exact mm_i20 | exact mm_i21 | exact mm_i22) | ((with_reducible show mm_bool _ _); first | exact True.intro | exact Or.inl rfl | exact Or.inr rfl | (show (_ : Int) = 0 ∨ _ = 1)) | refine And.intro ?_ ?_ | intro _ | with_reducible exact True.intro | exact rfl | with_reducible exact Or.inl rfl | with_reducible exact Or.inr rfl | exact Nat.le_of_ble_eq_true rfl)
        all_goals (try simp (disch := omega) only [InI, Int.toNat_natCast, Int.tmod_eq_emod_of_nonneg, Int.tdiv_eq_ediv_of_nonneg, true_implies, true_or, or_true, mm_l18, mm_l19, mm_l20, mm_l21, mm_l22] at *)
        all_goals first | omega | exact h9 | skip
      have k141 : ∀ r1 r2, (r1 = odn (M 18) (M 19) (M 17 1).toNat (M 17 4) (2 ^ (M 17 1).toNat - 1) 10 ∧ 0 ≤ r1 ∧ r1 ≤ 10) → ((HG (M 18) (M 19) (M 17 1).toNat (2 ^ (M 17 1).toNat - 1) → r2 = 1) ∧ (¬ HG (M 18) (M 19) (M 17 1).toNat (2 ^ (M 17 1).toNat - 1) → r2 = 0)) → K 141 [some (mm_R 17), some (mm_L s), none, some (mm_L D), none, some (mm_I 10), x6] [mm_I r2, mm_L (D * 31 + mm_w r1)] M d 0 := by
        intro r1 r2 g1 g2
        have h4 := in01 g2
        have st := fun r3 g3 => k149 r1 r2 r3 g1 g2 g3
        clear hq k149 g2 hD
        refine hK2 _ _ _ _ _ _ ?_
        refine mm_run_at (stop := [152]) (S := K) kkX5_addTown 90 ?_ (fun _ _ _ _ _ _ _ h => hK _ _ _ _ _ _ h)
        repeat' (first | with_reducible assumption | with_reducible exact mm_i17 | with_reducible exact mm_i18 | with_reducible exact mm_i19 | with_reducible exact mm_i20 | with_reducible exact mm_i21 | with_reducible exact mm_i22 | ((with_reducible show mm_rv _ _ _ _ _); first | exact True.intro | exact mm_i17 | exact mm_i18 | exact mm_i19 | exact mm_i20 | exact mm_i21 | exact mm_i22) | ((with_reducible show mm_bool _ _); first | exact True.intro | exact Or.inl rfl | exact Or.inr rfl | (show (_ : Int) = 0 ∨ _ = 1)) | refine And.intro ?_ ?_ | intro _ | with_reducible exact True.intro | exact rfl | with_reducible exact Or.inl rfl | with_reducible exact Or.inr rfl | exact Nat.le_of_ble_eq_true rfl)
        all_goals (try simp (disch := omega) only [InI, Int.toNat_natCast, Int.tmod_eq_emod_of_nonneg, Int.tdiv_eq_ediv_of_nonneg, true_implies, true_or, or_true, mm_l18, mm_l19, mm_l20, mm_l21, mm_l22] at *)
        all_goals first | omega | exact st _ (by assumption) | skip
      have k130 : ∀ r1, (r1 = odn (M 18) (M 19) (M 17 1).toNat (M 17 4) (2 ^ (M 17 1).toNat - 1) 10 ∧ 0 ≤ r1 ∧ r1 ≤ 10) → K 133 [some (mm_R 17), some (mm_L s), none, some (mm_L D), none, some (mm_I 10), x6] [mm_L (D * 31 + mm_w r1)] M d 0 := by
        intro r1 g1
        refine hK2 _ _ _ _ _ _ ?_
        refine mm_run_at (stop := [141]) (S := K) kkX5_addTown 90 ?_ (fun _ _ _ _ _ _ _ h => hK _ _ _ _ _ _ h)
        refine mm_c5 rfl (Nat.le_of_ble_eq_true rfl) (by exact mm_i17) (Nat.le_of_ble_eq_true rfl) (Nat.le_of_ble_eq_true rfl) (mm_a3 rfl ht (fun r hr => ?_))
        exact mm_c5 rfl (Nat.le_of_ble_eq_true rfl) (by exact mm_i17) (Nat.le_of_ble_eq_true rfl) (Nat.le_of_ble_eq_true rfl) (mm_a5 rfl ht hr.2 (hs r hr) (fun r2 hr2 => k141 r1 r2 g1 (by rw [← hr.1]; exact hr2)))
      have k129 : ∀ r1, (r1 = odn (M 18) (M 19) (M 17 1).toNat (M 17 4) (2 ^ (M 17 1).toNat - 1) 10 ∧ 0 ≤ r1 ∧ r1 ≤ 10) → K 129 [some (mm_R 17), some (mm_L s), none, some (mm_L D), none, some (mm_I 10), x6] [mm_I r1, mm_L D] M d 0 := by
        intro r1 g1
        have h9 := k130 r1 g1
        clear hq k149 k141 k130 hD g1
        refine hK2 _ _ _ _ _ _ ?_
        refine mm_run_at (stop := [133]) (S := K) kkX5_addTown 90 ?_ (fun _ _ _ _ _ _ _ h => hK _ _ _ _ _ _ h)
        repeat' (first | with_reducible assumption | with_reducible exact mm_i17 | with_reducible exact mm_i18 | with_reducible exact mm_i19 | with_reducible exact mm_i20 | with_reducible exact mm_i21 | with_reducible exact mm_i22 | ((with_reducible show mm_rv _ _ _ _ _); first | exact True.intro | exact mm_i17 | exact mm_i18 | exact mm_i19 | exact mm_i20 | exact mm_i21 | exact mm_i22) | ((with_reducible show mm_bool _ _); first | exact True.intro | exact Or.inl rfl | exact Or.inr rfl | (show (_ : Int) = 0 ∨ _ = 1)) | refine And.intro ?_ ?_ | intro _ | with_reducible exact True.intro | exact rfl | with_reducible exact Or.inl rfl | with_reducible exact Or.inr rfl | exact Nat.le_of_ble_eq_true rfl)
        all_goals (try simp (disch := omega) only [InI, Int.toNat_natCast, Int.tmod_eq_emod_of_nonneg, Int.tdiv_eq_ediv_of_nonneg, true_implies, true_or, or_true, mm_l18, mm_l19, mm_l20, mm_l21, mm_l22] at *)
        all_goals first | omega | exact h9 | skip
      clear hq k149 k141 k130 hD
      refine mm_run_at (stop := [129]) (S := K) kkX5_addTown 90 ?_ (fun _ _ _ _ _ _ _ h => hK _ _ _ _ _ _ h)
      refine mm_c5 rfl (Nat.le_of_ble_eq_true rfl) (by exact mm_i17) (Nat.le_of_ble_eq_true rfl) (Nat.le_of_ble_eq_true rfl) (mm_a3 rfl ht (fun r hr => ?_))
      exact mm_c5 rfl (Nat.le_of_ble_eq_true rfl) (by exact mm_i17) (Nat.le_of_ble_eq_true rfl) (Nat.le_of_ble_eq_true rfl) (mm_a4 rfl ht hr.2 (fun r1 hr1 => k129 r1 (by rw [← hr.1]; exact hr1)))
    have k52 : ∀ x6, rr_X5_addTown Q 52 [some (mm_R 17), some (mm_L s), none, some (mm_L (dgF (vX M) (s * 31 + M 17 1) n)), none, some (mm_I n), x6] [] M d 0 := by
      intro x6
      obtain ⟨K, hK, hK2⟩ : ∃ K : Nat → mm_K, (∀ t ls st M d u, K t ls st M d u → rr_X5_addTown Q t ls st M d u) ∧ (∀ t ls st M d u, rr_X5_addTown Q t ls st M d u → K t ls st M d u) := ⟨rr_X5_addTown Q, fun _ _ _ _ _ _ h => h, fun _ _ _ _ _ _ h => h⟩
      have h9 := hK2 _ _ _ _ _ _ (lp2_X5_addTown (d := d) (Q := Q) (s0 := s) (s1 := dgF (vX M) (s * 31 + M 17 1) n) ha (fun x6 => by rw [← hD]; exact k120 x6) 10 0 x6 (by omega))
      clear k120 hq hD
      refine mm_run_at (stop := [55]) (S := K) kkX5_addTown 90 ?_ (fun _ _ _ _ _ _ _ h => hK _ _ _ _ _ _ h)
      repeat' (first | with_reducible assumption | with_reducible exact mm_i17 | with_reducible exact mm_i18 | with_reducible exact mm_i19 | with_reducible exact mm_i20 | with_reducible exact mm_i21 | with_reducible exact mm_i22 | ((with_reducible show mm_rv _ _ _ _ _); first | exact True.intro | exact mm_i17 | exact mm_i18 | exact mm_i19 | exact mm_i20 | exact mm_i21 | exact mm_i22) | ((with_reducible show mm_bool _ _); first | exact True.intro | exact Or.inl rfl | exact Or.inr rfl | (show (_ : Int) = 0 ∨ _ = 1)) | refine And.intro ?_ ?_ | intro _ | with_reducible exact True.intro | exact rfl | with_reducible exact Or.inl rfl | with_reducible exact Or.inr rfl | exact Nat.le_of_ble_eq_true rfl)
      all_goals (try simp (disch := omega) only [InI, Int.toNat_natCast, Int.tmod_eq_emod_of_nonneg, Int.tdiv_eq_ediv_of_nonneg, true_implies, true_or, or_true, mm_l18, mm_l19, mm_l20, mm_l21, mm_l22] at *)
      all_goals first | omega | exact h9 | skip
    have k13 := lp_X5_addTown (d := d) (Q := Q) (s0 := s) (s1 := s * 31 + M 17 1) ha hn k52 n 0 none (by omega)
    have k13 : rr_X5_addTown Q 13 [some (mm_R 17), some (mm_L s), none, some (mm_L (s * 31 + mm_w (M 17 1))), none, some (mm_I 0), none] [] M d 0 := by
      rw [mw_id (x := M 17 1) ⟨by omega, by omega⟩]
      exact k13
    clear k52 k120 hq hD
    obtain ⟨K, hK, hK2⟩ : ∃ K : Nat → mm_K, (∀ t ls st M d u, K t ls st M d u → rr_X5_addTown Q t ls st M d u) ∧ (∀ t ls st M d u, rr_X5_addTown Q t ls st M d u → K t ls st M d u) := ⟨rr_X5_addTown Q, fun _ _ _ _ _ _ h => h, fun _ _ _ _ _ _ h => h⟩
    refine ⟨Nat.le_of_ble_eq_true rfl, mm_run_at (stop := [13]) (S := K) kkX5_addTown 90 ?_ (fun _ _ _ _ _ _ _ h => hK _ _ _ _ _ _ h)⟩
    have k13 := hK2 _ _ _ _ _ _ k13
    repeat' (first | with_reducible assumption | with_reducible exact mm_i17 | with_reducible exact mm_i18 | with_reducible exact mm_i19 | with_reducible exact mm_i20 | with_reducible exact mm_i21 | with_reducible exact mm_i22 | ((with_reducible show mm_rv _ _ _ _ _); first | exact True.intro | exact mm_i17 | exact mm_i18 | exact mm_i19 | exact mm_i20 | exact mm_i21 | exact mm_i22) | ((with_reducible show mm_bool _ _); first | exact True.intro | exact Or.inl rfl | exact Or.inr rfl | (show (_ : Int) = 0 ∨ _ = 1)) | refine And.intro ?_ ?_ | intro _ | with_reducible exact True.intro | exact rfl | with_reducible exact Or.inl rfl | with_reducible exact Or.inr rfl | exact Nat.le_of_ble_eq_true rfl)
    all_goals (try simp (disch := omega) only [InI, Int.toNat_natCast, Int.tmod_eq_emod_of_nonneg, Int.tdiv_eq_ediv_of_nonneg, true_implies, true_or, or_true, mm_l18, mm_l19, mm_l20, mm_l21, mm_l22] at *)
    all_goals first | omega | exact k13 | skip
  · exact h.elim
theorem me_X5_addTown {l : Launch} (hl : l.stackTraces = false) : mm_Met l yX5_addTown cX5_addTown 7 (some .long) [] 13 256 0 sp_X5_addTown := mm_mt hl rn_X5_addTown ⟨plX5, rfl⟩ kkX5_addTown rfl ⟨Nat.le_of_ble_eq_true rfl, Nat.le_of_ble_eq_true rfl⟩ flkX5 (fun _ h => nomatch h) (⟨mm_pe (me_X5_add hl) mwX5_add (mm_t8 56 rfl rfl) (Nat.le_of_ble_eq_true rfl) (Nat.le_of_ble_eq_true rfl), mm_pe (me_X5_all hl) mwX5_all (mm_t6 213 rfl rfl) (Nat.le_of_ble_eq_true rfl) (Nat.le_of_ble_eq_true rfl), mm_pe (me_X5_waysOf hl) mwX5_waysOf (mm_t6 217 rfl rfl) (Nat.le_of_ble_eq_true rfl) (Nat.le_of_ble_eq_true rfl), mm_pe (me_X5_isStartOf hl) mwX5_isStartOf (mm_t7 16 rfl rfl) (Nat.le_of_ble_eq_true rfl) (Nat.le_of_ble_eq_true rfl), mm_pe (me_X5_one hl) mwX5_one (mm_t6 170 rfl rfl) (Nat.le_of_ble_eq_true rfl) (Nat.le_of_ble_eq_true rfl), mm_pe (me_X5_oddOf hl) mwX5_oddOf (mm_t6 228 rfl rfl) (Nat.le_of_ble_eq_true rfl) (Nat.le_of_ble_eq_true rfl), mm_pe (me_X5_hang hl) mwX5_hang (mm_t7 0 rfl rfl) (Nat.le_of_ble_eq_true rfl) (Nat.le_of_ble_eq_true rfl), mm_pe (me_X5_kindOf hl) mwX5_kindOf (mm_t7 8 rfl rfl) (Nat.le_of_ble_eq_true rfl) (Nat.le_of_ble_eq_true rfl), mm_pe (me_X5_ruleOf hl) mwX5_ruleOf (mm_t7 28 rfl rfl) (Nat.le_of_ble_eq_true rfl) (Nat.le_of_ble_eq_true rfl), trivial⟩) (mm_xe0 _) n9X5
theorem at_X5_addWalk_0 : mm_at 0 kdX5_addWalk = [(0, .lload_n 1, 0), (1, .aload_n 0, 0), (2, .getfield 19, 0), (5, .iload_n 3, 0), (6, .iaload, 0), (7, .i2l, 0), (8, .invokestatic 277, 0), (11, .aload_n 0, 0), (12, .getfield 22, 0), (15, .iload_n 3, 0), (16, .iaload, 0), (17, .i2l, 0), (18, .invokestatic 277, 0), (21, .aload_n 0, 0), (22, .iload_n 3, 0), (23, .invokevirtual 108, 0), (26, .i2l, 0), (27, .invokestatic 277, 0), (30, .lstore 4, 0), (32, .iconst 0, 0), (33, .istore 6, 0), (35, .iload 6, 0), (37, .aload_n 0, 0), (38, .getfield 19, 0), (41, .iload_n 3, 0), (42, .iaload, 0), (43, .if_icmp .ge 24, 67), (46, .lload 4, 0), (48, .aload_n 0, 0), (49, .iload_n 3, 0), (50, .iload 6, 0), (52, .invokevirtual 98, 0), (55, .i2l, 0), (56, .invokestatic 277, 0), (59, .lstore 4, 0), (61, .iinc 6 1, 0), (64, .goto (-29), 35), (67, .lload 4, 0), (69, .aload_n 0, 0), (70, .iload_n 3, 0), (71, .invokevirtual 207, 0), (74, .invokestatic 56, 0), (77, .i2l, 0), (78, .invokestatic 277, 0), (81, .aload_n 0, 0), (82, .iload_n 3, 0), (83, .iload_n 3, 0), (84, .iconst 1, 0), (85, .iadd, 0), (86, .iconst 3, 0), (87, .irem, 0), (88, .invokevirtual 213, 0), (91, .i2l, 0), (92, .invokestatic 277, 0), (95, .lreturn, 0)] := rfl
theorem at_X5_addWalk_35 : mm_at 35 kdX5_addWalk = [(35, .iload 6, 0), (37, .aload_n 0, 0), (38, .getfield 19, 0), (41, .iload_n 3, 0), (42, .iaload, 0), (43, .if_icmp .ge 24, 67), (46, .lload 4, 0), (48, .aload_n 0, 0), (49, .iload_n 3, 0), (50, .iload 6, 0), (52, .invokevirtual 98, 0), (55, .i2l, 0), (56, .invokestatic 277, 0), (59, .lstore 4, 0), (61, .iinc 6 1, 0), (64, .goto (-29), 35), (67, .lload 4, 0), (69, .aload_n 0, 0), (70, .iload_n 3, 0), (71, .invokevirtual 207, 0), (74, .invokestatic 56, 0), (77, .i2l, 0), (78, .invokestatic 277, 0), (81, .aload_n 0, 0), (82, .iload_n 3, 0), (83, .iload_n 3, 0), (84, .iconst 1, 0), (85, .iadd, 0), (86, .iconst 3, 0), (87, .irem, 0), (88, .invokevirtual 213, 0), (91, .i2l, 0), (92, .invokestatic 277, 0), (95, .lreturn, 0)] := rfl
theorem at_X5_addWalk_67 : mm_at 67 kdX5_addWalk = [(67, .lload 4, 0), (69, .aload_n 0, 0), (70, .iload_n 3, 0), (71, .invokevirtual 207, 0), (74, .invokestatic 56, 0), (77, .i2l, 0), (78, .invokestatic 277, 0), (81, .aload_n 0, 0), (82, .iload_n 3, 0), (83, .iload_n 3, 0), (84, .iconst 1, 0), (85, .iadd, 0), (86, .iconst 3, 0), (87, .irem, 0), (88, .invokevirtual 213, 0), (91, .i2l, 0), (92, .invokestatic 277, 0), (95, .lreturn, 0)] := rfl
def sp_X5_addWalk : mm_S := fun av M d Q => match av with
  | [.inr (.inr (.inl o)), .inr (.inl s), .inl a] =>  o = 17 ∧ xA M ∧ (0 ≤ a ∧ a < 3) ∧ ∀ t, tuR (vX M) (wk a) (wk ((a + 1) % 3)) t → Q (.inl (some (mm_L (dgW (vX M) s (wk a) t)))) M d
  | _ => False
def ct_X5_addWalk : List (Nat × mm_Ca) := [(277, (1, 2, 0, sp_X5_add, 0)), (108, (0, 2, 14, sp_X5_endOf, 0)), (98, (0, 3, 14, sp_X5_stepOf, 0)), (207, (0, 2, 14, sp_X5_isWhole, 0)), (56, (1, 1, 0, sp_X5_one, 0)), (213, (0, 3, 14, sp_X5_turnTo, 0))]
abbrev rr_X5_addWalk (Q : mm_Q) := mm_run (mm_look flX5) (mm_look ct_X5_addWalk) mm_x0 (mm_look ([] : List (Nat × Int))) (fun _ => none) 3 0 (fun _ _ => none) Q kdX5_addWalk
set_option maxRecDepth 20000 in
theorem lp_X5_addWalk {M : mm_M} {d : List Nat} {Q : mm_Q} {s0 s1 : Int} {k n : Nat} (hk : k < 3) (hn : M 21 k = n) (h30 : n ≤ 30) (hw : ∀ i : Nat, i < n → 0 ≤ M 20 (30 * k + i) ∧ M 20 (30 * k + i) < 100) (hq : rr_X5_addWalk Q 67 [some (mm_R 17), some (mm_L s0), none, some (mm_I k), some (mm_L (dgS (vX M) (8 + 2 * k) s1 n)), none, some (mm_I n)] [] M d 0) : ∀ (j i : Nat), i + j = n → rr_X5_addWalk Q 35 [some (mm_R 17), some (mm_L s0), none, some (mm_I k), some (mm_L (dgS (vX M) (8 + 2 * k) s1 i)), none, some (mm_I i)] [] M d 0 := by
  intro j
  induction j with
  | zero =>
    intro i hi
    have e : i = n := by omega
    subst e
    obtain ⟨K, hK, hK2⟩ : ∃ K : Nat → mm_K, (∀ t ls st M d u, K t ls st M d u → rr_X5_addWalk Q t ls st M d u) ∧ (∀ t ls st M d u, rr_X5_addWalk Q t ls st M d u → K t ls st M d u) := ⟨rr_X5_addWalk Q, fun _ _ _ _ _ _ h => h, fun _ _ _ _ _ _ h => h⟩
    have h9 := hK2 _ _ _ _ _ _ hq
    clear hq
    refine mm_run_at (stop := [46, 67]) (S := K) kkX5_addWalk 90 ?_ (fun _ _ _ _ _ _ _ h => hK _ _ _ _ _ _ h)
    repeat' (first | with_reducible assumption | with_reducible exact mm_i17 | with_reducible exact mm_i18 | with_reducible exact mm_i19 | with_reducible exact mm_i20 | with_reducible exact mm_i21 | with_reducible exact mm_i22 | ((with_reducible show mm_rv _ _ _ _ _); first | exact True.intro | exact mm_i17 | exact mm_i18 | exact mm_i19 | exact mm_i20 | exact mm_i21 | exact mm_i22) | ((with_reducible show mm_bool _ _); first | exact True.intro | exact Or.inl rfl | exact Or.inr rfl | (show (_ : Int) = 0 ∨ _ = 1)) | refine And.intro ?_ ?_ | intro _ | with_reducible exact True.intro | exact rfl | with_reducible exact Or.inl rfl | with_reducible exact Or.inr rfl | exact Nat.le_of_ble_eq_true rfl)
    all_goals (try simp (disch := omega) only [InI, Int.toNat_natCast, Int.tmod_eq_emod_of_nonneg, Int.tdiv_eq_ediv_of_nonneg, true_implies, true_or, or_true, mm_l18, mm_l19, mm_l20, mm_l21, mm_l22] at *)
    all_goals first | omega | exact h9 | skip
  | succ j ih =>
    intro i hi
    have w1 := hw i (by omega)
    have e6 : (30 * (k : Int).toNat + (i : Int).toNat) = 30 * k + i := by omega
    obtain ⟨K, hK, hK2⟩ : ∃ K : Nat → mm_K, (∀ t ls st M d u, K t ls st M d u → rr_X5_addWalk Q t ls st M d u) ∧ (∀ t ls st M d u, rr_X5_addWalk Q t ls st M d u → K t ls st M d u) := ⟨rr_X5_addWalk Q, fun _ _ _ _ _ _ h => h, fun _ _ _ _ _ _ h => h⟩
    have st : K 35 [some (mm_R 17), some (mm_L s0), none, some (mm_I k), some (mm_L (dgS (vX M) (8 + 2 * k) s1 i * 31 + mm_w (M 20 (30 * k + i)))), none, some (mm_I ((i : Int) + 1))] [] M d 0 := by
      have h3 := hK2 _ _ _ _ _ _ (ih (i + 1) (by omega))
      rw [mw_id (x := M 20 (30 * k + i)) ⟨by omega, by omega⟩, ← vX_i (M := M) (k := k) (i := i) (by omega) (by omega)]
      exact h3
    clear ih hq
    refine mm_run_at (stop := [35, 67]) (S := K) kkX5_addWalk 90 ?_ (fun _ _ _ _ _ _ _ h => hK _ _ _ _ _ _ h)
    repeat' (first | with_reducible assumption | with_reducible exact mm_i17 | with_reducible exact mm_i18 | with_reducible exact mm_i19 | with_reducible exact mm_i20 | with_reducible exact mm_i21 | with_reducible exact mm_i22 | ((with_reducible show mm_rv _ _ _ _ _); first | exact True.intro | exact mm_i17 | exact mm_i18 | exact mm_i19 | exact mm_i20 | exact mm_i21 | exact mm_i22) | ((with_reducible show mm_bool _ _); first | exact True.intro | exact Or.inl rfl | exact Or.inr rfl | (show (_ : Int) = 0 ∨ _ = 1)) | refine And.intro ?_ ?_ | intro _ | with_reducible exact True.intro | exact rfl | with_reducible exact Or.inl rfl | with_reducible exact Or.inr rfl | exact Nat.le_of_ble_eq_true rfl)
    all_goals (try simp (disch := omega) only [e6, InI, Int.toNat_natCast, Int.tmod_eq_emod_of_nonneg, Int.tdiv_eq_ediv_of_nonneg, true_implies, true_or, or_true, mm_l18, mm_l19, mm_l20, mm_l21, mm_l22] at *)
    all_goals first | omega | exact st | skip
set_option maxRecDepth 20000 in
theorem rn_X5_addWalk : mm_RN flX5 ct_X5_addWalk mm_x0 [] 3 0 7 kdX5_addWalk sp_X5_addWalk := by
  intro av M d Q h
  unfold sp_X5_addWalk at h
  split at h
  · rename_i o s a
    obtain ⟨rfl, ha, hk, hq⟩ := h
    obtain ⟨k, rfl⟩ := Int.eq_ofNat_of_zero_le hk.1
    have hk3 : k < 3 := by omega
    have ht := ha.t
    have mv := ha.v hk3
    have hD := ha.d hk3
    have v1 := mv.1
    have v2 := mv.2.1
    obtain ⟨n, hn⟩ := Int.eq_ofNat_of_zero_le v1.1
    have t1 := ht.1
    have ek : wk (k : Int) = 8 + 2 * k := by unfold wk; omega
    have en : vX M (8 + 2 * k) 2 = M 21 k := vX_n (by omega)
    have eb : vX M (8 + 2 * k) 3 = M 22 k := vX_b (by omega)
    obtain ⟨s1, hs1⟩ : ∃ s1, s1 = ((s * 31 + M 21 k) * 31 + M 22 k) * 31 + cor (vX M) (8 + 2 * k) (vX M (8 + 2 * k) 2) := ⟨_, rfl⟩
    obtain ⟨S, hS⟩ : ∃ S, S = dgS (vX M) (8 + 2 * k) s1 n := ⟨_, rfl⟩
    have k67 : rr_X5_addWalk Q 67 [some (mm_R 17), some (mm_L s), none, some (mm_I k), some (mm_L S), none, some (mm_I n)] [] M d 0 := by
      obtain ⟨w, hw⟩ : ∃ w : Nat, (w : Int) = ((k : Int) + 1) % 3 := ⟨(((k : Int) + 1) % 3).toNat, by omega⟩
      have hw3 : w < 3 := by omega
      have mw := ha.v hw3
      have ew : wk (((k : Int) + 1) % 3) = 8 + 2 * w := by unfold wk; omega
      have e7 : ((k : Int) + 1).tmod 3 = w := by rw [Int.tmod_eq_emod_of_nonneg (by omega), hw]
      obtain ⟨K, hK, hK2⟩ : ∃ K : Nat → mm_K, (∀ t ls st M d u, K t ls st M d u → rr_X5_addWalk Q t ls st M d u) ∧ (∀ t ls st M d u, rr_X5_addWalk Q t ls st M d u → K t ls st M d u) := ⟨rr_X5_addWalk Q, fun _ _ _ _ _ _ h => h, fun _ _ _ _ _ _ h => h⟩
      have fin : ∀ r, ((r = 0 ∨ r = 1) ∧ (r = 1 ↔ M 21 k = M 17 1)) → ∀ t, ((-1 ≤ t ∧ t ≤ 30) ∧ tuR (vX M) (8 + 2 * k) (8 + 2 * w) t) → Q (.inl (some (mm_L ((S * 31 + mm_w r) * 31 + mm_w t)))) M d := fun r hr t ht2 => by
        have h3 := hq t (by rw [ek, ew]; exact ht2.2)
        have hr2 : b01 (vX M (8 + 2 * k) 2 = vX M 2 4) r := ⟨hr.1, by rw [en]; exact hr.2⟩
        have e9 : (S * 31 + mm_w r) * 31 + mm_w t = dgW (vX M) s (wk (k : Int)) t := by
          rw [mw_b01 hr2, mw_id (x := t) ⟨by omega, by omega⟩, ek, hS, hs1]
          unfold dgW
          rw [en, eb, show (M 21 k).toNat = n by omega]
        rw [e9]
        exact h3
      have k88 : ∀ r, ((r = 0 ∨ r = 1) ∧ (r = 1 ↔ M 21 k = M 17 1)) → K 88 [some (mm_R 17), some (mm_L s), none, some (mm_I k), some (mm_L S), none, some (mm_I n)] [mm_I w, mm_I k, mm_R 17, mm_L (S * 31 + mm_w r)] M d 0 := by
        intro r hr
        have fin1 := fin r hr
        have e8 : (8 + 2 * (k : Int).toNat) = 8 + 2 * k := by omega
        have e9 : (8 + 2 * (w : Int).toNat) = 8 + 2 * w := by omega
        clear fin hr hq hS hs1 en eb
        refine hK2 _ _ _ _ _ _ ?_
        refine mm_run_at (stop := []) (S := K) kkX5_addWalk 90 ?_ (fun _ _ _ _ _ _ _ h => hK _ _ _ _ _ _ h)
        repeat' (first | with_reducible assumption | with_reducible exact mm_i17 | with_reducible exact mm_i18 | with_reducible exact mm_i19 | with_reducible exact mm_i20 | with_reducible exact mm_i21 | with_reducible exact mm_i22 | ((with_reducible show mm_rv _ _ _ _ _); first | exact True.intro | exact mm_i17 | exact mm_i18 | exact mm_i19 | exact mm_i20 | exact mm_i21 | exact mm_i22 | ((with_reducible show mV _ _); exact mv) | ((with_reducible show mV _ _); exact mw)) | ((with_reducible show mV _ _); exact mv) | ((with_reducible show mV _ _); exact mw) | ((with_reducible show mm_bool _ _); first | exact True.intro | exact Or.inl rfl | exact Or.inr rfl | (show (_ : Int) = 0 ∨ _ = 1)) | refine And.intro ?_ ?_ | intro _ | with_reducible exact True.intro | exact rfl | with_reducible exact Or.inl rfl | with_reducible exact Or.inr rfl | exact Nat.le_of_ble_eq_true rfl)
        all_goals (try simp (disch := omega) only [e8, e9, InI, Int.toNat_natCast, Int.tmod_eq_emod_of_nonneg, Int.tdiv_eq_ediv_of_nonneg, true_implies, true_or, or_true, mm_l18, mm_l19, mm_l20, mm_l21, mm_l22] at *)
        all_goals first | omega | exact fin1 _ (by assumption) | skip
      rw [hw] at k88
      have k74 : ∀ r, ((r = 0 ∨ r = 1) ∧ (r = 1 ↔ M 21 k = M 17 1)) → K 74 [some (mm_R 17), some (mm_L s), none, some (mm_I k), some (mm_L S), none, some (mm_I n)] [mm_I r, mm_L S] M d 0 := by
        intro r hr
        have k88 := k88 r hr
        have h4 := hr.1
        clear fin hq hS hs1 hr en eb
        refine hK2 _ _ _ _ _ _ ?_
        refine mm_run_at (stop := [88]) (S := K) kkX5_addWalk 90 ?_ (fun _ _ _ _ _ _ _ h => hK _ _ _ _ _ _ h)
        repeat' (first | with_reducible assumption | with_reducible exact mm_i17 | with_reducible exact mm_i18 | with_reducible exact mm_i19 | with_reducible exact mm_i20 | with_reducible exact mm_i21 | with_reducible exact mm_i22 | ((with_reducible show mm_rv _ _ _ _ _); first | exact True.intro | exact mm_i17 | exact mm_i18 | exact mm_i19 | exact mm_i20 | exact mm_i21 | exact mm_i22) | ((with_reducible show mm_bool _ _); first | exact True.intro | exact Or.inl rfl | exact Or.inr rfl | (show (_ : Int) = 0 ∨ _ = 1)) | refine And.intro ?_ ?_ | intro _ | with_reducible exact True.intro | exact rfl | with_reducible exact Or.inl rfl | with_reducible exact Or.inr rfl | exact Nat.le_of_ble_eq_true rfl)
        all_goals (try simp (disch := omega) only [InI, Int.toNat_natCast, Int.tmod_eq_emod_of_nonneg, Int.tdiv_eq_ediv_of_nonneg, true_implies, true_or, or_true, mm_l18, mm_l19, mm_l20, mm_l21, mm_l22] at *)
        all_goals first | omega | exact k88 | skip
      clear fin k88 hq hS hs1
      refine mm_run_at (stop := [74]) (S := K) kkX5_addWalk 90 ?_ (fun _ _ _ _ _ _ _ h => hK _ _ _ _ _ _ h)
      exact mm_c5 rfl (Nat.le_of_ble_eq_true rfl) (by exact mm_i17) (Nat.le_of_ble_eq_true rfl) (Nat.le_of_ble_eq_true rfl) (mm_a6 rfl ht ⟨by omega, by omega⟩ (by rw [Int.toNat_natCast]; exact mv) (by rw [Int.toNat_natCast]; exact hD) (fun r hr => k74 r (by rw [Int.toNat_natCast] at hr; exact hr)))
    rw [hS] at k67
    have k35 := lp_X5_addWalk (d := d) (Q := Q) (s0 := s) (s1 := s1) hk3 hn (by omega) (fun i hi => by have := mv.2.2 i (by omega); omega) k67 n 0 (by omega)
    have k35 : ∀ r, (r = cor (vX M) (8 + 2 * k) (vX M (8 + 2 * k) 2) ∧ 0 ≤ r ∧ r < 10) → rr_X5_addWalk Q 35 [some (mm_R 17), some (mm_L s), none, some (mm_I k), some (mm_L (((s * 31 + mm_w (M 21 k)) * 31 + mm_w (M 22 k)) * 31 + mm_w r)), none, some (mm_I 0)] [] M d 0 := fun r hr => by
      rw [mw_id (x := M 21 k) ⟨by omega, by omega⟩, mw_id (x := M 22 k) ⟨by omega, by omega⟩, mw_id (x := r) ⟨by omega, by omega⟩, hr.1, ← hs1]
      exact k35
    have e8 : (8 + 2 * (k : Int).toNat) = 8 + 2 * k := by omega
    clear k67 hq hS hs1
    obtain ⟨K, hK, hK2⟩ : ∃ K : Nat → mm_K, (∀ t ls st M d u, K t ls st M d u → rr_X5_addWalk Q t ls st M d u) ∧ (∀ t ls st M d u, rr_X5_addWalk Q t ls st M d u → K t ls st M d u) := ⟨rr_X5_addWalk Q, fun _ _ _ _ _ _ h => h, fun _ _ _ _ _ _ h => h⟩
    refine ⟨Nat.le_of_ble_eq_true rfl, mm_run_at (stop := [35]) (S := K) kkX5_addWalk 90 ?_ (fun _ _ _ _ _ _ _ h => hK _ _ _ _ _ _ h)⟩
    have k35 := fun r hr => hK2 _ _ _ _ _ _ (k35 r hr)
    repeat' (first | with_reducible assumption | with_reducible exact mm_i17 | with_reducible exact mm_i18 | with_reducible exact mm_i19 | with_reducible exact mm_i20 | with_reducible exact mm_i21 | with_reducible exact mm_i22 | ((with_reducible show mm_rv _ _ _ _ _); first | exact True.intro | exact mm_i17 | exact mm_i18 | exact mm_i19 | exact mm_i20 | exact mm_i21 | exact mm_i22 | ((with_reducible show mV _ _); exact mv)) | ((with_reducible show mV _ _); exact mv) | ((with_reducible show mm_bool _ _); first | exact True.intro | exact Or.inl rfl | exact Or.inr rfl | (show (_ : Int) = 0 ∨ _ = 1)) | refine And.intro ?_ ?_ | intro _ | with_reducible exact True.intro | exact rfl | with_reducible exact Or.inl rfl | with_reducible exact Or.inr rfl | exact Nat.le_of_ble_eq_true rfl)
    all_goals (try simp (disch := omega) only [e8, InI, Int.toNat_natCast, Int.tmod_eq_emod_of_nonneg, Int.tdiv_eq_ediv_of_nonneg, true_implies, true_or, or_true, mm_l18, mm_l19, mm_l20, mm_l21, mm_l22] at *)
    all_goals first | omega | exact k35 _ (by assumption) | skip
  · exact h.elim
theorem me_X5_addWalk {l : Launch} (hl : l.stackTraces = false) : mm_Met l yX5_addWalk cX5_addWalk 7 (some .long) [] 11 209 0 sp_X5_addWalk := mm_mt hl rn_X5_addWalk ⟨plX5, rfl⟩ kkX5_addWalk rfl ⟨Nat.le_of_ble_eq_true rfl, Nat.le_of_ble_eq_true rfl⟩ flkX5 (fun _ h => nomatch h) (⟨mm_pe (me_X5_add hl) mwX5_add (mm_t8 56 rfl rfl) (Nat.le_of_ble_eq_true rfl) (Nat.le_of_ble_eq_true rfl), mm_pe (me_X5_endOf hl) mwX5_endOf (mm_t6 181 rfl rfl) (Nat.le_of_ble_eq_true rfl) (Nat.le_of_ble_eq_true rfl), mm_pe (me_X5_stepOf hl) mwX5_stepOf (mm_t6 158 rfl rfl) (Nat.le_of_ble_eq_true rfl) (Nat.le_of_ble_eq_true rfl), mm_pe (me_X5_isWhole hl) mwX5_isWhole (mm_t7 136 rfl rfl) (Nat.le_of_ble_eq_true rfl) (Nat.le_of_ble_eq_true rfl), mm_pe (me_X5_one hl) mwX5_one (mm_t6 170 rfl rfl) (Nat.le_of_ble_eq_true rfl) (Nat.le_of_ble_eq_true rfl), mm_pe (me_X5_turnTo hl) mwX5_turnTo (mm_t7 180 rfl rfl) (Nat.le_of_ble_eq_true rfl) (Nat.le_of_ble_eq_true rfl), trivial⟩) (mm_xe0 _) n9X5

