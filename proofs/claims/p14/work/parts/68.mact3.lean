/-! the model: acts on one walk -/
theorem los_v {M : mm_M} {k : Nat} (h10 : -1 ≤ M 17 10 ∧ M 17 10 ≤ 2) : (vX M 16 1 = ((8 + 2 * k : Nat) : Int) ∧ vX (mm_up M 17 13 (if M 17 10 = k then 1 else M 17 13)) = mm_up (vX M) 16 4 1) ∨ (vX M 16 1 ≠ ((8 + 2 * k : Nat) : Int) ∧ vX (mm_up M 17 13 (if M 17 10 = k then 1 else M 17 13)) = vX M) := by
  rw [vX_u13, vX_c1]
  by_cases h : M 17 10 = k
  · left
    rw [if_pos h]
    refine ⟨?_, rfl⟩
    rw [if_neg (by omega)]
    omega
  · right
    rw [if_neg h]
    refine ⟨?_, ?_⟩
    · split <;> omega
    · funext o j
      simp only [mm_up]
      split
      · rename_i e
        rw [e.1, e.2]
        rfl
      · rfl
theorem xP_lo {M : mm_M} {k : Nat} (ha : xA M) (hk : k < 3) : xP M (mm_up M 17 13 (if M 17 10 = k then 1 else M 17 13)) ∧ (vX (mm_up M 17 13 (if M 17 10 = k then 1 else M 17 13)) 16 1 = ((8 + 2 * k : Nat) : Int) → vX (mm_up M 17 13 (if M 17 10 = k then 1 else M 17 13)) 16 4 = 1) := by
  have h := los_v (M := M) (k := k) ha.2
  refine ⟨⟨fX.rf.up (by omega), (ha.1.L (w := 8 + 2 * k)).los h, by rw [mm_up_ob2 (by omega)]; exact ha.2⟩, fun h2 => ?_⟩
  rcases h with ⟨h3, h4⟩ | ⟨h3, h4⟩
  · rw [h4]; simp [mm_up]
  · rw [h4] at h2
    exact absurd h2 h3
theorem xP_wl {M M' : mm_M} {k : Nat} (ha : xA M) (hk : k < 3) (hlo : vX M 16 1 = ((8 + 2 * k : Nat) : Int) → vX M 16 4 = 1) (hx : fX M M') (hf : fr [8 + 2 * k, 8 + 2 * k + 1] (vX M) (vX M')) (hv : mV M' k) (hD : wD (vX M') (8 + 2 * k)) (h17 : M' 17 10 = M 17 10) : xP M M' :=
  ⟨hx, ha.1.lo (isW3k hk) hlo (hf.mono (by simp)) ((mV_i (by omega)).mp hv) hD, by rw [h17]; exact ha.2⟩
theorem xP_we {M M' : mm_M} {k : Nat} (ha : xA M) (hk : k < 3) (hx : fX M M') (hf : fr [8 + 2 * k, 8 + 2 * k + 1] (vX M) (vX M')) (hv : mV M' k) (hD : wD (vX M') (8 + 2 * k)) (h17 : M' 17 10 = M 17 10) (hl : M 21 k ≤ M' 21 k) : xP M M' :=
  ⟨hx, ha.1.Le (isW3k hk) (hf.mono (by simp)) ((mV_i (by omega)).mp hv) hD (by rw [vX_n (by omega), vX_n (by omega)]; exact hl), by rw [h17]; exact ha.2⟩
theorem xP_wL {M M1 : mm_M} {k : Nat} (ha : xA M) (hk : k < 3) (hx : fX M M1) (hf : fr [8 + 2 * k, 8 + 2 * k + 1] (vX M) (vX M1)) (hv : mV M1 k) (hD : wD (vX M1) (8 + 2 * k)) (h17 : M1 17 10 = M 17 10) : xP M (mm_up M1 17 13 (if M1 17 10 = k then 1 else M1 17 13)) := by
  obtain ⟨k1, k2, k3⟩ := ha.1.Lw (isW3k hk) (hf.mono (by simp)) ((mV_i (by omega)).mp hv) hD
  have h := k1.los (los_v (M := M1) (k := k) (by rw [h17]; exact ha.2))
  exact ⟨hx.tr (fX.rf.up (by omega)), cP.of k2 k3 h, by rw [mm_up_ob2 (by omega), h17]; exact ha.2⟩
theorem wD_b {V : mm_M} {w : Nat} {c : Int} (h : wD V w) : wD (mm_up V w 3 c) w := h.to2 (mm_up_ob2 (by omega)) (mm_up_o _ (by omega))
theorem mV_b {M : mm_M} {k : Nat} {c : Int} (hk : k < 4) (h : mV M k) (hc : 0 ≤ c ∧ c < 10) : mV (mm_up M 22 k c) k := (mV_i hk).mpr (by rw [vX_u22 hk]; exact ((mV_i hk).mp h).b hc (isKk hk))
theorem mm_up_sm {M : mm_M} {o a : Nat} {x : Int} : mm_up M o a x o a = x := by simp [mm_up]
theorem los_m {M : mm_M} {k : Nat} (h10 : -1 ≤ M 17 10 ∧ M 17 10 ≤ 2) : vX (mm_up M 17 13 (if M 17 10 = k then 1 else M 17 13)) = losM (vX M) (8 + 2 * k) := losM.of (los_v h10)
theorem losM_up {V : mm_M} {w o j : Nat} {x : Int} (ho : o ≠ 16) : losM (mm_up V o j x) w = mm_up (losM V w) o j x := by
  unfold losM
  rw [mm_up_o 16 (by omega)]
  split
  · funext a b
    simp only [mm_up]
    (repeat' split) <;> first | rfl | omega
  · rfl
theorem losI_up {P : Prop} [Decidable P] {V : mm_M} {w o j : Nat} {x : Int} (ho : o ≠ 16) : losI P (mm_up V o j x) w = mm_up (losI P V w) o j x := by
  unfold losI
  split
  · exact losM_up ho
  · rfl
theorem losI_bg {P : Prop} [Decidable P] {V : mm_M} {w : Nat} {c : Int} (hw : w ≠ 16) : losI P (bgM V w c) w = bgM (losI P V w) w c := by
  unfold bgM
  rw [losI_up hw, losI_up hw]
theorem cor_e {A B : mm_M} {w : Nat} {p : Int} (h3 : A 3 = B 3) (h4 : A 4 = B 4) (hw : A w = B w) (hw1 : A (w + 1) = B (w + 1)) : cor A w p = cor B w p := by
  unfold cor gl
  rw [h3, h4, hw, hw1]
theorem sr_e {A B : mm_M} {s : Int} (h3 : A 3 = B 3) (h4 : A 4 = B 4) : sr A s = sr B s := by
  unfold sr
  rw [h3, h4]
theorem gl_e {A B : mm_M} {s : Int} (h3 : A 3 = B 3) (h4 : A 4 = B 4) : gl A s = gl B s := by
  unfold gl
  rw [h3, h4]
theorem kn {k : Nat} (hk : k < 3) : 8 + 2 * k ≠ 16 ∧ 8 + 2 * k + 1 ≠ 16 := by omega
theorem fr_34 {A B : mm_M} {w : Nat} (hw : isK w) (h : fr [w, w + 1] A B) : B 3 = A 3 ∧ B 4 = A 4 ∧ B 2 = A 2 ∧ B 1 = A 1 := by
  have := isK_le hw
  exact ⟨h 3 (by simp; omega), h 4 (by simp; omega), h 2 (by simp; omega), h 1 (by simp; omega)⟩
theorem at_X5_begin_0 : mm_at 0 kdX5_begin = [(0, .aload_n 0, 0), (1, .aload_n 0, 0), (2, .iload_n 1, 0), (3, .invokevirtual 178, 0), (6, .ifCond .ne 11, 17), (9, .aload_n 0, 0), (10, .iload_n 2, 0), (11, .invokevirtual 143, 0), (14, .ifCond .eq 7, 21), (17, .iconst 1, 0), (18, .goto 4, 22), (21, .iconst 0, 0), (22, .iconst 1, 0), (23, .invokevirtual 146, 0), (26, .ifCond .eq 5, 31), (29, .iconst 0, 0), (30, .ireturn, 0), (31, .aload_n 0, 0), (32, .getfield 19, 0), (35, .iload_n 1, 0), (36, .iaload, 0), (37, .istore_n 3, 0), (38, .iload_n 3, 0), (39, .ifCond .le 8, 47), (42, .aload_n 0, 0), (43, .iload_n 1, 0), (44, .invokevirtual 181, 0), (47, .aload_n 0, 0), (48, .getfield 19, 0), (51, .iload_n 1, 0), (52, .iconst 0, 0), (53, .iastore, 0), (54, .aload_n 0, 0), (55, .getfield 22, 0), (58, .iload_n 1, 0), (59, .iload_n 2, 0), (60, .iastore, 0), (61, .aload_n 0, 0), (62, .iload_n 3, 0), (63, .invokevirtual 156, 0), (66, .ireturn, 0)] := rfl
theorem at_X5_begin_17 : mm_at 17 kdX5_begin = [(17, .iconst 1, 0), (18, .goto 4, 22), (21, .iconst 0, 0), (22, .iconst 1, 0), (23, .invokevirtual 146, 0), (26, .ifCond .eq 5, 31), (29, .iconst 0, 0), (30, .ireturn, 0), (31, .aload_n 0, 0), (32, .getfield 19, 0), (35, .iload_n 1, 0), (36, .iaload, 0), (37, .istore_n 3, 0), (38, .iload_n 3, 0), (39, .ifCond .le 8, 47), (42, .aload_n 0, 0), (43, .iload_n 1, 0), (44, .invokevirtual 181, 0), (47, .aload_n 0, 0), (48, .getfield 19, 0), (51, .iload_n 1, 0), (52, .iconst 0, 0), (53, .iastore, 0), (54, .aload_n 0, 0), (55, .getfield 22, 0), (58, .iload_n 1, 0), (59, .iload_n 2, 0), (60, .iastore, 0), (61, .aload_n 0, 0), (62, .iload_n 3, 0), (63, .invokevirtual 156, 0), (66, .ireturn, 0)] := rfl
theorem at_X5_begin_21 : mm_at 21 kdX5_begin = [(21, .iconst 0, 0), (22, .iconst 1, 0), (23, .invokevirtual 146, 0), (26, .ifCond .eq 5, 31), (29, .iconst 0, 0), (30, .ireturn, 0), (31, .aload_n 0, 0), (32, .getfield 19, 0), (35, .iload_n 1, 0), (36, .iaload, 0), (37, .istore_n 3, 0), (38, .iload_n 3, 0), (39, .ifCond .le 8, 47), (42, .aload_n 0, 0), (43, .iload_n 1, 0), (44, .invokevirtual 181, 0), (47, .aload_n 0, 0), (48, .getfield 19, 0), (51, .iload_n 1, 0), (52, .iconst 0, 0), (53, .iastore, 0), (54, .aload_n 0, 0), (55, .getfield 22, 0), (58, .iload_n 1, 0), (59, .iload_n 2, 0), (60, .iastore, 0), (61, .aload_n 0, 0), (62, .iload_n 3, 0), (63, .invokevirtual 156, 0), (66, .ireturn, 0)] := rfl
theorem at_X5_begin_22 : mm_at 22 kdX5_begin = [(22, .iconst 1, 0), (23, .invokevirtual 146, 0), (26, .ifCond .eq 5, 31), (29, .iconst 0, 0), (30, .ireturn, 0), (31, .aload_n 0, 0), (32, .getfield 19, 0), (35, .iload_n 1, 0), (36, .iaload, 0), (37, .istore_n 3, 0), (38, .iload_n 3, 0), (39, .ifCond .le 8, 47), (42, .aload_n 0, 0), (43, .iload_n 1, 0), (44, .invokevirtual 181, 0), (47, .aload_n 0, 0), (48, .getfield 19, 0), (51, .iload_n 1, 0), (52, .iconst 0, 0), (53, .iastore, 0), (54, .aload_n 0, 0), (55, .getfield 22, 0), (58, .iload_n 1, 0), (59, .iload_n 2, 0), (60, .iastore, 0), (61, .aload_n 0, 0), (62, .iload_n 3, 0), (63, .invokevirtual 156, 0), (66, .ireturn, 0)] := rfl
theorem at_X5_begin_31 : mm_at 31 kdX5_begin = [(31, .aload_n 0, 0), (32, .getfield 19, 0), (35, .iload_n 1, 0), (36, .iaload, 0), (37, .istore_n 3, 0), (38, .iload_n 3, 0), (39, .ifCond .le 8, 47), (42, .aload_n 0, 0), (43, .iload_n 1, 0), (44, .invokevirtual 181, 0), (47, .aload_n 0, 0), (48, .getfield 19, 0), (51, .iload_n 1, 0), (52, .iconst 0, 0), (53, .iastore, 0), (54, .aload_n 0, 0), (55, .getfield 22, 0), (58, .iload_n 1, 0), (59, .iload_n 2, 0), (60, .iastore, 0), (61, .aload_n 0, 0), (62, .iload_n 3, 0), (63, .invokevirtual 156, 0), (66, .ireturn, 0)] := rfl
theorem at_X5_begin_47 : mm_at 47 kdX5_begin = [(47, .aload_n 0, 0), (48, .getfield 19, 0), (51, .iload_n 1, 0), (52, .iconst 0, 0), (53, .iastore, 0), (54, .aload_n 0, 0), (55, .getfield 22, 0), (58, .iload_n 1, 0), (59, .iload_n 2, 0), (60, .iastore, 0), (61, .aload_n 0, 0), (62, .iload_n 3, 0), (63, .invokevirtual 156, 0), (66, .ireturn, 0)] := rfl
def sp_X5_begin : mm_S := fun av M d Q => match av with
  | [.inr (.inr (.inl o)), .inl a, .inl c] =>  o = 17 ∧ xA M ∧ InI a ∧ InI c ∧ ∀ M' r, xP M M' → C_begin a c (vX M) (vX M') (M' 17 0) r → Q (.inl (some (mm_I r))) M' d
  | _ => False
def ct_X5_begin : List (Nat × mm_Ca) := [(178, (0, 2, 14, sp_X5_isNoWalk, 0)), (143, (0, 2, 14, sp_X5_isNoCorner, 0)), (146, (0, 3, 14, sp_X5_start, 0)), (181, (0, 2, 14, sp_X5_lose, 0)), (156, (0, 2, 14, sp_X5_act, 0))]
abbrev rr_X5_begin (Q : mm_Q) := mm_run (mm_look flX5) (mm_look ct_X5_begin) mm_x0 (mm_look ([] : List (Nat × Int))) (fun _ => none) 1 0 (fun _ _ => none) Q kdX5_begin
set_option maxRecDepth 20000 in
theorem rn_X5_begin : mm_RN flX5 ct_X5_begin mm_x0 [] 1 0 4 kdX5_begin sp_X5_begin := by
  intro av M d Q h
  unfold sp_X5_begin at h
  split at h
  · rename_i o a c
    obtain ⟨rfl, ha, h1, h2, hq⟩ := h
    obtain ⟨K, hK, hK2⟩ : ∃ K : Nat → mm_K, (∀ t ls st M d u, K t ls st M d u → rr_X5_begin Q t ls st M d u) ∧ (∀ t ls st M d u, rr_X5_begin Q t ls st M d u → K t ls st M d u) := ⟨rr_X5_begin Q, fun _ _ _ _ _ _ h => h, fun _ _ _ _ _ _ h => h⟩
    have q1 : ∀ v, v = 1 → ¬ ((0 ≤ a ∧ a ≤ 2) ∧ (0 ≤ c ∧ c ≤ 9)) → Q (.inl (some (mm_I 0))) (mm_up M 17 0 v) d := fun v hv hn => hq _ _ (xP_s ha) (xq1 (fun h => by unfold iw ic at h; omega) hv)
    have k31 : ∀ v, v = 0 → (0 ≤ a ∧ a ≤ 2) → (0 ≤ c ∧ c ≤ 9) → K 31 [some (mm_R 17), some (mm_I a), some (mm_I c), none] [] (mm_up M 17 0 v) d 0 := by
      intro v hv ca cc
      obtain ⟨M1, e0, ha1, hP1, e17, eo⟩ := xS (v := v) ha
      have e00 : M1 17 0 = 0 := by rw [← e0, hv]; exact x00
      have eV : vX M1 = vX M := by rw [← e0, vX_u0]
      rw [e0]
      obtain ⟨k, rfl⟩ := Int.eq_ofNat_of_zero_le ca.1
      have hk : k < 3 := by omega
      have v1 := (ha1.v hk).1
      have hl := ha1.l
      have h10 := ha1.2
      have en := vX_n (M := M1) (show k < 4 by omega)
      have key : ∀ M2, xP M1 M2 → (M2 21 k = 0 ∨ (vX M2 16 1 = ((8 + 2 * k : Nat) : Int) → vX M2 16 4 = 1)) → M2 17 0 = 0 → vX M2 = losI (0 < vX M1 (8 + 2 * k) 2) (vX M1) (8 + 2 * k) → ∀ N, N = mm_up (mm_up M2 21 k 0) 22 k c → Q (.inl (some (mm_I (M1 21 k)))) (mm_up N 17 14 (N 17 14 + 1)) d := by
        intro M2 hP2 h h0 hV N eN
        have ev : vX N = bgM (vX M2) (8 + 2 * k) c := by rw [eN, vX_u22 (by omega), vX_u21 (by omega)]; rfl
        have ev2 : vX N = mm_up (mm_up (vX M2) (8 + 2 * k) 2 0) (8 + 2 * k) 3 c := ev
        have hv' : mV N k := (mV_i (by omega)).mpr (by rw [ev2]; exact ⟨by simp [mm_up], by simp [mm_up]; omega, fun j hj => by simp [mm_up] at hj; omega⟩)
        have hD' : wD (vX N) (8 + 2 * k) := by rw [ev2]; exact wD_0 (by simp [mm_up])
        have hx : fX M2 N := by rw [eN]; exact (fX.rf.up (by omega)).up (by omega)
        have hf : fr [8 + 2 * k, 8 + 2 * k + 1] (vX M2) (vX N) := by rw [ev2]; exact (fr.rf.up (by simp)).up (by simp)
        have h17 : N 17 = M2 17 := by rw [eN, mm_up_o _ (by omega), mm_up_o _ (by omega)]
        have hP3 : xP M2 N := by
          rcases h with h | h
          · exact xP_we hP2.a hk hx hf hv' hD' (by rw [h17]) (by rw [h, eN, mm_up_ob (by omega)]; simp [mm_up])
          · exact xP_wl hP2.a hk h hx hf hv' hD' (by rw [h17])
        refine hq _ _ (xP_ac ((hP1.tr hP2).tr hP3)) (Or.inr ⟨⟨(wk_in ca).1, cc.1, by omega⟩, by rw [mm_up_ob2 (by omega), h17]; exact h0, ?_, SE.eq ?_⟩)
        · rw [← eV]
          exact en.symm
        · rw [cX_n (r := M1 21 k) (by omega), ev, hV, ← eV]
          exact congrArg (fun x => cnF x (M1 21 k)) (losI_bg (kn hk).1).symm
      have q0 : M1 21 k ≤ 0 → ∀ N, N = mm_up (mm_up M1 21 k 0) 22 k c → Q (.inl (some (mm_I (M1 21 k)))) (mm_up N 17 14 (N 17 14 + 1)) d := fun h => key M1 ha1.rf (Or.inl (by omega)) e00 (losI_n (by rw [en]; omega)).symm
      have q2 : 0 < M1 21 k → ∀ N, N = mm_up (mm_up (mm_up M1 17 13 (if M1 17 10 = k then 1 else M1 17 13)) 21 k 0) 22 k c → Q (.inl (some (mm_I (M1 21 k)))) (mm_up N 17 14 (N 17 14 + 1)) d := fun h => key _ (xP_lo ha1 hk).1 (Or.inr (xP_lo ha1 hk).2) (by rw [mm_up_ob2 (by omega)]; exact e00) (by rw [losI_y (by rw [en]; omega)]; exact los_m h10)
      clear key hq
      refine hK2 _ _ _ _ _ _ ?_
      refine mm_run_at (stop := []) (S := K) kkX5_begin 90 ?_ (fun _ _ _ _ _ _ _ h => hK _ _ _ _ _ _ h)
      repeat' (first | with_reducible assumption | with_reducible exact mm_i17 | with_reducible exact mm_i18 | with_reducible exact mm_i19 | with_reducible exact mm_i20 | with_reducible exact mm_i21 | with_reducible exact mm_i22 | ((with_reducible show mm_rv _ _ _ _ _); first | exact True.intro | exact mm_i17 | exact mm_i18 | exact mm_i19 | exact mm_i20 | exact mm_i21 | exact mm_i22) | ((with_reducible show mm_bool _ _); first | exact True.intro | exact Or.inl rfl | exact Or.inr rfl | (show (_ : Int) = 0 ∨ _ = 1)) | refine And.intro ?_ ?_ | intro _ | with_reducible exact True.intro | exact rfl | with_reducible exact Or.inl rfl | with_reducible exact Or.inr rfl | exact Nat.le_of_ble_eq_true rfl)
      all_goals (try simp (disch := omega) only [InI, Int.toNat_natCast, Int.tmod_eq_emod_of_nonneg, Int.tdiv_eq_ediv_of_nonneg, true_implies, true_or, or_true, mm_l18, mm_l19, mm_l20, mm_l21, mm_l22] at *)
      all_goals first | omega | exact q0 (by omega) _ rfl | exact q2 (by omega) _ rfl | skip
    clear hq
    refine ⟨Nat.le_of_ble_eq_true rfl, ?_⟩
    refine mm_run_at (stop := [31]) (S := K) kkX5_begin 90 ?_ (fun _ _ _ _ _ _ _ h => hK _ _ _ _ _ _ h)
    repeat' (first | with_reducible assumption | with_reducible exact mm_i17 | with_reducible exact mm_i18 | with_reducible exact mm_i19 | with_reducible exact mm_i20 | with_reducible exact mm_i21 | with_reducible exact mm_i22 | ((with_reducible show mm_rv _ _ _ _ _); first | exact True.intro | exact mm_i17 | exact mm_i18 | exact mm_i19 | exact mm_i20 | exact mm_i21 | exact mm_i22) | ((with_reducible show mm_bool _ _); first | exact True.intro | exact Or.inl rfl | exact Or.inr rfl | (show (_ : Int) = 0 ∨ _ = 1)) | refine And.intro ?_ ?_ | intro _ | with_reducible exact True.intro | exact rfl | with_reducible exact Or.inl rfl | with_reducible exact Or.inr rfl | exact Nat.le_of_ble_eq_true rfl)
    all_goals (try simp (disch := omega) only [InI, Int.toNat_natCast, Int.tmod_eq_emod_of_nonneg, Int.tdiv_eq_ediv_of_nonneg, true_implies, true_or, or_true, mm_l18, mm_l19, mm_l20, mm_l21, mm_l22] at *)
    all_goals first | omega | exact q1 _ (by omega) (by omega) | exact k31 _ (by omega) (by omega) (by omega) | skip
  · exact h.elim
theorem me_X5_begin {l : Launch} (hl : l.stackTraces = false) : mm_Met l yX5_begin cX5_begin 4 (some .int) [] 8 144 0 sp_X5_begin := mm_mt hl rn_X5_begin ⟨plX5, rfl⟩ kkX5_begin rfl ⟨Nat.le_of_ble_eq_true rfl, Nat.le_of_ble_eq_true rfl⟩ flkX5 (fun _ h => nomatch h) (⟨mm_pe (me_X5_isNoWalk hl) mwX5_isNoWalk (mm_t7 36 rfl rfl) (Nat.le_of_ble_eq_true rfl) (Nat.le_of_ble_eq_true rfl), mm_pe (me_X5_isNoCorner hl) mwX5_isNoCorner (mm_t6 103 rfl rfl) (Nat.le_of_ble_eq_true rfl) (Nat.le_of_ble_eq_true rfl), mm_pe (me_X5_start hl) mwX5_start (mm_t6 110 rfl rfl) (Nat.le_of_ble_eq_true rfl) (Nat.le_of_ble_eq_true rfl), mm_pe (me_X5_lose hl) mwX5_lose (mm_t7 40 rfl rfl) (Nat.le_of_ble_eq_true rfl) (Nat.le_of_ble_eq_true rfl), mm_pe (me_X5_act hl) mwX5_act (mm_t6 130 rfl rfl) (Nat.le_of_ble_eq_true rfl) (Nat.le_of_ble_eq_true rfl), trivial⟩) (mm_xe0 _) n9X5
theorem at_X5_step_0 : mm_at 0 kdX5_step = [(0, .aload_n 0, 0), (1, .aload_n 0, 0), (2, .iload_n 1, 0), (3, .invokevirtual 178, 0), (6, .ifCond .ne 11, 17), (9, .aload_n 0, 0), (10, .iload_n 2, 0), (11, .invokevirtual 162, 0), (14, .ifCond .eq 7, 21), (17, .iconst 1, 0), (18, .goto 4, 22), (21, .iconst 0, 0), (22, .iconst 1, 0), (23, .invokevirtual 146, 0), (26, .ifCond .eq 5, 31), (29, .iconst 0, 0), (30, .ireturn, 0), (31, .iload_n 3, 0), (32, .ifCond .eq 17, 49), (35, .aload_n 0, 0), (36, .iload_n 2, 0), (37, .aload_n 0, 0), (38, .getfield 22, 0), (41, .iload_n 1, 0), (42, .iaload, 0), (43, .invokevirtual 184, 0), (46, .goto 13, 59), (49, .aload_n 0, 0), (50, .iload_n 2, 0), (51, .aload_n 0, 0), (52, .iload_n 1, 0), (53, .invokevirtual 108, 0), (56, .invokevirtual 124, 0), (59, .istore 4, 0), (61, .aload_n 0, 0), (62, .iload_n 1, 0), (63, .iload_n 2, 0), (64, .invokevirtual 165, 0), (67, .iconst (-1), 0), (68, .if_icmp .ne 9, 77), (71, .iload 4, 0), (73, .iconst (-1), 0), (74, .if_icmp .ne 8, 82), (77, .aload_n 0, 0), (78, .invokevirtual 149, 0), (81, .ireturn, 0), (82, .aload_n 0, 0), (83, .iload_n 1, 0), (84, .iload_n 3, 0), (85, .ifCond .eq 7, 92), (88, .iconst 0, 0), (89, .goto 9, 98), (92, .aload_n 0, 0), (93, .getfield 19, 0), (96, .iload_n 1, 0), (97, .iaload, 0), (98, .iload 4, 0), (100, .invokevirtual 120, 0), (103, .iload_n 3, 0), (104, .ifCond .eq 15, 119), (107, .aload_n 0, 0), (108, .getfield 22, 0), (111, .iload_n 1, 0), (112, .aload_n 0, 0), (113, .iload 4, 0), (115, .invokevirtual 187, 0), (118, .iastore, 0), (119, .aload_n 0, 0), (120, .iload_n 1, 0), (121, .invokevirtual 181, 0), (124, .aload_n 0, 0), (125, .iload_n 3, 0), (126, .ifCond .eq 12, 138), (129, .aload_n 0, 0), (130, .getfield 22, 0), (133, .iload_n 1, 0), (134, .iaload, 0), (135, .goto 8, 143), (138, .aload_n 0, 0), (139, .iload_n 1, 0), (140, .invokevirtual 108, 0), (143, .invokevirtual 156, 0), (146, .ireturn, 0)] := rfl
theorem at_X5_step_17 : mm_at 17 kdX5_step = [(17, .iconst 1, 0), (18, .goto 4, 22), (21, .iconst 0, 0), (22, .iconst 1, 0), (23, .invokevirtual 146, 0), (26, .ifCond .eq 5, 31), (29, .iconst 0, 0), (30, .ireturn, 0), (31, .iload_n 3, 0), (32, .ifCond .eq 17, 49), (35, .aload_n 0, 0), (36, .iload_n 2, 0), (37, .aload_n 0, 0), (38, .getfield 22, 0), (41, .iload_n 1, 0), (42, .iaload, 0), (43, .invokevirtual 184, 0), (46, .goto 13, 59), (49, .aload_n 0, 0), (50, .iload_n 2, 0), (51, .aload_n 0, 0), (52, .iload_n 1, 0), (53, .invokevirtual 108, 0), (56, .invokevirtual 124, 0), (59, .istore 4, 0), (61, .aload_n 0, 0), (62, .iload_n 1, 0), (63, .iload_n 2, 0), (64, .invokevirtual 165, 0), (67, .iconst (-1), 0), (68, .if_icmp .ne 9, 77), (71, .iload 4, 0), (73, .iconst (-1), 0), (74, .if_icmp .ne 8, 82), (77, .aload_n 0, 0), (78, .invokevirtual 149, 0), (81, .ireturn, 0), (82, .aload_n 0, 0), (83, .iload_n 1, 0), (84, .iload_n 3, 0), (85, .ifCond .eq 7, 92), (88, .iconst 0, 0), (89, .goto 9, 98), (92, .aload_n 0, 0), (93, .getfield 19, 0), (96, .iload_n 1, 0), (97, .iaload, 0), (98, .iload 4, 0), (100, .invokevirtual 120, 0), (103, .iload_n 3, 0), (104, .ifCond .eq 15, 119), (107, .aload_n 0, 0), (108, .getfield 22, 0), (111, .iload_n 1, 0), (112, .aload_n 0, 0), (113, .iload 4, 0), (115, .invokevirtual 187, 0), (118, .iastore, 0), (119, .aload_n 0, 0), (120, .iload_n 1, 0), (121, .invokevirtual 181, 0), (124, .aload_n 0, 0), (125, .iload_n 3, 0), (126, .ifCond .eq 12, 138), (129, .aload_n 0, 0), (130, .getfield 22, 0), (133, .iload_n 1, 0), (134, .iaload, 0), (135, .goto 8, 143), (138, .aload_n 0, 0), (139, .iload_n 1, 0), (140, .invokevirtual 108, 0), (143, .invokevirtual 156, 0), (146, .ireturn, 0)] := rfl
theorem at_X5_step_21 : mm_at 21 kdX5_step = [(21, .iconst 0, 0), (22, .iconst 1, 0), (23, .invokevirtual 146, 0), (26, .ifCond .eq 5, 31), (29, .iconst 0, 0), (30, .ireturn, 0), (31, .iload_n 3, 0), (32, .ifCond .eq 17, 49), (35, .aload_n 0, 0), (36, .iload_n 2, 0), (37, .aload_n 0, 0), (38, .getfield 22, 0), (41, .iload_n 1, 0), (42, .iaload, 0), (43, .invokevirtual 184, 0), (46, .goto 13, 59), (49, .aload_n 0, 0), (50, .iload_n 2, 0), (51, .aload_n 0, 0), (52, .iload_n 1, 0), (53, .invokevirtual 108, 0), (56, .invokevirtual 124, 0), (59, .istore 4, 0), (61, .aload_n 0, 0), (62, .iload_n 1, 0), (63, .iload_n 2, 0), (64, .invokevirtual 165, 0), (67, .iconst (-1), 0), (68, .if_icmp .ne 9, 77), (71, .iload 4, 0), (73, .iconst (-1), 0), (74, .if_icmp .ne 8, 82), (77, .aload_n 0, 0), (78, .invokevirtual 149, 0), (81, .ireturn, 0), (82, .aload_n 0, 0), (83, .iload_n 1, 0), (84, .iload_n 3, 0), (85, .ifCond .eq 7, 92), (88, .iconst 0, 0), (89, .goto 9, 98), (92, .aload_n 0, 0), (93, .getfield 19, 0), (96, .iload_n 1, 0), (97, .iaload, 0), (98, .iload 4, 0), (100, .invokevirtual 120, 0), (103, .iload_n 3, 0), (104, .ifCond .eq 15, 119), (107, .aload_n 0, 0), (108, .getfield 22, 0), (111, .iload_n 1, 0), (112, .aload_n 0, 0), (113, .iload 4, 0), (115, .invokevirtual 187, 0), (118, .iastore, 0), (119, .aload_n 0, 0), (120, .iload_n 1, 0), (121, .invokevirtual 181, 0), (124, .aload_n 0, 0), (125, .iload_n 3, 0), (126, .ifCond .eq 12, 138), (129, .aload_n 0, 0), (130, .getfield 22, 0), (133, .iload_n 1, 0), (134, .iaload, 0), (135, .goto 8, 143), (138, .aload_n 0, 0), (139, .iload_n 1, 0), (140, .invokevirtual 108, 0), (143, .invokevirtual 156, 0), (146, .ireturn, 0)] := rfl
theorem at_X5_step_22 : mm_at 22 kdX5_step = [(22, .iconst 1, 0), (23, .invokevirtual 146, 0), (26, .ifCond .eq 5, 31), (29, .iconst 0, 0), (30, .ireturn, 0), (31, .iload_n 3, 0), (32, .ifCond .eq 17, 49), (35, .aload_n 0, 0), (36, .iload_n 2, 0), (37, .aload_n 0, 0), (38, .getfield 22, 0), (41, .iload_n 1, 0), (42, .iaload, 0), (43, .invokevirtual 184, 0), (46, .goto 13, 59), (49, .aload_n 0, 0), (50, .iload_n 2, 0), (51, .aload_n 0, 0), (52, .iload_n 1, 0), (53, .invokevirtual 108, 0), (56, .invokevirtual 124, 0), (59, .istore 4, 0), (61, .aload_n 0, 0), (62, .iload_n 1, 0), (63, .iload_n 2, 0), (64, .invokevirtual 165, 0), (67, .iconst (-1), 0), (68, .if_icmp .ne 9, 77), (71, .iload 4, 0), (73, .iconst (-1), 0), (74, .if_icmp .ne 8, 82), (77, .aload_n 0, 0), (78, .invokevirtual 149, 0), (81, .ireturn, 0), (82, .aload_n 0, 0), (83, .iload_n 1, 0), (84, .iload_n 3, 0), (85, .ifCond .eq 7, 92), (88, .iconst 0, 0), (89, .goto 9, 98), (92, .aload_n 0, 0), (93, .getfield 19, 0), (96, .iload_n 1, 0), (97, .iaload, 0), (98, .iload 4, 0), (100, .invokevirtual 120, 0), (103, .iload_n 3, 0), (104, .ifCond .eq 15, 119), (107, .aload_n 0, 0), (108, .getfield 22, 0), (111, .iload_n 1, 0), (112, .aload_n 0, 0), (113, .iload 4, 0), (115, .invokevirtual 187, 0), (118, .iastore, 0), (119, .aload_n 0, 0), (120, .iload_n 1, 0), (121, .invokevirtual 181, 0), (124, .aload_n 0, 0), (125, .iload_n 3, 0), (126, .ifCond .eq 12, 138), (129, .aload_n 0, 0), (130, .getfield 22, 0), (133, .iload_n 1, 0), (134, .iaload, 0), (135, .goto 8, 143), (138, .aload_n 0, 0), (139, .iload_n 1, 0), (140, .invokevirtual 108, 0), (143, .invokevirtual 156, 0), (146, .ireturn, 0)] := rfl
theorem at_X5_step_31 : mm_at 31 kdX5_step = [(31, .iload_n 3, 0), (32, .ifCond .eq 17, 49), (35, .aload_n 0, 0), (36, .iload_n 2, 0), (37, .aload_n 0, 0), (38, .getfield 22, 0), (41, .iload_n 1, 0), (42, .iaload, 0), (43, .invokevirtual 184, 0), (46, .goto 13, 59), (49, .aload_n 0, 0), (50, .iload_n 2, 0), (51, .aload_n 0, 0), (52, .iload_n 1, 0), (53, .invokevirtual 108, 0), (56, .invokevirtual 124, 0), (59, .istore 4, 0), (61, .aload_n 0, 0), (62, .iload_n 1, 0), (63, .iload_n 2, 0), (64, .invokevirtual 165, 0), (67, .iconst (-1), 0), (68, .if_icmp .ne 9, 77), (71, .iload 4, 0), (73, .iconst (-1), 0), (74, .if_icmp .ne 8, 82), (77, .aload_n 0, 0), (78, .invokevirtual 149, 0), (81, .ireturn, 0), (82, .aload_n 0, 0), (83, .iload_n 1, 0), (84, .iload_n 3, 0), (85, .ifCond .eq 7, 92), (88, .iconst 0, 0), (89, .goto 9, 98), (92, .aload_n 0, 0), (93, .getfield 19, 0), (96, .iload_n 1, 0), (97, .iaload, 0), (98, .iload 4, 0), (100, .invokevirtual 120, 0), (103, .iload_n 3, 0), (104, .ifCond .eq 15, 119), (107, .aload_n 0, 0), (108, .getfield 22, 0), (111, .iload_n 1, 0), (112, .aload_n 0, 0), (113, .iload 4, 0), (115, .invokevirtual 187, 0), (118, .iastore, 0), (119, .aload_n 0, 0), (120, .iload_n 1, 0), (121, .invokevirtual 181, 0), (124, .aload_n 0, 0), (125, .iload_n 3, 0), (126, .ifCond .eq 12, 138), (129, .aload_n 0, 0), (130, .getfield 22, 0), (133, .iload_n 1, 0), (134, .iaload, 0), (135, .goto 8, 143), (138, .aload_n 0, 0), (139, .iload_n 1, 0), (140, .invokevirtual 108, 0), (143, .invokevirtual 156, 0), (146, .ireturn, 0)] := rfl
theorem at_X5_step_49 : mm_at 49 kdX5_step = [(49, .aload_n 0, 0), (50, .iload_n 2, 0), (51, .aload_n 0, 0), (52, .iload_n 1, 0), (53, .invokevirtual 108, 0), (56, .invokevirtual 124, 0), (59, .istore 4, 0), (61, .aload_n 0, 0), (62, .iload_n 1, 0), (63, .iload_n 2, 0), (64, .invokevirtual 165, 0), (67, .iconst (-1), 0), (68, .if_icmp .ne 9, 77), (71, .iload 4, 0), (73, .iconst (-1), 0), (74, .if_icmp .ne 8, 82), (77, .aload_n 0, 0), (78, .invokevirtual 149, 0), (81, .ireturn, 0), (82, .aload_n 0, 0), (83, .iload_n 1, 0), (84, .iload_n 3, 0), (85, .ifCond .eq 7, 92), (88, .iconst 0, 0), (89, .goto 9, 98), (92, .aload_n 0, 0), (93, .getfield 19, 0), (96, .iload_n 1, 0), (97, .iaload, 0), (98, .iload 4, 0), (100, .invokevirtual 120, 0), (103, .iload_n 3, 0), (104, .ifCond .eq 15, 119), (107, .aload_n 0, 0), (108, .getfield 22, 0), (111, .iload_n 1, 0), (112, .aload_n 0, 0), (113, .iload 4, 0), (115, .invokevirtual 187, 0), (118, .iastore, 0), (119, .aload_n 0, 0), (120, .iload_n 1, 0), (121, .invokevirtual 181, 0), (124, .aload_n 0, 0), (125, .iload_n 3, 0), (126, .ifCond .eq 12, 138), (129, .aload_n 0, 0), (130, .getfield 22, 0), (133, .iload_n 1, 0), (134, .iaload, 0), (135, .goto 8, 143), (138, .aload_n 0, 0), (139, .iload_n 1, 0), (140, .invokevirtual 108, 0), (143, .invokevirtual 156, 0), (146, .ireturn, 0)] := rfl
theorem at_X5_step_59 : mm_at 59 kdX5_step = [(59, .istore 4, 0), (61, .aload_n 0, 0), (62, .iload_n 1, 0), (63, .iload_n 2, 0), (64, .invokevirtual 165, 0), (67, .iconst (-1), 0), (68, .if_icmp .ne 9, 77), (71, .iload 4, 0), (73, .iconst (-1), 0), (74, .if_icmp .ne 8, 82), (77, .aload_n 0, 0), (78, .invokevirtual 149, 0), (81, .ireturn, 0), (82, .aload_n 0, 0), (83, .iload_n 1, 0), (84, .iload_n 3, 0), (85, .ifCond .eq 7, 92), (88, .iconst 0, 0), (89, .goto 9, 98), (92, .aload_n 0, 0), (93, .getfield 19, 0), (96, .iload_n 1, 0), (97, .iaload, 0), (98, .iload 4, 0), (100, .invokevirtual 120, 0), (103, .iload_n 3, 0), (104, .ifCond .eq 15, 119), (107, .aload_n 0, 0), (108, .getfield 22, 0), (111, .iload_n 1, 0), (112, .aload_n 0, 0), (113, .iload 4, 0), (115, .invokevirtual 187, 0), (118, .iastore, 0), (119, .aload_n 0, 0), (120, .iload_n 1, 0), (121, .invokevirtual 181, 0), (124, .aload_n 0, 0), (125, .iload_n 3, 0), (126, .ifCond .eq 12, 138), (129, .aload_n 0, 0), (130, .getfield 22, 0), (133, .iload_n 1, 0), (134, .iaload, 0), (135, .goto 8, 143), (138, .aload_n 0, 0), (139, .iload_n 1, 0), (140, .invokevirtual 108, 0), (143, .invokevirtual 156, 0), (146, .ireturn, 0)] := rfl
theorem at_X5_step_77 : mm_at 77 kdX5_step = [(77, .aload_n 0, 0), (78, .invokevirtual 149, 0), (81, .ireturn, 0), (82, .aload_n 0, 0), (83, .iload_n 1, 0), (84, .iload_n 3, 0), (85, .ifCond .eq 7, 92), (88, .iconst 0, 0), (89, .goto 9, 98), (92, .aload_n 0, 0), (93, .getfield 19, 0), (96, .iload_n 1, 0), (97, .iaload, 0), (98, .iload 4, 0), (100, .invokevirtual 120, 0), (103, .iload_n 3, 0), (104, .ifCond .eq 15, 119), (107, .aload_n 0, 0), (108, .getfield 22, 0), (111, .iload_n 1, 0), (112, .aload_n 0, 0), (113, .iload 4, 0), (115, .invokevirtual 187, 0), (118, .iastore, 0), (119, .aload_n 0, 0), (120, .iload_n 1, 0), (121, .invokevirtual 181, 0), (124, .aload_n 0, 0), (125, .iload_n 3, 0), (126, .ifCond .eq 12, 138), (129, .aload_n 0, 0), (130, .getfield 22, 0), (133, .iload_n 1, 0), (134, .iaload, 0), (135, .goto 8, 143), (138, .aload_n 0, 0), (139, .iload_n 1, 0), (140, .invokevirtual 108, 0), (143, .invokevirtual 156, 0), (146, .ireturn, 0)] := rfl
theorem at_X5_step_82 : mm_at 82 kdX5_step = [(82, .aload_n 0, 0), (83, .iload_n 1, 0), (84, .iload_n 3, 0), (85, .ifCond .eq 7, 92), (88, .iconst 0, 0), (89, .goto 9, 98), (92, .aload_n 0, 0), (93, .getfield 19, 0), (96, .iload_n 1, 0), (97, .iaload, 0), (98, .iload 4, 0), (100, .invokevirtual 120, 0), (103, .iload_n 3, 0), (104, .ifCond .eq 15, 119), (107, .aload_n 0, 0), (108, .getfield 22, 0), (111, .iload_n 1, 0), (112, .aload_n 0, 0), (113, .iload 4, 0), (115, .invokevirtual 187, 0), (118, .iastore, 0), (119, .aload_n 0, 0), (120, .iload_n 1, 0), (121, .invokevirtual 181, 0), (124, .aload_n 0, 0), (125, .iload_n 3, 0), (126, .ifCond .eq 12, 138), (129, .aload_n 0, 0), (130, .getfield 22, 0), (133, .iload_n 1, 0), (134, .iaload, 0), (135, .goto 8, 143), (138, .aload_n 0, 0), (139, .iload_n 1, 0), (140, .invokevirtual 108, 0), (143, .invokevirtual 156, 0), (146, .ireturn, 0)] := rfl
theorem at_X5_step_92 : mm_at 92 kdX5_step = [(92, .aload_n 0, 0), (93, .getfield 19, 0), (96, .iload_n 1, 0), (97, .iaload, 0), (98, .iload 4, 0), (100, .invokevirtual 120, 0), (103, .iload_n 3, 0), (104, .ifCond .eq 15, 119), (107, .aload_n 0, 0), (108, .getfield 22, 0), (111, .iload_n 1, 0), (112, .aload_n 0, 0), (113, .iload 4, 0), (115, .invokevirtual 187, 0), (118, .iastore, 0), (119, .aload_n 0, 0), (120, .iload_n 1, 0), (121, .invokevirtual 181, 0), (124, .aload_n 0, 0), (125, .iload_n 3, 0), (126, .ifCond .eq 12, 138), (129, .aload_n 0, 0), (130, .getfield 22, 0), (133, .iload_n 1, 0), (134, .iaload, 0), (135, .goto 8, 143), (138, .aload_n 0, 0), (139, .iload_n 1, 0), (140, .invokevirtual 108, 0), (143, .invokevirtual 156, 0), (146, .ireturn, 0)] := rfl
theorem at_X5_step_98 : mm_at 98 kdX5_step = [(98, .iload 4, 0), (100, .invokevirtual 120, 0), (103, .iload_n 3, 0), (104, .ifCond .eq 15, 119), (107, .aload_n 0, 0), (108, .getfield 22, 0), (111, .iload_n 1, 0), (112, .aload_n 0, 0), (113, .iload 4, 0), (115, .invokevirtual 187, 0), (118, .iastore, 0), (119, .aload_n 0, 0), (120, .iload_n 1, 0), (121, .invokevirtual 181, 0), (124, .aload_n 0, 0), (125, .iload_n 3, 0), (126, .ifCond .eq 12, 138), (129, .aload_n 0, 0), (130, .getfield 22, 0), (133, .iload_n 1, 0), (134, .iaload, 0), (135, .goto 8, 143), (138, .aload_n 0, 0), (139, .iload_n 1, 0), (140, .invokevirtual 108, 0), (143, .invokevirtual 156, 0), (146, .ireturn, 0)] := rfl
theorem at_X5_step_119 : mm_at 119 kdX5_step = [(119, .aload_n 0, 0), (120, .iload_n 1, 0), (121, .invokevirtual 181, 0), (124, .aload_n 0, 0), (125, .iload_n 3, 0), (126, .ifCond .eq 12, 138), (129, .aload_n 0, 0), (130, .getfield 22, 0), (133, .iload_n 1, 0), (134, .iaload, 0), (135, .goto 8, 143), (138, .aload_n 0, 0), (139, .iload_n 1, 0), (140, .invokevirtual 108, 0), (143, .invokevirtual 156, 0), (146, .ireturn, 0)] := rfl
theorem at_X5_step_138 : mm_at 138 kdX5_step = [(138, .aload_n 0, 0), (139, .iload_n 1, 0), (140, .invokevirtual 108, 0), (143, .invokevirtual 156, 0), (146, .ireturn, 0)] := rfl
theorem at_X5_step_143 : mm_at 143 kdX5_step = [(143, .invokevirtual 156, 0), (146, .ireturn, 0)] := rfl
def sp_X5_step : mm_S := fun av M d Q => match av with
  | [.inr (.inr (.inl o)), .inl a, .inl s, .inl f] =>  o = 17 ∧ xA M ∧ InI a ∧ InI s ∧ (f = 0 ∨ f = 1) ∧ ∀ M' r, xP M M' → C_step a s f (vX M) (vX M') (M' 17 0) r → Q (.inl (some (mm_I r))) M' d
  | _ => False
def ct_X5_step : List (Nat × mm_Ca) := [(178, (0, 2, 14, sp_X5_isNoWalk, 0)), (162, (0, 2, 14, sp_X5_isNoStreet, 0)), (146, (0, 3, 14, sp_X5_start, 0)), (184, (0, 3, 14, sp_X5_coming, 0)), (108, (0, 2, 14, sp_X5_endOf, 0)), (124, (0, 3, 14, sp_X5_leaving, 0)), (165, (0, 3, 14, sp_X5_placeOf, 0)), (149, (0, 1, 14, sp_X5_cannot, 0)), (120, (0, 4, 14, sp_X5_put, 0)), (187, (0, 2, 14, sp_X5_goesFrom, 0)), (181, (0, 2, 14, sp_X5_lose, 0)), (156, (0, 2, 14, sp_X5_act, 0))]
abbrev rr_X5_step (Q : mm_Q) := mm_run (mm_look flX5) (mm_look ct_X5_step) mm_x0 (mm_look ([] : List (Nat × Int))) (fun _ => none) 1 0 (fun _ _ => none) Q kdX5_step
set_option maxRecDepth 20000 in
theorem rn_X5_step : mm_RN flX5 ct_X5_step mm_x0 [] 1 0 5 kdX5_step sp_X5_step := by
  intro av M d Q h
  unfold sp_X5_step at h
  split at h
  · rename_i o a s f
    obtain ⟨rfl, ha, h1, h2, hf, hq⟩ := h
    obtain ⟨K, hK, hK2⟩ : ∃ K : Nat → mm_K, (∀ t ls st M d u, K t ls st M d u → rr_X5_step Q t ls st M d u) ∧ (∀ t ls st M d u, rr_X5_step Q t ls st M d u → K t ls st M d u) := ⟨rr_X5_step Q, fun _ _ _ _ _ _ h => h, fun _ _ _ _ _ _ h => h⟩
    have q1 : ∀ v, v = 1 → ¬ ((0 ≤ a ∧ a ≤ 2) ∧ (0 ≤ s ∧ s < M 17 1)) → Q (.inl (some (mm_I 0))) (mm_up M 17 0 v) d := fun v hv hn => hq _ _ (xP_s ha) (xq1 (fun h => by
      obtain ⟨g1, g2⟩ := h
      unfold iw at g1
      have g3 : 0 ≤ s ∧ s < M 17 1 := g2
      omega) hv)
    have k31 : ∀ v, v = 0 → (0 ≤ a ∧ a ≤ 2) → (0 ≤ s ∧ s < M 17 1) → K 31 [some (mm_R 17), some (mm_I a), some (mm_I s), some (mm_I f), none] [] (mm_up M 17 0 v) d 0 := by
      intro v hv0 ca cs0
      have cs := cs0
      obtain ⟨M1, e0, ha1, hP1, e17, eo⟩ := xS (v := v) ha
      have e00 : M1 17 0 = 0 := by rw [← e0, hv0]; exact x00
      have eV : vX M1 = vX M := by rw [← e0, vX_u0]
      rw [e0]
      rw [← e17 1 (by omega)] at cs
      obtain ⟨k, rfl⟩ := Int.eq_ofNat_of_zero_le ca.1
      have hk : k < 3 := by omega
      have hv := ha1.v hk
      have hD := ha1.d hk
      have ht := ha1.t
      have t1 := ht.1
      have v1 := hv.1
      have v2 := hv.2.1
      have hl := ha1.l
      have h10 := ha1.2
      have en := vX_n (M := M1) (k := k) (by omega)
      have hwv := (mV_i (show k < 4 by omega)).mp hv
      have q9 : (wsF (vX M1) (8 + 2 * k) s f = -1 ∨ ¬ wN (vX M1) (8 + 2 * k) s) → Q (.inl (some (mm_I (-9)))) (mm_up M1 17 15 (M1 17 15 + 1)) d := fun h => hq _ (-9) (hP1.tr (xA_u (x := M1 17 15 + 1) ha1)) (Or.inr ⟨⟨(wk_in ca).1, cs0⟩, by rw [mm_up_ob2 (by omega)]; exact e00, vX M1, by rw [← eV]; exact Or.inl ⟨h, rfl, rfl⟩, by rw [losI_n (by omega), cX_9]; exact SE.rf⟩)
      have k67 : ∀ st, st = wsF (vX M1) (8 + 2 * k) s f → (-1 ≤ st ∧ st < 2 * M1 17 1 ∧ (0 ≤ st → st / 2 = s)) → ∀ r, ((r = -1 ∧ ∀ i : Nat, i < M1 21 k → M1 20 (30 * k + i) / 2 ≠ s) ∨ (0 ≤ r ∧ r < M1 21 k ∧ M1 20 (30 * k + r.toNat) / 2 = s ∧ ∀ i : Nat, i < r → M1 20 (30 * k + i) / 2 ≠ s)) → K 67 [some (mm_R 17), some (mm_I k), some (mm_I s), some (mm_I f), some (mm_I st)] [mm_I r] M1 d 0 := by
        intro st ews hst r hr
        refine hK2 _ _ _ _ _ _ ?_
        by_cases hok : r = -1 ∧ st ≠ -1
        · have hN : wN (vX M1) (8 + 2 * k) (st / 2) := by
            rcases hr with h | h
            · intro i hi
              rw [en] at hi
              rw [vX_i (by omega) (by omega), hst.2.2 (by omega)]
              exact h.2 i hi
            · omega
          have hlt := wD_lt hwv hD (s := st / 2) (by rw [vX_24, hst.2.2 (by omega)]; exact cs) hN
          rw [en, vX_24] at hlt
          have e30 : M1 21 k < 30 := by omega
          have hsto : stO (vX M1) st := ⟨by omega, by rw [vX_24]; omega⟩
          have k103 : ∀ p, (0 ≤ p ∧ p ≤ M1 21 k) → ((f = 1 → p = 0) ∧ (f = 0 → p = M1 21 k)) → ∀ M2, fX M1 M2 ∧ fr [8 + 2 * k, 8 + 2 * k + 1] (vX M1) (vX M2) ∧ mV M2 k ∧ putR (vX M1) (vX M2) (8 + 2 * k) p st ∧ M2 17 = M1 17 → K 103 [some (mm_R 17), some (mm_I k), some (mm_I s), some (mm_I f), some (mm_I st)] [] M2 d 0 := by
            intro p hp hpf M2 ⟨g1, g2, g3, g4, g5⟩
            have hD2 := put_wD hD hN g4
            have ht2 := tX_to ht g2 (isKk (show k < 4 by omega))
            have hst2 : 0 ≤ st ∧ st < 2 * M2 17 1 := by rw [g5]; omega
            have h10' : M2 17 10 = M1 17 10 := by rw [g5]
            have h13' : M2 17 13 = M1 17 13 := by rw [g5]
            have fin : ∀ M3, fX M2 M3 → fr [8 + 2 * k, 8 + 2 * k + 1] (vX M2) (vX M3) → mV M3 k → wD (vX M3) (8 + 2 * k) → M3 17 = M2 17 → xP M1 (mm_up M3 17 13 (if M3 17 10 = k then 1 else M3 17 13)) := fun M3 f1 f2 f3 f4 f5 => xP_wL ha1 hk (g1.tr f1) (g2.tr f2) f3 f4 (by rw [f5, h10'])
            have f0 := fin M2 fX.rf fr.rf g3 hD2 rfl
            have f1 : ∀ c, (0 ≤ c ∧ c < 10) → xP M1 (mm_up (mm_up M2 22 k c) 17 13 (if (mm_up M2 22 k c) 17 10 = k then 1 else (mm_up M2 22 k c) 17 13)) := fun c hc => fin _ (fX.rf.up (by omega)) (by rw [vX_u22 (by omega)]; exact fr.rf.up (by simp)) (mV_b (by omega) g3 hc) (by rw [vX_u22 (by omega)]; exact wD_b hD2) (mm_up_o _ (by omega))
            have hws : wsF (vX M1) (8 + 2 * k) s f ≠ -1 := by rw [← ews]; exact hok.2
            have hNs : wN (vX M1) (8 + 2 * k) s := by rw [← hst.2.2 (by omega)]; exact hN
            have e34 := fr_34 (isKk (show k < 4 by omega)) g2
            have hpa := put_at g4 ⟨hp.1, by rw [en]; exact hp.2, by rw [en]; exact e30⟩
            have hpc := put_cor (isKk (show k < 4 by omega)) g2 g4 ⟨hp.1, by rw [en]; exact hp.2, by rw [en]; exact e30⟩
            have h00 : M2 17 0 = 0 := by rw [g5]; exact e00
            have q0 : f = 0 → p = M1 21 k → ∀ M3, M3 = mm_up M2 17 13 (if M2 17 10 = k then 1 else M2 17 13) → ∀ r, (r = cor (vX M3) (8 + 2 * k) (vX M3 (8 + 2 * k) 2) ∧ 0 ≤ r ∧ r < 10) → Q (.inl (some (mm_I r))) (mm_up M3 17 14 (M3 17 14 + 1)) d := by
              intro h0f hp3 M3 e3 r hr3
              have ev : vX M3 = losM (vX M2) (8 + 2 * k) := by rw [e3]; exact los_m (by rw [h10']; exact h10)
              have er : r = gl (vX M1) st := by
                rw [hr3.1, ev, losM_o (kn hk).1, cor_e (losM_o (by omega)) (losM_o (by omega)) (losM_o (kn hk).1) (losM_o (kn hk).2), hpa.1, en, ← hp3]
                exact hpc
              refine hq _ _ (by rw [e3]; exact xP_ac (hP1.tr f0)) (Or.inr ⟨⟨(wk_in ca).1, cs0⟩, by rw [mm_up_ob2 (by omega), e3, mm_up_ob2 (by omega)]; exact h00, vX M2, ?_, SE.eq ?_⟩)
              · have g9 := g4
                rw [ews, hp3, ← en] at g9
                rw [← eV]
                exact Or.inr ⟨hws, hNs, g2, Or.inr ⟨h0f, by rw [er, ews]; rfl, g9⟩⟩
              · rw [cX_n (r := r) (by omega), ev, losI_y (by omega)]
                rfl
            have q1 : f = 1 → p = 0 → ∀ c, (c = srX M2 st ∧ 0 ≤ c ∧ c < 10) → ∀ M3, M3 = mm_up (mm_up M2 22 k c) 17 13 (if (mm_up M2 22 k c) 17 10 = k then 1 else (mm_up M2 22 k c) 17 13) → ∀ r, r = M3 22 k → Q (.inl (some (mm_I r))) (mm_up M3 17 14 (M3 17 14 + 1)) d := by
              intro h1f hp3 c hc M3 e3 r hr3
              have er : r = c := by rw [hr3, e3, mm_up_ob (by omega), mm_up_sm]
              subst er
              have ev : vX M3 = losM (mm_up (vX M2) (8 + 2 * k) 3 r) (8 + 2 * k) := by rw [e3, los_m (by rw [mm_up_ob (by omega), h10']; exact h10), vX_u22 (by omega)]
              have ec : r = sr (vX M1) st := by rw [hc.1, sr_v]; exact sr_e e34.1 e34.2.1
              refine hq _ _ (by rw [e3]; exact xP_ac (hP1.tr (f1 r hc.2))) (Or.inr ⟨⟨(wk_in ca).1, cs0⟩, by rw [mm_up_ob2 (by omega), e3, mm_up_ob2 (by omega), mm_up_ob (by omega)]; exact h00, mm_up (vX M2) (8 + 2 * k) 3 r, ?_, SE.eq ?_⟩)
              · have g9 := g4
                rw [ews, hp3] at g9
                rw [← eV]
                exact Or.inr ⟨hws, hNs, g2.up (by simp), Or.inl ⟨h1f, by rw [ec, ews]; rfl, vX M2, g2, g9, rfl⟩⟩
              · rw [cX_n (r := r) (by omega), ev, losI_y (by omega)]
                rfl
            have z0 : M2 17 13 = 0 ∨ M2 17 13 = 1 := by omega
            have z1 : ∀ c, mm_up M2 22 k c 17 10 = M2 17 10 ∧ mm_up M2 22 k c 17 13 = M2 17 13 := fun c => ⟨mm_up_ob (by omega), mm_up_ob (by omega)⟩
            refine hK2 _ _ _ _ _ _ ?_
            rcases hf with rfl | rfl
            · have tx := f0.a.t
              have mv := f0.a.v hk
              have q00 := q0 rfl (hpf.2 rfl)
              clear q0 q1 hws hNs hpa hpc
              refine mm_run_at (stop := []) (S := K) kkX5_step 90 ?_ (fun _ _ _ _ _ _ _ h => hK _ _ _ _ _ _ h)
              repeat' (first | with_reducible assumption | with_reducible exact mm_i17 | with_reducible exact mm_i18 | with_reducible exact mm_i19 | with_reducible exact mm_i20 | with_reducible exact mm_i21 | with_reducible exact mm_i22 | ((with_reducible show mm_rv _ _ _ _ _); first | exact True.intro | exact mm_i17 | exact mm_i18 | exact mm_i19 | exact mm_i20 | exact mm_i21 | exact mm_i22 | ((with_reducible show mV _ _); exact mv)) | ((with_reducible show mV _ _); exact mv) | ((with_reducible show mm_bool _ _); first | exact True.intro | exact Or.inl rfl | exact Or.inr rfl | (show (_ : Int) = 0 ∨ _ = 1)) | refine And.intro ?_ ?_ | intro _ | with_reducible exact True.intro | exact rfl | with_reducible exact Or.inl rfl | with_reducible exact Or.inr rfl | exact Nat.le_of_ble_eq_true rfl)
              all_goals (try simp (disch := omega) only [InI, Int.toNat_natCast, Int.tmod_eq_emod_of_nonneg, Int.tdiv_eq_ediv_of_nonneg, true_implies, true_or, or_true, mm_l18, mm_l19, mm_l20, mm_l21, mm_l22] at *)
              all_goals first | omega | exact q00 _ rfl _ (by assumption) | skip
            · refine mm_run_at (stop := []) (S := K) kkX5_step 90 ?_ (fun _ _ _ _ _ _ _ h => hK _ _ _ _ _ _ h)
              refine mm_a2 ⟨by omega, by omega⟩ (mm_a2 (fun h => by omega) (fun _ => ?_))
              refine mm_a2 (by exact mm_i17) (mm_c5 rfl (Nat.le_of_ble_eq_true rfl) (by exact mm_i17) (Nat.le_of_ble_eq_true rfl) (Nat.le_of_ble_eq_true rfl) (mm_a4 rfl ht2 hst2 (fun c hc => ?_)))
              have tx := (f1 c hc.2).a.t
              have mv := (f1 c hc.2).a.v hk
              have z1 := z1 c
              have q11 := q1 rfl (hpf.1 rfl) c hc
              clear q0 q1 hws hNs hpa hpc
              repeat' (first | with_reducible assumption | with_reducible exact mm_i17 | with_reducible exact mm_i18 | with_reducible exact mm_i19 | with_reducible exact mm_i20 | with_reducible exact mm_i21 | with_reducible exact mm_i22 | ((with_reducible show mm_rv _ _ _ _ _); first | exact True.intro | exact mm_i17 | exact mm_i18 | exact mm_i19 | exact mm_i20 | exact mm_i21 | exact mm_i22 | ((with_reducible show mV _ _); exact mv)) | ((with_reducible show mV _ _); exact mv) | ((with_reducible show mm_bool _ _); first | exact True.intro | exact Or.inl rfl | exact Or.inr rfl | (show (_ : Int) = 0 ∨ _ = 1)) | refine And.intro ?_ ?_ | intro _ | with_reducible exact True.intro | exact rfl | with_reducible exact Or.inl rfl | with_reducible exact Or.inr rfl | exact Nat.le_of_ble_eq_true rfl)
              all_goals (try simp (disch := omega) only [InI, Int.toNat_natCast, Int.tmod_eq_emod_of_nonneg, Int.tdiv_eq_ediv_of_nonneg, true_implies, true_or, or_true, mm_l18, mm_l19, mm_l20, mm_l21, mm_l22] at *)
              all_goals first | omega | exact q11 _ rfl _ rfl | (rw [z1.1]; omega) | (rw [z1.2]; omega) | skip
          clear q9
          refine mm_run_at (stop := [103]) (S := K) kkX5_step 90 ?_ (fun _ _ _ _ _ _ _ h => hK _ _ _ _ _ _ h)
          repeat' (first | with_reducible assumption | with_reducible exact mm_i17 | with_reducible exact mm_i18 | with_reducible exact mm_i19 | with_reducible exact mm_i20 | with_reducible exact mm_i21 | with_reducible exact mm_i22 | ((with_reducible show mm_rv _ _ _ _ _); first | exact True.intro | exact mm_i17 | exact mm_i18 | exact mm_i19 | exact mm_i20 | exact mm_i21 | exact mm_i22 | ((with_reducible show mV _ _); exact hv)) | ((with_reducible show mV _ _); exact hv) | ((with_reducible show mm_bool _ _); first | exact True.intro | exact Or.inl rfl | exact Or.inr rfl | (show (_ : Int) = 0 ∨ _ = 1)) | refine And.intro ?_ ?_ | intro _ | with_reducible exact True.intro | exact rfl | with_reducible exact Or.inl rfl | with_reducible exact Or.inr rfl | exact Nat.le_of_ble_eq_true rfl)
          all_goals (try simp (disch := omega) only [InI, Int.toNat_natCast, Int.tmod_eq_emod_of_nonneg, Int.tdiv_eq_ediv_of_nonneg, true_implies, true_or, or_true, mm_l18, mm_l19, mm_l20, mm_l21, mm_l22] at *)
          all_goals first | omega | exact k103 0 (by omega) (by omega) _ (by assumption) | exact k103 (M1 21 k) (by omega) (by omega) _ (by assumption) | skip
        · have q99 := q9 (by
            by_cases e : st = -1
            · exact Or.inl (by rw [← ews]; exact e)
            · refine Or.inr (fun hN => ?_)
              rcases hr with h | h
              · exact hok ⟨h.1, e⟩
              · exact hN r.toNat (by rw [en]; omega) (by rw [vX_i (by omega) (by omega)]; exact h.2.2.1))
          clear ews q9
          refine mm_run_at (stop := [82]) (S := K) kkX5_step 90 ?_ (fun _ _ _ _ _ _ _ h => hK _ _ _ _ _ _ h)
          repeat' (first | with_reducible assumption | with_reducible exact mm_i17 | with_reducible exact mm_i18 | with_reducible exact mm_i19 | with_reducible exact mm_i20 | with_reducible exact mm_i21 | with_reducible exact mm_i22 | ((with_reducible show mm_rv _ _ _ _ _); first | exact True.intro | exact mm_i17 | exact mm_i18 | exact mm_i19 | exact mm_i20 | exact mm_i21 | exact mm_i22) | ((with_reducible show mm_bool _ _); first | exact True.intro | exact Or.inl rfl | exact Or.inr rfl | (show (_ : Int) = 0 ∨ _ = 1)) | refine And.intro ?_ ?_ | intro _ | with_reducible exact True.intro | exact rfl | with_reducible exact Or.inl rfl | with_reducible exact Or.inr rfl | exact Nat.le_of_ble_eq_true rfl)
          all_goals (try simp (disch := omega) only [InI, Int.toNat_natCast, Int.tmod_eq_emod_of_nonneg, Int.tdiv_eq_ediv_of_nonneg, true_implies, true_or, or_true, mm_l18, mm_l19, mm_l20, mm_l21, mm_l22] at *)
          all_goals first | omega | exact q99 | skip
      refine hK2 _ _ _ _ _ _ ?_
      have hc0 := hwv
      have kA : f = 1 → ∀ st, (st = cmX M1 s (M1 22 k) ∧ -1 ≤ st ∧ st < 2 * M1 17 1 ∧ (0 ≤ st → st / 2 = s)) → ∀ r, ((r = -1 ∧ ∀ i : Nat, i < M1 21 k → M1 20 (30 * k + i) / 2 ≠ s) ∨ (0 ≤ r ∧ r < M1 21 k ∧ M1 20 (30 * k + r.toNat) / 2 = s ∧ ∀ i : Nat, i < r → M1 20 (30 * k + i) / 2 ≠ s)) → K 67 [some (mm_R 17), some (mm_I k), some (mm_I s), some (mm_I f), some (mm_I st)] [mm_I r] M1 d 0 := fun h st hs => k67 st (by unfold wsF; rw [if_pos h, vX_b (by omega), hs.1, cm_v]) hs.2
      have kB : f = 0 → ∀ c, (c = cor (vX M1) (8 + 2 * k) (vX M1 (8 + 2 * k) 2) ∧ 0 ≤ c ∧ c < 10) → ∀ st, (st = lvX M1 s c ∧ -1 ≤ st ∧ st < 2 * M1 17 1 ∧ (0 ≤ st → st / 2 = s)) → ∀ r, ((r = -1 ∧ ∀ i : Nat, i < M1 21 k → M1 20 (30 * k + i) / 2 ≠ s) ∨ (0 ≤ r ∧ r < M1 21 k ∧ M1 20 (30 * k + r.toNat) / 2 = s ∧ ∀ i : Nat, i < r → M1 20 (30 * k + i) / 2 ≠ s)) → K 67 [some (mm_R 17), some (mm_I k), some (mm_I s), some (mm_I f), some (mm_I st)] [mm_I r] M1 d 0 := fun h c hc st hs => k67 st (by unfold wsF; rw [if_neg (by omega), ← hc.1, hs.1, lv_v]) hs.2
      clear k67 q9 hq q1
      rcases hf with rfl | rfl
      · have kBB := kB rfl
        clear kA kB
        refine mm_run_at (stop := [67]) (S := K) kkX5_step 90 ?_ (fun _ _ _ _ _ _ _ h => hK _ _ _ _ _ _ h)
        repeat' (first | with_reducible assumption | with_reducible exact mm_i17 | with_reducible exact mm_i18 | with_reducible exact mm_i19 | with_reducible exact mm_i20 | with_reducible exact mm_i21 | with_reducible exact mm_i22 | ((with_reducible show mm_rv _ _ _ _ _); first | exact True.intro | exact mm_i17 | exact mm_i18 | exact mm_i19 | exact mm_i20 | exact mm_i21 | exact mm_i22 | ((with_reducible show mV _ _); exact hv)) | ((with_reducible show mV _ _); exact hv) | ((with_reducible show mm_bool _ _); first | exact True.intro | exact Or.inl rfl | exact Or.inr rfl | (show (_ : Int) = 0 ∨ _ = 1)) | refine And.intro ?_ ?_ | intro _ | with_reducible exact True.intro | exact rfl | with_reducible exact Or.inl rfl | with_reducible exact Or.inr rfl | exact Nat.le_of_ble_eq_true rfl)
        all_goals (try simp (disch := omega) only [InI, Int.toNat_natCast, Int.tmod_eq_emod_of_nonneg, Int.tdiv_eq_ediv_of_nonneg, true_implies, true_or, or_true, mm_l18, mm_l19, mm_l20, mm_l21, mm_l22] at *)
        all_goals first | omega | exact kBB _ (by assumption) _ (by assumption) _ (by assumption) | skip
      · have kAA := kA rfl
        clear kA kB
        refine mm_run_at (stop := [67]) (S := K) kkX5_step 90 ?_ (fun _ _ _ _ _ _ _ h => hK _ _ _ _ _ _ h)
        repeat' (first | with_reducible assumption | with_reducible exact mm_i17 | with_reducible exact mm_i18 | with_reducible exact mm_i19 | with_reducible exact mm_i20 | with_reducible exact mm_i21 | with_reducible exact mm_i22 | ((with_reducible show mm_rv _ _ _ _ _); first | exact True.intro | exact mm_i17 | exact mm_i18 | exact mm_i19 | exact mm_i20 | exact mm_i21 | exact mm_i22 | ((with_reducible show mV _ _); exact hv)) | ((with_reducible show mV _ _); exact hv) | ((with_reducible show mm_bool _ _); first | exact True.intro | exact Or.inl rfl | exact Or.inr rfl | (show (_ : Int) = 0 ∨ _ = 1)) | refine And.intro ?_ ?_ | intro _ | with_reducible exact True.intro | exact rfl | with_reducible exact Or.inl rfl | with_reducible exact Or.inr rfl | exact Nat.le_of_ble_eq_true rfl)
        all_goals (try simp (disch := omega) only [InI, Int.toNat_natCast, Int.tmod_eq_emod_of_nonneg, Int.tdiv_eq_ediv_of_nonneg, true_implies, true_or, or_true, mm_l18, mm_l19, mm_l20, mm_l21, mm_l22] at *)
        all_goals first | omega | exact kAA _ (by assumption) _ (by assumption) | skip
    have ht := ha.t
    clear hq
    refine ⟨Nat.le_of_ble_eq_true rfl, ?_⟩
    refine mm_run_at (stop := [31]) (S := K) kkX5_step 90 ?_ (fun _ _ _ _ _ _ _ h => hK _ _ _ _ _ _ h)
    repeat' (first | with_reducible assumption | with_reducible exact mm_i17 | with_reducible exact mm_i18 | with_reducible exact mm_i19 | with_reducible exact mm_i20 | with_reducible exact mm_i21 | with_reducible exact mm_i22 | ((with_reducible show mm_rv _ _ _ _ _); first | exact True.intro | exact mm_i17 | exact mm_i18 | exact mm_i19 | exact mm_i20 | exact mm_i21 | exact mm_i22) | ((with_reducible show mm_bool _ _); first | exact True.intro | exact Or.inl rfl | exact Or.inr rfl | (show (_ : Int) = 0 ∨ _ = 1)) | refine And.intro ?_ ?_ | intro _ | with_reducible exact True.intro | exact rfl | with_reducible exact Or.inl rfl | with_reducible exact Or.inr rfl | exact Nat.le_of_ble_eq_true rfl)
    all_goals (try simp (disch := omega) only [InI, Int.toNat_natCast, Int.tmod_eq_emod_of_nonneg, Int.tdiv_eq_ediv_of_nonneg, true_implies, true_or, or_true, mm_l18, mm_l19, mm_l20, mm_l21, mm_l22] at *)
    all_goals first | omega | exact q1 _ (by omega) (by omega) | exact k31 _ (by omega) (by omega) (by omega) | skip
  · exact h.elim
theorem me_X5_step {l : Launch} (hl : l.stackTraces = false) : mm_Met l yX5_step cX5_step 5 (some .int) [] 9 165 0 sp_X5_step := mm_mt hl rn_X5_step ⟨plX5, rfl⟩ kkX5_step rfl ⟨Nat.le_of_ble_eq_true rfl, Nat.le_of_ble_eq_true rfl⟩ flkX5 (fun _ h => nomatch h) (⟨mm_pe (me_X5_isNoWalk hl) mwX5_isNoWalk (mm_t7 36 rfl rfl) (Nat.le_of_ble_eq_true rfl) (Nat.le_of_ble_eq_true rfl), mm_pe (me_X5_isNoStreet hl) mwX5_isNoStreet (mm_t6 150 rfl rfl) (Nat.le_of_ble_eq_true rfl) (Nat.le_of_ble_eq_true rfl), mm_pe (me_X5_start hl) mwX5_start (mm_t6 110 rfl rfl) (Nat.le_of_ble_eq_true rfl) (Nat.le_of_ble_eq_true rfl), mm_pe (me_X5_coming hl) mwX5_coming (mm_t7 48 rfl rfl) (Nat.le_of_ble_eq_true rfl) (Nat.le_of_ble_eq_true rfl), mm_pe (me_X5_endOf hl) mwX5_endOf (mm_t6 181 rfl rfl) (Nat.le_of_ble_eq_true rfl) (Nat.le_of_ble_eq_true rfl), mm_pe (me_X5_leaving hl) mwX5_leaving (mm_t7 52 rfl rfl) (Nat.le_of_ble_eq_true rfl) (Nat.le_of_ble_eq_true rfl), mm_pe (me_X5_placeOf hl) mwX5_placeOf (mm_t6 154 rfl rfl) (Nat.le_of_ble_eq_true rfl) (Nat.le_of_ble_eq_true rfl), mm_pe (me_X5_cannot hl) mwX5_cannot (mm_t6 118 rfl rfl) (Nat.le_of_ble_eq_true rfl) (Nat.le_of_ble_eq_true rfl), mm_pe (me_X5_put hl) mwX5_put (mm_t6 197 rfl rfl) (Nat.le_of_ble_eq_true rfl) (Nat.le_of_ble_eq_true rfl), mm_pe (me_X5_goesFrom hl) mwX5_goesFrom (mm_t7 56 rfl rfl) (Nat.le_of_ble_eq_true rfl) (Nat.le_of_ble_eq_true rfl), mm_pe (me_X5_lose hl) mwX5_lose (mm_t7 40 rfl rfl) (Nat.le_of_ble_eq_true rfl) (Nat.le_of_ble_eq_true rfl), mm_pe (me_X5_act hl) mwX5_act (mm_t6 130 rfl rfl) (Nat.le_of_ble_eq_true rfl) (Nat.le_of_ble_eq_true rfl), trivial⟩) (mm_xe0 _) n9X5

