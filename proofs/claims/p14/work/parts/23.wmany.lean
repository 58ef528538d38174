/-! the class's walks: two walks, orders, words -/
theorem wVk {M M' : mm_M} {v w : Nat} (h : wV M v) (hf : fr [w, w + 1] M M') (hv : isK v) (hw : isK w) (hne : v ≠ w) : wV M' v := by
  have := wk_ap hv hw hne
  exact h.to (hf v (by simp; omega)) (hf (v + 1) (by simp; omega)) (hf.k hw).1
/-- one step more has come in -/
theorem spl_step {M0 M M' : mm_M} {w v i : Nat} {p s : Int} (h : putR M M' w (p + i) s) (hp : 0 ≤ p + (i : Int) ∧ p + (i : Int) ≤ M w 2 ∧ M w 2 < 30) (hp0 : 0 ≤ p) (hs : s = M0 (v + 1) i) (hI : ∀ x : Nat, x < M w 2 → (x < p → M (w + 1) x = M0 (w + 1) x) ∧ (p ≤ x → x < p + i → M (w + 1) x = M0 (v + 1) (x - p.toNat)) ∧ (p + i ≤ x → M (w + 1) x = M0 (w + 1) (x - i))) : ∀ x : Nat, x < M' w 2 → (x < p → M' (w + 1) x = M0 (w + 1) x) ∧ (p ≤ x → x < p + ((i + 1 : Nat) : Int) → M' (w + 1) x = M0 (v + 1) (x - p.toNat)) ∧ (p + ((i + 1 : Nat) : Int) ≤ x → M' (w + 1) x = M0 (w + 1) (x - (i + 1))) := by
  rcases h with ⟨h0, h1, h2, h3⟩ | h
  · intro x hx
    obtain ⟨c1, c2, c3⟩ := h3 x (by omega)
    refine ⟨fun g => ?_, fun g1 g2 => ?_, fun g => ?_⟩
    · rw [c1 (by omega)]
      exact (hI x (by omega)).1 g
    · by_cases e : (x : Int) = p + i
      · rw [c2 e, hs]
        congr 1
        omega
      · rw [c1 (by omega)]
        exact (hI x (by omega)).2.1 g1 (by omega)
    · rw [c3 (by omega), (hI (x - 1) (by omega)).2.2 (by omega)]
      congr 1
      omega
  · exact absurd hp h.1
def sp_X2_takeIn : mm_S := fun av M d Q => match av with
  | [.inr (.inr (.inl w)), .inr (.inr (.inl v)), .inl p] =>  isK w ∧ isK v ∧ w ≠ v ∧ tW M ∧ wV M w ∧ wV M v ∧ wD M w ∧ wD M v ∧ (∀ j : Nat, j < M v 2 → wN M w (M (v + 1) j / 2)) ∧ (0 ≤ p ∧ p ≤ M w 2) ∧ ∀ M', fr [w, w + 1, v] M M' ∧ wV M' w ∧ wD M' w ∧ wV M' v ∧ M' v 2 = 0 ∧ splR M M' w v p → Q (.inl none) M' d
  | _ => False
def ct_X2_takeIn : List (Nat × mm_Ca) := [(66, (0, 2, 12, sp_X2_stepOf, 0)), (39, (0, 3, 12, sp_X2_putIn, 0))]
abbrev rr_X2_takeIn (Q : mm_Q) := mm_run (mm_look flX2) (mm_look ct_X2_takeIn) mm_x0 (mm_look ([] : List (Nat × Int))) (fun _ => none) 0 0 (fun _ _ => none) Q kdX2_takeIn
set_option maxRecDepth 20000 in
theorem lp_X2_takeIn {M0 : mm_M} {d : List Nat} {Q : mm_Q} {w v m : Nat} {p : Int} (hw : isK w) (hv : isK v) (hne : w ≠ v) (ht0 : tW M0) (hp : 0 ≤ p ∧ p ≤ M0 w 2) (hm : M0 v 2 = m) (hv0 : wV M0 v) (hd0 : wD M0 v) (hq : ∀ M', fr [w, w + 1, v] M0 M' ∧ wV M' w ∧ wD M' w ∧ wV M' v ∧ M' v 2 = 0 ∧ splR M0 M' w v p → Q (.inl none) M' d) : ∀ (k i : Nat) (M : mm_M), i + k = m → fr [w, w + 1] M0 M → wV M w → wD M w → (∀ j : Nat, i ≤ j → j < M0 v 2 → wN M w (M0 (v + 1) j / 2)) → M w 2 = M0 w 2 + i → M w 3 = M0 w 3 → (∀ x : Nat, x < M w 2 → (x < p → M (w + 1) x = M0 (w + 1) x) ∧ (p ≤ x → x < p + i → M (w + 1) x = M0 (v + 1) (x - p.toNat)) ∧ (p + i ≤ x → M (w + 1) x = M0 (w + 1) (x - i))) → rr_X2_takeIn Q 8 [some (mm_R w), some (mm_R v), some (mm_I p), some (mm_I m), some (mm_I i)] [] M d 0 := by
  have v1 := hv0.1
  have hap := wk_ap hw hv hne
  have hz := wk_no hw
  have hz2 := wk_no hv
  intro k
  induction k with
  | zero =>
    intro i M hi hf h1 hD hN hc hb hI
    have w1 := h1.1
    refine mm_run_at (stop := [8]) (S := rr_X2_takeIn Q) kkX2_takeIn 60 ?_ (fun _ _ _ _ _ _ _ h => h)
    simp only [mm_wp, mm_op, mm_nxt, mm_jmp, mm_at, mm_in, mm_nth, mm_set, mm_ok, mm_isL, mm_ret, mm_isRet, mm_bool, mm_call, mm_push, mm_rv, mm_cats, mm_cat, mm_look, mm_ft, mm_fv, mm_pf, mm_thr, mm_ent, mm_pad, mm_fl, beq_self_eq_true, cond_true, cond_false, Nat.reduceBEq, Nat.reduceEqDiff, List.drop_succ_cons, List.drop_zero, List.take_succ_cons, List.take_zero, List.reverse_cons, List.reverse_nil, List.nil_append, List.cons_append, List.length_cons, List.length_nil, Nat.reduceAdd, Nat.reduceSub, Nat.reduceLeDiff, Bool.not_false, Bool.and_true, Bool.true_and, Nat.zero_add, true_and, and_true, Nat.le_refl, true_or, or_true, reduceCtorEq, Nat.add_zero, Nat.reduceLT, Bool.and_self, Bool.not_true, Fin.isValue, Nat.reduceLeDiff, List.take_nil, List.drop_nil, mm_i1, mm_i2, mm_i3, mm_i4, mm_i5, mm_i6, mm_i7, mm_i16, mm_i17, mm_i18, mm_i19, mm_i20, mm_i21, mm_i22, mm_i23, mm_l3, mm_l4, mm_l5, mm_l6, mm_l7, mm_l18, mm_l19, mm_l20, mm_l21, mm_l22, kdX2_takeIn, ct_X2_takeIn, flX2, sp_X2_stepOf, sp_X2_putIn, wk_is hw, wk_is hv]
    have ew : mm_up M v 2 0 w = M w := mm_up_o _ hne
    have ew1 : mm_up M v 2 0 (w + 1) = M (w + 1) := mm_up_o _ hap.2.1
    refine ⟨⟨by omega, by omega⟩, ⟨by omega, by omega⟩, fun _ => hq _ ⟨(hf.mono (by simp)).up (by simp), ?_, ?_, ?_, by simp [mm_up], ?_⟩, fun h => by omega⟩
    · exact h1.to ew ew1 (mm_up_o _ hz2.1)
    · exact hD.to ew ew1
    · have h2 := wVk hv0 hf hv hw (Ne.symm hne)
      refine ⟨by simp [mm_up], by simpa [mm_up] using h2.2.1, fun j hj => ?_⟩
      simp [mm_up] at hj
      omega
    · refine ⟨by rw [ew]; omega, by rw [ew]; exact hb, by simp [mm_up], by simp [mm_up]; rw [hf v (by simp; omega)], fun x hx => ?_⟩
      rw [ew] at hx
      obtain ⟨a1, a2, a3⟩ := hI x hx
      rw [ew1]
      refine ⟨a1, fun g1 g2 => a2 g1 (by omega), fun g => ?_⟩
      rw [a3 (by omega)]
      congr 1
      omega
  | succ k ih =>
    intro i M hi hf h1 hD hN hc hb hI
    have w1 := h1.1
    refine mm_run_at (stop := [8]) (S := rr_X2_takeIn Q) kkX2_takeIn 60 ?_ (fun _ _ _ _ _ _ _ h => h)
    simp only [mm_wp, mm_op, mm_nxt, mm_jmp, mm_at, mm_in, mm_nth, mm_set, mm_ok, mm_isL, mm_ret, mm_isRet, mm_bool, mm_call, mm_push, mm_rv, mm_cats, mm_cat, mm_look, mm_ft, mm_fv, mm_pf, mm_thr, mm_ent, mm_pad, mm_fl, beq_self_eq_true, cond_true, cond_false, Nat.reduceBEq, Nat.reduceEqDiff, List.drop_succ_cons, List.drop_zero, List.take_succ_cons, List.take_zero, List.reverse_cons, List.reverse_nil, List.nil_append, List.cons_append, List.length_cons, List.length_nil, Nat.reduceAdd, Nat.reduceSub, Nat.reduceLeDiff, Bool.not_false, Bool.and_true, Bool.true_and, Nat.zero_add, true_and, and_true, Nat.le_refl, true_or, or_true, reduceCtorEq, Nat.add_zero, Nat.reduceLT, Bool.and_self, Bool.not_true, Fin.isValue, Nat.reduceLeDiff, List.take_nil, List.drop_nil, mm_i1, mm_i2, mm_i3, mm_i4, mm_i5, mm_i6, mm_i7, mm_i16, mm_i17, mm_i18, mm_i19, mm_i20, mm_i21, mm_i22, mm_i23, mm_l3, mm_l4, mm_l5, mm_l6, mm_l7, mm_l18, mm_l19, mm_l20, mm_l21, mm_l22, kdX2_takeIn, ct_X2_takeIn, flX2, sp_X2_stepOf, sp_X2_putIn, wk_is hw, wk_is hv]
    have h2 := wVk hv0 hf hv hw (Ne.symm hne)
    have e : M v 2 = M0 v 2 := by rw [hf v (by simp; omega)]
    have e1 : M (v + 1) = M0 (v + 1) := hf (v + 1) (by simp; omega)
    have ht := tWk ht0 hf hw
    have t1 := ht.1
    refine ⟨⟨by omega, by omega⟩, ⟨by omega, by omega⟩, fun h => by omega, fun _ => ⟨hv, ht, h2, ⟨by omega, by omega⟩, fun r hr => ?_⟩⟩
    have er : r = M0 (v + 1) i := by
      rw [hr.1]
      unfold stp
      rw [if_pos (by omega), e1]
      rfl
    have hso : stO M r := by
      rw [er, ← e1]
      exact h2.2.2 _ (by omega)
    have hNr : wN M w (r / 2) := by
      rw [er]
      exact hN i (by omega) (by omega)
    have hlt := wD_lt h1 hD (s := r / 2) (by unfold stO at hso; omega) hNr
    have hcnd : 0 ≤ p + (i : Int) ∧ p + (i : Int) ≤ M w 2 ∧ M w 2 < 30 := ⟨by omega, by omega, by omega⟩
    refine ⟨hw, h1, ⟨by omega, by omega⟩, hso, fun M' h3 => ?_⟩
    obtain ⟨p1, p2, p3⟩ := put_at h3.2.2 hcnd
    refine ih (i + 1) M' (by omega) (hf.tr h3.1) h3.2.1 (put_wD hD hNr h3.2.2) (fun j hj hj2 => put_wN (hN j (by omega) hj2) (fun e9 => ?_) h3.2.2) (by omega) (by omega) (spl_step h3.2.2 hcnd hp.1 er hI)
    rw [er] at e9
    have := hd0 i j (by omega) hj2 e9
    omega
set_option maxRecDepth 20000 in
theorem rn_X2_takeIn : mm_RN flX2 ct_X2_takeIn mm_x0 [] 0 0 5 kdX2_takeIn sp_X2_takeIn := by
  intro av M d Q h
  unfold sp_X2_takeIn at h
  split at h
  · rename_i w v p
    obtain ⟨hw, hv, hne, ht, a1, a2, d1, d2, hN, hp, hq⟩ := h
    have v1 := a2.1
    obtain ⟨m, hm⟩ := Int.eq_ofNat_of_zero_le v1.1
    refine ⟨Nat.le_of_ble_eq_true rfl, mm_run_at (stop := [8]) (S := rr_X2_takeIn Q) kkX2_takeIn 80 ?_ (fun _ _ _ _ _ _ _ h => h)⟩
    simp only [mm_wp, mm_op, mm_nxt, mm_jmp, mm_at, mm_in, mm_nth, mm_set, mm_ok, mm_isL, mm_ret, mm_isRet, mm_bool, mm_call, mm_push, mm_rv, mm_cats, mm_cat, mm_look, mm_ft, mm_fv, mm_pf, mm_thr, mm_ent, mm_pad, mm_fl, beq_self_eq_true, cond_true, cond_false, Nat.reduceBEq, Nat.reduceEqDiff, List.drop_succ_cons, List.drop_zero, List.take_succ_cons, List.take_zero, List.reverse_cons, List.reverse_nil, List.nil_append, List.cons_append, List.length_cons, List.length_nil, Nat.reduceAdd, Nat.reduceSub, Nat.reduceLeDiff, Bool.not_false, Bool.and_true, Bool.true_and, Nat.zero_add, true_and, and_true, Nat.le_refl, true_or, or_true, reduceCtorEq, Nat.add_zero, Nat.reduceLT, Bool.and_self, Bool.not_true, Fin.isValue, Nat.reduceLeDiff, List.take_nil, List.drop_nil, mm_i1, mm_i2, mm_i3, mm_i4, mm_i5, mm_i6, mm_i7, mm_i16, mm_i17, mm_i18, mm_i19, mm_i20, mm_i21, mm_i22, mm_i23, mm_l3, mm_l4, mm_l5, mm_l6, mm_l7, mm_l18, mm_l19, mm_l20, mm_l21, mm_l22, kdX2_takeIn, ct_X2_takeIn, flX2, sp_X2_stepOf, sp_X2_putIn, wk_is hw, wk_is hv]
    rw [hm]
    exact lp_X2_takeIn hw hv hne ht hp hm a2 d2 hq m 0 M (by omega) fr.rf a1 d1 (fun j _ hj => hN j hj) (by omega) rfl (fun x hx => ⟨fun _ => rfl, fun g1 g2 => by omega, fun _ => rfl⟩)
  · exact h.elim
theorem me_X2_takeIn {l : Launch} (hl : l.stackTraces = false) : mm_Met l yX2_takeIn cX2_takeIn 5 none [] 7 123 0 sp_X2_takeIn := mm_mt hl rn_X2_takeIn ⟨plX2, rfl⟩ kkX2_takeIn rfl ⟨Nat.le_of_ble_eq_true rfl, Nat.le_of_ble_eq_true rfl⟩ flkX2 (fun _ h => nomatch h) (⟨mm_pe (me_X2_stepOf hl) mwX2_stepOf (mm_t3 239 rfl rfl) (Nat.le_of_ble_eq_true rfl) (Nat.le_of_ble_eq_true rfl), mm_pe (me_X2_putIn hl) mwX2_putIn (mm_t2 134 rfl rfl) (Nat.le_of_ble_eq_true rfl) (Nat.le_of_ble_eq_true rfl), trivial⟩) (mm_xe0 _) n9X2
def sp_X2_giveOut : mm_S := fun av M d Q => match av with
  | [.inr (.inr (.inl w)), .inl a, .inl b, .inr (.inr (.inl v))] =>  isK w ∧ isK v ∧ w ≠ v ∧ tW M ∧ wV M w ∧ wV M v ∧ wD M w ∧ (0 ≤ a ∧ a ≤ b ∧ b ≤ M w 2) ∧ ∀ M', fr [w, w + 1, v, v + 1] M M' ∧ wV M' w ∧ wV M' v ∧ wD M' w ∧ wD M' v ∧ givR M M' w v a b → Q (.inl none) M' d
  | _ => False
def ct_X2_giveOut : List (Nat × mm_Ca) := [(26, (0, 2, 12, sp_X2_cornerOf, 0)), (93, (0, 2, 12, sp_X2_restart, 0)), (66, (0, 2, 12, sp_X2_stepOf, 0)), (39, (0, 3, 12, sp_X2_putIn, 0)), (46, (0, 2, 12, sp_X2_takeOut, 0))]
abbrev rr_X2_giveOut (Q : mm_Q) := mm_run (mm_look flX2) (mm_look ct_X2_giveOut) mm_x0 (mm_look ([] : List (Nat × Int))) (fun _ => none) 0 0 (fun _ _ => none) Q kdX2_giveOut
def givI (M0 M : mm_M) (w v : Nat) (a i : Int) : Prop := M w 2 = M0 w 2 - (i - a) ∧ M w 3 = M0 w 3 ∧ M v 2 = i - a ∧ M v 3 = cor M0 w a ∧ (∀ x : Nat, x < M0 w 2 - (i - a) → (x < a → M (w + 1) x = M0 (w + 1) x) ∧ (a ≤ x → M (w + 1) x = M0 (w + 1) (x + (i - a).toNat))) ∧ ∀ x : Nat, x < i - a → M (v + 1) x = M0 (w + 1) (a.toNat + x)
set_option maxRecDepth 20000 in
theorem giv_step {M0 M M1 M2 : mm_M} {w v : Nat} {a i r : Int} (hw : isK w) (hv : isK v) (hne : w ≠ v) (ha : 0 ≤ a ∧ a ≤ i ∧ i < M0 w 2) (h30 : M0 w 2 ≤ 30) (h : givI M0 M w v a i) (hr : r = M (w + 1) a.toNat) (hp : putR M M1 v (M v 2) r) (hf : fr [v, v + 1] M M1) (ht : takR M1 M2 w a) (hf2 : fr [w, w + 1] M1 M2) : givI M0 M2 w v a (i + 1) := by
  have hap := wk_ap hw hv hne
  obtain ⟨b1, b2, b3, b4, b5, b6⟩ := h
  have ew : M1 w = M w := hf w (by simp; omega)
  have ew1 : M1 (w + 1) = M (w + 1) := hf (w + 1) (by simp; omega)
  have ev : M2 v = M1 v := hf2 v (by simp; omega)
  have ev1 : M2 (v + 1) = M1 (v + 1) := hf2 (v + 1) (by simp; omega)
  have er : r = M0 (w + 1) i.toNat := by
    rw [hr, (b5 a.toNat (by omega)).2 (by omega)]
    congr 1
    omega
  rcases hp with ⟨p0, p1, p2, p3⟩ | hp
  · rcases ht with ⟨q0, q1, q2, q3⟩ | ht
    · rw [ew] at q0 q1 q2 q3
      rw [ew1] at q3
      refine ⟨by omega, by rw [q2]; exact b2, by rw [ev]; omega, by rw [ev, p2]; exact b4, fun x hx => ?_, fun x hx => ?_⟩
      · obtain ⟨c1, c2⟩ := q3 x (by omega)
        refine ⟨fun g => ?_, fun g => ?_⟩
        · rw [c1 g]
          exact (b5 x (by omega)).1 g
        · rw [c2 g, (b5 (x + 1) (by omega)).2 (by omega)]
          congr 1
          omega
      · rw [ev1]
        obtain ⟨c1, c2, c3⟩ := p3 x (by omega)
        by_cases e : (x : Int) = M v 2
        · rw [c2 e, er]
          congr 1
          omega
        · rw [c1 (by omega)]
          exact b6 x (by omega)
    · rw [ew] at ht
      exact absurd ⟨by omega, by omega⟩ ht.1
  · exact absurd ⟨by omega, by omega, by omega⟩ hp.1
set_option maxRecDepth 20000 in
theorem lp_X2_giveOut {M0 : mm_M} {d : List Nat} {Q : mm_Q} {w v : Nat} {a b : Int} (hw : isK w) (hv : isK v) (hne : w ≠ v) (ht0 : tW M0) (ha : 0 ≤ a ∧ a ≤ b ∧ b ≤ M0 w 2) (h30 : M0 w 2 ≤ 30) (hq : ∀ M', fr [w, w + 1, v, v + 1] M0 M' ∧ wV M' w ∧ wV M' v ∧ wD M' w ∧ wD M' v ∧ givR M0 M' w v a b → Q (.inl none) M' d) : ∀ (k : Nat) (i : Int) (M : mm_M), i + k = b → a ≤ i → fr [w, w + 1, v, v + 1] M0 M → wV M w → wV M v → wD M w → wD M v → (∀ j : Nat, j < M w 2 → wN M v (M (w + 1) j / 2)) → a + k ≤ M w 2 → givI M0 M w v a i → rr_X2_giveOut Q 12 [some (mm_R w), some (mm_I a), some (mm_I b), some (mm_R v), some (mm_I i)] [] M d 0 := by
  have hap := wk_ap hw hv hne
  have hz := wk_no hw
  have hz2 := wk_no hv
  intro k
  induction k with
  | zero =>
    intro i M hi hai hf h1 h2 d1 d2 hN h3 hG
    have e : i = b := by omega
    subst e
    refine mm_run_at (stop := [12]) (S := rr_X2_giveOut Q) kkX2_giveOut 60 ?_ (fun _ _ _ _ _ _ _ h => h)
    simp only [mm_wp, mm_op, mm_nxt, mm_jmp, mm_at, mm_in, mm_nth, mm_set, mm_ok, mm_isL, mm_ret, mm_isRet, mm_bool, mm_call, mm_push, mm_rv, mm_cats, mm_cat, mm_look, mm_ft, mm_fv, mm_pf, mm_thr, mm_ent, mm_pad, mm_fl, beq_self_eq_true, cond_true, cond_false, Nat.reduceBEq, Nat.reduceEqDiff, List.drop_succ_cons, List.drop_zero, List.take_succ_cons, List.take_zero, List.reverse_cons, List.reverse_nil, List.nil_append, List.cons_append, List.length_cons, List.length_nil, Nat.reduceAdd, Nat.reduceSub, Nat.reduceLeDiff, Bool.not_false, Bool.and_true, Bool.true_and, Nat.zero_add, true_and, and_true, Nat.le_refl, true_or, or_true, reduceCtorEq, Nat.add_zero, Nat.reduceLT, Bool.and_self, Bool.not_true, Fin.isValue, Nat.reduceLeDiff, List.take_nil, List.drop_nil, mm_i1, mm_i2, mm_i3, mm_i4, mm_i5, mm_i6, mm_i7, mm_i16, mm_i17, mm_i18, mm_i19, mm_i20, mm_i21, mm_i22, mm_i23, mm_l3, mm_l4, mm_l5, mm_l6, mm_l7, mm_l18, mm_l19, mm_l20, mm_l21, mm_l22, kdX2_giveOut, ct_X2_giveOut, flX2, sp_X2_cornerOf, sp_X2_restart, sp_X2_stepOf, sp_X2_putIn, sp_X2_takeOut, wk_is hw, wk_is hv]
    exact ⟨⟨by omega, by omega⟩, ⟨by omega, by omega⟩, fun _ => hq M ⟨hf, h1, h2, d1, d2, hG⟩, fun h => by omega⟩
  | succ k ih =>
    intro i M hi hai hf h1 h2 d1 d2 hN h3 hG
    have ht : tW M := ht0.fr hf (by simp; omega) (by simp; omega) (by simp; omega)
    have v1 := h1.1
    have v2 := h2.1
    refine mm_run_at (stop := [12]) (S := rr_X2_giveOut Q) kkX2_giveOut 60 ?_ (fun _ _ _ _ _ _ _ h => h)
    simp only [mm_wp, mm_op, mm_nxt, mm_jmp, mm_at, mm_in, mm_nth, mm_set, mm_ok, mm_isL, mm_ret, mm_isRet, mm_bool, mm_call, mm_push, mm_rv, mm_cats, mm_cat, mm_look, mm_ft, mm_fv, mm_pf, mm_thr, mm_ent, mm_pad, mm_fl, beq_self_eq_true, cond_true, cond_false, Nat.reduceBEq, Nat.reduceEqDiff, List.drop_succ_cons, List.drop_zero, List.take_succ_cons, List.take_zero, List.reverse_cons, List.reverse_nil, List.nil_append, List.cons_append, List.length_cons, List.length_nil, Nat.reduceAdd, Nat.reduceSub, Nat.reduceLeDiff, Bool.not_false, Bool.and_true, Bool.true_and, Nat.zero_add, true_and, and_true, Nat.le_refl, true_or, or_true, reduceCtorEq, Nat.add_zero, Nat.reduceLT, Bool.and_self, Bool.not_true, Fin.isValue, Nat.reduceLeDiff, List.take_nil, List.drop_nil, mm_i1, mm_i2, mm_i3, mm_i4, mm_i5, mm_i6, mm_i7, mm_i16, mm_i17, mm_i18, mm_i19, mm_i20, mm_i21, mm_i22, mm_i23, mm_l3, mm_l4, mm_l5, mm_l6, mm_l7, mm_l18, mm_l19, mm_l20, mm_l21, mm_l22, kdX2_giveOut, ct_X2_giveOut, flX2, sp_X2_cornerOf, sp_X2_restart, sp_X2_stepOf, sp_X2_putIn, sp_X2_takeOut, wk_is hw, wk_is hv]
    refine ⟨⟨by omega, by omega⟩, ⟨by omega, by omega⟩, fun h => by omega, fun _ => ⟨hw, ht, h1, ⟨by omega, by omega⟩, fun r hr => ⟨hv, h2, ⟨by omega, by omega⟩, ?_, fun M' h4 => ⟨hw, ?_, ⟨by omega, by omega⟩, fun M2 h5 => ?_⟩⟩⟩⟩
    · rw [hr.1]
      unfold stp
      rw [if_pos (by omega)]
      exact h1.2.2 _ (by omega)
    · exact wVk h1 h4.1 hw hv hne
    · have e1 : M' w 2 = M w 2 := by rw [h4.1 w (by simp; omega)]
      have er : r = M (w + 1) a.toNat := by
        rw [hr.1]
        unfold stp
        rw [if_pos (by omega)]
      have ew : M' (w + 1) = M (w + 1) := h4.1 (w + 1) (by simp; omega)
      have dv : wD M' v := put_wD d2 (by rw [er]; exact hN a.toNat (by omega)) h4.2.2
      have dw : wD M' w := wDk d1 h4.1 hw hv hne
      have ho := tak_out dw h5.2.2 (by omega)
      rw [ew] at ho
      refine ih (i + 1) M2 (by omega) (by omega) (hf.tr ((h4.1.mono (by simp)).tr (h5.1.mono (by simp)))) h5.2.1 (wVk h4.2.1 h5.1 hv hw (Ne.symm hne)) (tak_wD dw h5.2.2) (wDk dv h5.1 hv hw (Ne.symm hne)) (fun j hj => wNk (put_wN (s := r) ?_ ?_ h4.2.2) h5.1 hv hw (Ne.symm hne)) ?_ (giv_step hw hv hne ⟨ha.1, hai, by omega⟩ h30 hG er h4.2.2 h4.1 h5.2.2 h5.1)
      · obtain ⟨j', q1, q2, q3⟩ := tak_ix h5.2.2 (by omega) j hj
        rw [q2, ew]
        exact hN j' (by omega)
      · rw [er]
        exact fun e9 => ho j hj e9.symm
      rcases h5.2.2 with h6 | h6
      · rw [h6.2.1, e1]
        omega
      · exact absurd ⟨by omega, by omega⟩ h6.1
set_option maxRecDepth 20000 in
theorem rn_X2_giveOut : mm_RN flX2 ct_X2_giveOut mm_x0 [] 0 0 5 kdX2_giveOut sp_X2_giveOut := by
  intro av M d Q h
  unfold sp_X2_giveOut at h
  split at h
  · rename_i w a b v
    obtain ⟨hw, hv, hne, ht, a1, a2, d1, ha, hq⟩ := h
    have hap := wk_ap hw hv hne
    have hz := wk_no hw
    have hz2 := wk_no hv
    have v1 := a1.1
    refine ⟨Nat.le_of_ble_eq_true rfl, mm_run_at (stop := [12]) (S := rr_X2_giveOut Q) kkX2_giveOut 80 ?_ (fun _ _ _ _ _ _ _ h => h)⟩
    simp only [mm_wp, mm_op, mm_nxt, mm_jmp, mm_at, mm_in, mm_nth, mm_set, mm_ok, mm_isL, mm_ret, mm_isRet, mm_bool, mm_call, mm_push, mm_rv, mm_cats, mm_cat, mm_look, mm_ft, mm_fv, mm_pf, mm_thr, mm_ent, mm_pad, mm_fl, beq_self_eq_true, cond_true, cond_false, Nat.reduceBEq, Nat.reduceEqDiff, List.drop_succ_cons, List.drop_zero, List.take_succ_cons, List.take_zero, List.reverse_cons, List.reverse_nil, List.nil_append, List.cons_append, List.length_cons, List.length_nil, Nat.reduceAdd, Nat.reduceSub, Nat.reduceLeDiff, Bool.not_false, Bool.and_true, Bool.true_and, Nat.zero_add, true_and, and_true, Nat.le_refl, true_or, or_true, reduceCtorEq, Nat.add_zero, Nat.reduceLT, Bool.and_self, Bool.not_true, Fin.isValue, Nat.reduceLeDiff, List.take_nil, List.drop_nil, mm_i1, mm_i2, mm_i3, mm_i4, mm_i5, mm_i6, mm_i7, mm_i16, mm_i17, mm_i18, mm_i19, mm_i20, mm_i21, mm_i22, mm_i23, mm_l3, mm_l4, mm_l5, mm_l6, mm_l7, mm_l18, mm_l19, mm_l20, mm_l21, mm_l22, kdX2_giveOut, ct_X2_giveOut, flX2, sp_X2_cornerOf, sp_X2_restart, sp_X2_stepOf, sp_X2_putIn, sp_X2_takeOut, wk_is hw, wk_is hv]
    refine ⟨hw, ht, a1, ⟨by omega, by omega⟩, fun r hr => ⟨hv, ?_⟩⟩
    have e : (mm_up (mm_up M v 2 0) v 3 r) w 2 = M w 2 := by simp [mm_up, hne]
    refine lp_X2_giveOut hw hv hne ht ha v1.2 hq (b - a).toNat a _ (by omega) (by omega) ((fr.rf.up (by simp)).up (by simp)) ?_ ⟨by simp [mm_up], by simp [mm_up]; omega, fun j hj => ?_⟩ (d1.to (by rw [mm_up_o _ hne, mm_up_o _ hne]) (by rw [mm_up_o _ hap.2.1, mm_up_o _ hap.2.1])) (wD_0 (by simp [mm_up])) (fun j hj i hi => by simp [mm_up] at hi; omega) (by rw [e]; omega) ⟨by rw [e]; omega, by simp [mm_up, hne], by simp [mm_up], by simp [mm_up]; exact hr.1, fun x hx => ?_, fun x hx => by omega⟩
    · refine a1.to ?_ ?_ ?_
      · rw [mm_up_o _ hne, mm_up_o _ hne]
      · rw [mm_up_o _ hap.2.1, mm_up_o _ hap.2.1]
      · rw [mm_up_o _ hz2.1, mm_up_o _ hz2.1]
    · simp [mm_up] at hj
      omega
    · rw [mm_up_o _ hap.2.1, mm_up_o _ hap.2.1, show (a - a).toNat = 0 by omega]
      exact ⟨fun _ => rfl, fun _ => rfl⟩
  · exact h.elim
theorem me_X2_giveOut {l : Launch} (hl : l.stackTraces = false) : mm_Met l yX2_giveOut cX2_giveOut 5 none [] 9 164 0 sp_X2_giveOut := mm_mt hl rn_X2_giveOut ⟨plX2, rfl⟩ kkX2_giveOut rfl ⟨Nat.le_of_ble_eq_true rfl, Nat.le_of_ble_eq_true rfl⟩ flkX2 (fun _ h => nomatch h) (⟨mm_pe (me_X2_cornerOf hl) mwX2_cornerOf (mm_t1 191 rfl rfl) (Nat.le_of_ble_eq_true rfl) (Nat.le_of_ble_eq_true rfl), mm_pe (me_X2_restart hl) mwX2_restart (mm_t4 71 rfl rfl) (Nat.le_of_ble_eq_true rfl) (Nat.le_of_ble_eq_true rfl), mm_pe (me_X2_stepOf hl) mwX2_stepOf (mm_t3 239 rfl rfl) (Nat.le_of_ble_eq_true rfl) (Nat.le_of_ble_eq_true rfl), mm_pe (me_X2_putIn hl) mwX2_putIn (mm_t2 134 rfl rfl) (Nat.le_of_ble_eq_true rfl) (Nat.le_of_ble_eq_true rfl), mm_pe (me_X2_takeOut hl) mwX2_takeOut (mm_t2 71 rfl rfl) (Nat.le_of_ble_eq_true rfl) (Nat.le_of_ble_eq_true rfl), trivial⟩) (mm_xe0 _) n9X2
def sp_X2_takeAllOf : mm_S := fun av M d Q => match av with
  | [.inr (.inr (.inl w)), .inr (.inr (.inl v))] =>  isK w ∧ isK v ∧ w ≠ v ∧ tW M ∧ wV M v ∧ wD M v ∧ ∀ M', fr [w, w + 1] M M' ∧ wV M' w ∧ wD M' w ∧ M' w 2 = M v 2 ∧ M' w 3 = M v 3 ∧ (∀ j : Nat, j < M v 2 → M' (w + 1) j = M (v + 1) j) → Q (.inl none) M' d
  | _ => False
def ct_X2_takeAllOf : List (Nat × mm_Ca) := [(93, (0, 2, 12, sp_X2_restart, 0)), (39, (0, 3, 12, sp_X2_putIn, 0))]
abbrev rr_X2_takeAllOf (Q : mm_Q) := mm_run (mm_look flX2) (mm_look ct_X2_takeAllOf) mm_x0 (mm_look ([] : List (Nat × Int))) (fun _ => none) 0 0 (fun _ _ => none) Q kdX2_takeAllOf
set_option maxRecDepth 20000 in
theorem lp_X2_takeAllOf {M0 : mm_M} {d : List Nat} {Q : mm_Q} {w v m : Nat} (hw : isK w) (hv : isK v) (hne : w ≠ v) (hm : M0 v 2 = m) (hv0 : wV M0 v) (hd0 : wD M0 v) (hq : ∀ M', fr [w, w + 1] M0 M' ∧ wV M' w ∧ wD M' w ∧ M' w 2 = M0 v 2 ∧ M' w 3 = M0 v 3 ∧ (∀ j : Nat, j < M0 v 2 → M' (w + 1) j = M0 (v + 1) j) → Q (.inl none) M' d) : ∀ (k i : Nat) (M : mm_M), i + k = m → fr [w, w + 1] M0 M → wV M w → M w 2 = i → M w 3 = M0 v 3 → (∀ j : Nat, j < i → M (w + 1) j = M0 (v + 1) j) → rr_X2_takeAllOf Q 15 [some (mm_R w), some (mm_R v), some (mm_I m), some (mm_I i)] [] M d 0 := by
  have v1 := hv0.1
  intro k
  induction k with
  | zero =>
    intro i M hi hf h1 h2 h3 h4
    refine mm_run_at (stop := [15]) (S := rr_X2_takeAllOf Q) kkX2_takeAllOf 60 ?_ (fun _ _ _ _ _ _ _ h => h)
    simp only [mm_wp, mm_op, mm_nxt, mm_jmp, mm_at, mm_in, mm_nth, mm_set, mm_ok, mm_isL, mm_ret, mm_isRet, mm_bool, mm_call, mm_push, mm_rv, mm_cats, mm_cat, mm_look, mm_ft, mm_fv, mm_pf, mm_thr, mm_ent, mm_pad, mm_fl, beq_self_eq_true, cond_true, cond_false, Nat.reduceBEq, Nat.reduceEqDiff, List.drop_succ_cons, List.drop_zero, List.take_succ_cons, List.take_zero, List.reverse_cons, List.reverse_nil, List.nil_append, List.cons_append, List.length_cons, List.length_nil, Nat.reduceAdd, Nat.reduceSub, Nat.reduceLeDiff, Bool.not_false, Bool.and_true, Bool.true_and, Nat.zero_add, true_and, and_true, Nat.le_refl, true_or, or_true, reduceCtorEq, Nat.add_zero, Nat.reduceLT, Bool.and_self, Bool.not_true, Fin.isValue, Nat.reduceLeDiff, List.take_nil, List.drop_nil, mm_i1, mm_i2, mm_i3, mm_i4, mm_i5, mm_i6, mm_i7, mm_i16, mm_i17, mm_i18, mm_i19, mm_i20, mm_i21, mm_i22, mm_i23, mm_l3, mm_l4, mm_l5, mm_l6, mm_l7, mm_l18, mm_l19, mm_l20, mm_l21, mm_l22, kdX2_takeAllOf, ct_X2_takeAllOf, flX2, sp_X2_restart, sp_X2_putIn, wk_is hw, wk_is hv]
    refine ⟨⟨by omega, by omega⟩, ⟨by omega, by omega⟩, fun _ => hq M ⟨hf, h1, fun a b ha hb e => ?_, by omega, h3, fun j hj => h4 j (by omega)⟩, fun h => by omega⟩
    rw [h4 a (by omega), h4 b (by omega)] at e
    exact hd0 a b (by omega) (by omega) e
  | succ k ih =>
    intro i M hi hf h1 h2 h3 h4
    refine mm_run_at (stop := [15]) (S := rr_X2_takeAllOf Q) kkX2_takeAllOf 60 ?_ (fun _ _ _ _ _ _ _ h => h)
    simp only [mm_wp, mm_op, mm_nxt, mm_jmp, mm_at, mm_in, mm_nth, mm_set, mm_ok, mm_isL, mm_ret, mm_isRet, mm_bool, mm_call, mm_push, mm_rv, mm_cats, mm_cat, mm_look, mm_ft, mm_fv, mm_pf, mm_thr, mm_ent, mm_pad, mm_fl, beq_self_eq_true, cond_true, cond_false, Nat.reduceBEq, Nat.reduceEqDiff, List.drop_succ_cons, List.drop_zero, List.take_succ_cons, List.take_zero, List.reverse_cons, List.reverse_nil, List.nil_append, List.cons_append, List.length_cons, List.length_nil, Nat.reduceAdd, Nat.reduceSub, Nat.reduceLeDiff, Bool.not_false, Bool.and_true, Bool.true_and, Nat.zero_add, true_and, and_true, Nat.le_refl, true_or, or_true, reduceCtorEq, Nat.add_zero, Nat.reduceLT, Bool.and_self, Bool.not_true, Fin.isValue, Nat.reduceLeDiff, List.take_nil, List.drop_nil, mm_i1, mm_i2, mm_i3, mm_i4, mm_i5, mm_i6, mm_i7, mm_i16, mm_i17, mm_i18, mm_i19, mm_i20, mm_i21, mm_i22, mm_i23, mm_l3, mm_l4, mm_l5, mm_l6, mm_l7, mm_l18, mm_l19, mm_l20, mm_l21, mm_l22, kdX2_takeAllOf, ct_X2_takeAllOf, flX2, sp_X2_restart, sp_X2_putIn, wk_is hw, wk_is hv, wk_iw hv, wk_ln hv]
    have hap := wk_ap hv hw (Ne.symm hne)
    have e1 : M (v + 1) = M0 (v + 1) := hf (v + 1) (by simp; omega)
    have u2 := wVk hv0 hf hv hw (Ne.symm hne)
    have e : M v 2 = M0 v 2 := by rw [hf v (by simp; omega)]
    refine ⟨⟨by omega, by omega⟩, ⟨by omega, by omega⟩, fun h => by omega, fun _ => ⟨by omega, hw, h1, ⟨by omega, by omega⟩, u2.2.2 _ (by omega), fun M' h9 => ?_⟩⟩
    rcases h9.2.2 with h5 | h5
    · refine ih (i + 1) M' (by omega) (hf.tr h9.1) h9.2.1 (by omega) (by omega) (fun j hj => ?_)
      obtain ⟨a1, a2, a3⟩ := h5.2.2.2 j (by omega)
      by_cases ej : j = i
      · subst ej
        rw [a2 rfl, e1]
        rfl
      · rw [a1 (by omega)]
        exact h4 j (by omega)
    · exact absurd ⟨by omega, by omega, by omega⟩ h5.1
set_option maxRecDepth 20000 in
theorem rn_X2_takeAllOf : mm_RN flX2 ct_X2_takeAllOf mm_x0 [] 0 0 4 kdX2_takeAllOf sp_X2_takeAllOf := by
  intro av M d Q h
  unfold sp_X2_takeAllOf at h
  split at h
  · rename_i w v
    obtain ⟨hw, hv, hne, ht, a2, d2, hq⟩ := h
    have v1 := a2.1
    have v2 := a2.2.1
    have hap := wk_ap hw hv hne
    obtain ⟨m, hm⟩ := Int.eq_ofNat_of_zero_le v1.1
    refine ⟨Nat.le_of_ble_eq_true rfl, mm_run_at (stop := [15]) (S := rr_X2_takeAllOf Q) kkX2_takeAllOf 80 ?_ (fun _ _ _ _ _ _ _ h => h)⟩
    simp only [mm_wp, mm_op, mm_nxt, mm_jmp, mm_at, mm_in, mm_nth, mm_set, mm_ok, mm_isL, mm_ret, mm_isRet, mm_bool, mm_call, mm_push, mm_rv, mm_cats, mm_cat, mm_look, mm_ft, mm_fv, mm_pf, mm_thr, mm_ent, mm_pad, mm_fl, beq_self_eq_true, cond_true, cond_false, Nat.reduceBEq, Nat.reduceEqDiff, List.drop_succ_cons, List.drop_zero, List.take_succ_cons, List.take_zero, List.reverse_cons, List.reverse_nil, List.nil_append, List.cons_append, List.length_cons, List.length_nil, Nat.reduceAdd, Nat.reduceSub, Nat.reduceLeDiff, Bool.not_false, Bool.and_true, Bool.true_and, Nat.zero_add, true_and, and_true, Nat.le_refl, true_or, or_true, reduceCtorEq, Nat.add_zero, Nat.reduceLT, Bool.and_self, Bool.not_true, Fin.isValue, Nat.reduceLeDiff, List.take_nil, List.drop_nil, mm_i1, mm_i2, mm_i3, mm_i4, mm_i5, mm_i6, mm_i7, mm_i16, mm_i17, mm_i18, mm_i19, mm_i20, mm_i21, mm_i22, mm_i23, mm_l3, mm_l4, mm_l5, mm_l6, mm_l7, mm_l18, mm_l19, mm_l20, mm_l21, mm_l22, kdX2_takeAllOf, ct_X2_takeAllOf, flX2, sp_X2_restart, sp_X2_putIn, wk_is hw, wk_is hv]
    rw [hm]
    have hf : fr [w, w + 1] M (mm_up (mm_up M w 2 0) w 3 (M v 3)) := (fr.rf.up (by simp)).up (by simp)
    have ev : (mm_up (mm_up M w 2 0) w 3 (M v 3)) v = M v := hf v (by simp; omega)
    have ev2 : (mm_up (mm_up M w 2 0) w 3 (M v 3)) (v + 1) = M (v + 1) := hf (v + 1) (by simp; omega)
    refine ⟨hw, lp_X2_takeAllOf (M0 := mm_up (mm_up M w 2 0) w 3 (M v 3)) hw hv hne ?_ (wVk a2 hf hv hw (Ne.symm hne)) (wDk d2 hf hv hw (Ne.symm hne)) (fun M' h => hq M' ⟨hf.tr h.1, h.2.1, h.2.2.1, ?_⟩) m 0 _ (by omega) fr.rf ⟨by simp [mm_up], by simp [mm_up]; omega, fun j hj => ?_⟩ (by simp [mm_up]) ?_ (fun j hj => by omega)⟩
    · rw [ev, hm]
    · have := h.2.2.2
      rw [ev, ev2] at this
      exact this
    · simp [mm_up] at hj
      omega
    · rw [ev]
      simp [mm_up]
  · exact h.elim
theorem me_X2_takeAllOf {l : Launch} (hl : l.stackTraces = false) : mm_Met l yX2_takeAllOf cX2_takeAllOf 4 none [] 7 123 0 sp_X2_takeAllOf := mm_mt hl rn_X2_takeAllOf ⟨plX2, rfl⟩ kkX2_takeAllOf rfl ⟨Nat.le_of_ble_eq_true rfl, Nat.le_of_ble_eq_true rfl⟩ flkX2 (fun _ h => nomatch h) (⟨mm_pe (me_X2_restart hl) mwX2_restart (mm_t4 71 rfl rfl) (Nat.le_of_ble_eq_true rfl) (Nat.le_of_ble_eq_true rfl), mm_pe (me_X2_putIn hl) mwX2_putIn (mm_t2 134 rfl rfl) (Nat.le_of_ble_eq_true rfl) (Nat.le_of_ble_eq_true rfl), trivial⟩) (mm_xe0 _) n9X2
theorem wV.st {M : mm_M} {w k : Nat} {s : Int} (h : wV M w) (hs : stO M s) (hw : isK w) : wV (mm_up M (w + 1) k s) w := by
  have hz := wk_no hw
  obtain ⟨v1, v2, v3⟩ := h
  refine ⟨by simpa [mm_up] using v1, by simpa [mm_up] using v2, fun i hi => ?_⟩
  have hi2 : (i : Int) < M w 2 := by simpa [mm_up] using hi
  have e : mm_up M (w + 1) k s 2 4 = M 2 4 := by rw [mm_up_o _ (by omega)]
  rw [e]
  simp only [mm_up]
  split
  · exact hs
  · exact v3 i hi2
theorem wV.b {M : mm_M} {w : Nat} {b : Int} (h : wV M w) (hb : 0 ≤ b ∧ b < 10) (hw : isK w) : wV (mm_up M w 3 b) w := by
  have hz := wk_no hw
  obtain ⟨v1, v2, v3⟩ := h
  refine ⟨by simpa [mm_up] using v1, by simpa [mm_up] using hb, fun i hi => ?_⟩
  have hi2 : (i : Int) < M w 2 := by simpa [mm_up] using hi
  have e : mm_up M w 3 b 2 4 = M 2 4 := by rw [mm_up_o _ (by omega)]
  rw [e, mm_up_o _ (by omega)]
  exact v3 i hi2
theorem swp_wD {M : mm_M} {w i j : Nat} (h : wD M w) (hi : i < M w 2) (hj : j < M w 2) (hw : isK w) : wD (mm_up (mm_up M (w + 1) i (M (w + 1) j)) (w + 1) j (M (w + 1) i)) w := by
  have e : ∀ x, (mm_up (mm_up M (w + 1) i (M (w + 1) j)) (w + 1) j (M (w + 1) i)) (w + 1) x = M (w + 1) (if x = j then i else if x = i then j else x) := by
    intro x
    simp only [mm_up, true_and]
    split
    · rfl
    · split <;> rfl
  have e2 : (mm_up (mm_up M (w + 1) i (M (w + 1) j)) (w + 1) j (M (w + 1) i)) w 2 = M w 2 := by rw [mm_up_o _ (by omega), mm_up_o _ (by omega)]
  intro x y hx hy he
  rw [e, e] at he
  rw [e2] at hx hy
  have := h _ _ (by split <;> (try split) <;> omega) (by split <;> (try split) <;> omega) he
  split at this <;> split at this <;> (try split at this) <;> (try split at this) <;> omega
def sp_X2_turnOrder : mm_S := fun av M d Q => match av with
  | [.inr (.inr (.inl w))] =>  isK w ∧ tW M ∧ wV M w ∧ wD M w ∧ ∀ M', fr [w, w + 1] M M' ∧ wV M' w ∧ wD M' w ∧ M' w 2 = M w 2 ∧ revR M M' w → Q (.inl none) M' d
  | _ => False
def ct_X2_turnOrder : List (Nat × mm_Ca) := [(54, (0, 1, 12, sp_X2_lastCorner, 0))]
abbrev rr_X2_turnOrder (Q : mm_Q) := mm_run (mm_look flX2) (mm_look ct_X2_turnOrder) mm_x0 (mm_look ([] : List (Nat × Int))) (fun _ => none) 0 0 (fun _ _ => none) Q kdX2_turnOrder
set_option maxRecDepth 20000 in
theorem lp_X2_turnOrder {M0 : mm_M} {d : List Nat} {Q : mm_Q} {w n : Nat} (hw : isK w) (hn : M0 w 2 = n) (hq : ∀ M', fr [w, w + 1] M0 M' ∧ wV M' w ∧ wD M' w ∧ M' w 2 = M0 w 2 ∧ revR M0 M' w → Q (.inl none) M' d) : ∀ (k : Nat) (i j : Int) (M : mm_M) (x3 : Option mm_V), j - i < k → (0 ≤ i ∧ i ≤ 31 ∧ j < M w 2 ∧ -2 ≤ j) → fr [w, w + 1] M0 M → wV M w → wD M w → M w 2 = M0 w 2 → i + j = (n : Int) - 1 → M w 3 = cor M0 w (M0 w 2) → (∀ x : Nat, x < n → ((x < i ∨ j < x) → M (w + 1) x = M0 (w + 1) (n - 1 - x)) ∧ (i ≤ x → x ≤ j → M (w + 1) x = M0 (w + 1) x)) → rr_X2_turnOrder Q 17 [some (mm_R w), some (mm_I i), some (mm_I j), x3] [] M d 0 := by
  have hz := wk_no hw
  intro k
  induction k with
  | zero =>
    intro i j M x3 hi hj hf h1 hD hc hij hb hI
    have v1 := h1.1
    have hR : revR M0 M w := ⟨hc, hb, fun x hx => by
      rw [hn] at hx
      have h9 := hI x (by omega)
      rw [hn, show ((n : Int)).toNat = n by omega]
      by_cases e : (x : Int) < i ∨ j < x
      · exact h9.1 e
      · rw [h9.2 (by omega) (by omega)]
        congr 1
        omega⟩
    refine mm_run_at (stop := [17]) (S := rr_X2_turnOrder Q) kkX2_turnOrder 60 ?_ (fun _ _ _ _ _ _ _ h => h)
    simp only [mm_wp, mm_op, mm_nxt, mm_jmp, mm_at, mm_in, mm_nth, mm_set, mm_ok, mm_isL, mm_ret, mm_isRet, mm_bool, mm_call, mm_push, mm_rv, mm_cats, mm_cat, mm_look, mm_ft, mm_fv, mm_pf, mm_thr, mm_ent, mm_pad, mm_fl, beq_self_eq_true, cond_true, cond_false, Nat.reduceBEq, Nat.reduceEqDiff, List.drop_succ_cons, List.drop_zero, List.take_succ_cons, List.take_zero, List.reverse_cons, List.reverse_nil, List.nil_append, List.cons_append, List.length_cons, List.length_nil, Nat.reduceAdd, Nat.reduceSub, Nat.reduceLeDiff, Bool.not_false, Bool.and_true, Bool.true_and, Nat.zero_add, true_and, and_true, Nat.le_refl, true_or, or_true, reduceCtorEq, Nat.add_zero, Nat.reduceLT, Bool.and_self, Bool.not_true, Fin.isValue, Nat.reduceLeDiff, List.take_nil, List.drop_nil, mm_i1, mm_i2, mm_i3, mm_i4, mm_i5, mm_i6, mm_i7, mm_i16, mm_i17, mm_i18, mm_i19, mm_i20, mm_i21, mm_i22, mm_i23, mm_l3, mm_l4, mm_l5, mm_l6, mm_l7, mm_l18, mm_l19, mm_l20, mm_l21, mm_l22, kdX2_turnOrder, ct_X2_turnOrder, flX2, sp_X2_lastCorner, wk_is hw, wk_iw hw, wk_ln hw]
    exact ⟨⟨by omega, by omega⟩, ⟨by omega, by omega⟩, fun _ => hq M ⟨hf, h1, hD, hc, hR⟩, fun h => by omega⟩
  | succ k ih =>
    intro i j M x3 hi hj hf h1 hD hc hij hb hI
    have v1 := h1.1
    have hR : j ≤ i → revR M0 M w := fun hle => ⟨hc, hb, fun x hx => by
      rw [hn] at hx
      have h9 := hI x (by omega)
      rw [hn, show ((n : Int)).toNat = n by omega]
      by_cases e : (x : Int) < i ∨ j < x
      · exact h9.1 e
      · rw [h9.2 (by omega) (by omega)]
        congr 1
        omega⟩
    refine mm_run_at (stop := [17]) (S := rr_X2_turnOrder Q) kkX2_turnOrder 60 ?_ (fun _ _ _ _ _ _ _ h => h)
    simp only [mm_wp, mm_op, mm_nxt, mm_jmp, mm_at, mm_in, mm_nth, mm_set, mm_ok, mm_isL, mm_ret, mm_isRet, mm_bool, mm_call, mm_push, mm_rv, mm_cats, mm_cat, mm_look, mm_ft, mm_fv, mm_pf, mm_thr, mm_ent, mm_pad, mm_fl, beq_self_eq_true, cond_true, cond_false, Nat.reduceBEq, Nat.reduceEqDiff, List.drop_succ_cons, List.drop_zero, List.take_succ_cons, List.take_zero, List.reverse_cons, List.reverse_nil, List.nil_append, List.cons_append, List.length_cons, List.length_nil, Nat.reduceAdd, Nat.reduceSub, Nat.reduceLeDiff, Bool.not_false, Bool.and_true, Bool.true_and, Nat.zero_add, true_and, and_true, Nat.le_refl, true_or, or_true, reduceCtorEq, Nat.add_zero, Nat.reduceLT, Bool.and_self, Bool.not_true, Fin.isValue, Nat.reduceLeDiff, List.take_nil, List.drop_nil, mm_i1, mm_i2, mm_i3, mm_i4, mm_i5, mm_i6, mm_i7, mm_i16, mm_i17, mm_i18, mm_i19, mm_i20, mm_i21, mm_i22, mm_i23, mm_l3, mm_l4, mm_l5, mm_l6, mm_l7, mm_l18, mm_l19, mm_l20, mm_l21, mm_l22, kdX2_turnOrder, ct_X2_turnOrder, flX2, sp_X2_lastCorner, wk_is hw, wk_iw hw, wk_ln hw]
    refine ⟨⟨by omega, by omega⟩, ⟨by omega, by omega⟩, fun h => hq M ⟨hf, h1, hD, hc, hR (by omega)⟩, fun h => ⟨by omega, by omega, by omega, by omega, ?_⟩⟩
    have s1 : stO M (M (w + 1) j.toNat) := h1.2.2 _ (by omega)
    have s2 : stO M (M (w + 1) i.toNat) := h1.2.2 _ (by omega)
    have w1 := h1.st (k := i.toNat) s1 hw
    have s3 : stO (mm_up M (w + 1) i.toNat (M (w + 1) j.toNat)) (M (w + 1) i.toNat) := by unfold stO; rw [mm_up_o _ (by omega)]; exact s2
    have w2 := w1.st (k := j.toNat) s3 hw
    have e : mm_up (mm_up M (w + 1) i.toNat (M (w + 1) j.toNat)) (w + 1) j.toNat (M (w + 1) i.toNat) w 2 = M w 2 := by rw [mm_up_o _ (by omega), mm_up_o _ (by omega)]
    refine ih (i + 1) (j - 1) _ _ (by omega) ⟨by omega, by omega, by rw [e]; omega, by omega⟩ ((hf.up (by simp)).up (by simp)) w2 (swp_wD hD (by omega) (by omega) hw) (by rw [e]; exact hc) (by omega) (by rw [mm_up_o _ (by omega), mm_up_o _ (by omega)]; exact hb) (fun x hx => ?_)
    have h9 := hI x hx
    have hi9 := hI i.toNat (by omega)
    have hj9 := hI j.toNat (by omega)
    simp only [mm_up, true_and]
    refine ⟨fun g => ?_, fun g1 g2 => ?_⟩
    · by_cases ej : x = j.toNat
      · rw [if_pos ej, hi9.2 (by omega) (by omega)]
        congr 1
        omega
      · rw [if_neg ej]
        by_cases ei : x = i.toNat
        · rw [if_pos ei, hj9.2 (by omega) (by omega)]
          congr 1
          omega
        · rw [if_neg ei]
          exact h9.1 (by omega)
    · rw [if_neg (by omega), if_neg (by omega)]
      exact h9.2 (by omega) (by omega)
set_option maxRecDepth 20000 in
theorem rn_X2_turnOrder : mm_RN flX2 ct_X2_turnOrder mm_x0 [] 0 0 4 kdX2_turnOrder sp_X2_turnOrder := by
  intro av M d Q h
  unfold sp_X2_turnOrder at h
  split at h
  · rename_i w
    obtain ⟨hw, ht, hv, hD, hq⟩ := h
    have hz := wk_no hw
    have v1 := hv.1
    obtain ⟨n, hn⟩ := Int.eq_ofNat_of_zero_le v1.1
    refine ⟨Nat.le_of_ble_eq_true rfl, mm_run_at (stop := [17]) (S := rr_X2_turnOrder Q) kkX2_turnOrder 80 ?_ (fun _ _ _ _ _ _ _ h => h)⟩
    simp only [mm_wp, mm_op, mm_nxt, mm_jmp, mm_at, mm_in, mm_nth, mm_set, mm_ok, mm_isL, mm_ret, mm_isRet, mm_bool, mm_call, mm_push, mm_rv, mm_cats, mm_cat, mm_look, mm_ft, mm_fv, mm_pf, mm_thr, mm_ent, mm_pad, mm_fl, beq_self_eq_true, cond_true, cond_false, Nat.reduceBEq, Nat.reduceEqDiff, List.drop_succ_cons, List.drop_zero, List.take_succ_cons, List.take_zero, List.reverse_cons, List.reverse_nil, List.nil_append, List.cons_append, List.length_cons, List.length_nil, Nat.reduceAdd, Nat.reduceSub, Nat.reduceLeDiff, Bool.not_false, Bool.and_true, Bool.true_and, Nat.zero_add, true_and, and_true, Nat.le_refl, true_or, or_true, reduceCtorEq, Nat.add_zero, Nat.reduceLT, Bool.and_self, Bool.not_true, Fin.isValue, Nat.reduceLeDiff, List.take_nil, List.drop_nil, mm_i1, mm_i2, mm_i3, mm_i4, mm_i5, mm_i6, mm_i7, mm_i16, mm_i17, mm_i18, mm_i19, mm_i20, mm_i21, mm_i22, mm_i23, mm_l3, mm_l4, mm_l5, mm_l6, mm_l7, mm_l18, mm_l19, mm_l20, mm_l21, mm_l22, kdX2_turnOrder, ct_X2_turnOrder, flX2, sp_X2_lastCorner, wk_is hw]
    refine ⟨hw, ht, hv, fun r hr => ?_⟩
    have e : mm_up M w 3 r w 2 = M w 2 := by simp [mm_up]
    rw [e]
    exact lp_X2_turnOrder hw hn hq 32 0 _ _ none (by omega) ⟨by omega, by omega, by rw [e]; omega, by omega⟩ (fr.rf.up (by simp)) (hv.b hr.2 hw) (hD.to2 e (by rw [mm_up_o _ (by omega)])) e (by omega) (by simp [mm_up]; exact hr.1) (fun x hx => ⟨fun g => by omega, fun _ _ => by rw [mm_up_o _ (by omega)]⟩)
  · exact h.elim
theorem me_X2_turnOrder {l : Launch} (hl : l.stackTraces = false) : mm_Met l yX2_turnOrder cX2_turnOrder 4 none [] 10 184 0 sp_X2_turnOrder := mm_mt hl rn_X2_turnOrder ⟨plX2, rfl⟩ kkX2_turnOrder rfl ⟨Nat.le_of_ble_eq_true rfl, Nat.le_of_ble_eq_true rfl⟩ flkX2 (fun _ h => nomatch h) (⟨mm_pe (me_X2_lastCorner hl) mwX2_lastCorner (mm_t1 187 rfl rfl) (Nat.le_of_ble_eq_true rfl) (Nat.le_of_ble_eq_true rfl), trivial⟩) (mm_xe0 _) n9X2
theorem wD.sa {M M' : mm_M} {w : Nat} (h : wD M w) (h1 : M' w 2 = M w 2) (h2 : ∀ j : Nat, j < M w 2 → M' (w + 1) j / 2 = M (w + 1) j / 2) : wD M' w := by
  intro x y hx hy e
  rw [h1] at hx hy
  rw [h2 x hx, h2 y hy] at e
  exact h x y hx hy e
theorem inI_y {P : Prop} {r : Int} (h : (P → r = 1) ∧ (¬ P → r = 0)) (hr : r ≠ 0) : P := Classical.byContradiction fun h2 => hr (h.2 h2)
theorem inI_n {P : Prop} {r : Int} (h : (P → r = 1) ∧ (¬ P → r = 0)) (hr : r = 0) : ¬ P := fun h2 => by have := h.1 h2; omega
def sp_X2_turnSteps : mm_S := fun av M d Q => match av with
  | [.inr (.inr (.inl w))] =>  isK w ∧ tW M ∧ wV M w ∧ wD M w ∧ ∀ M', fr [w, w + 1] M M' ∧ wV M' w ∧ wD M' w ∧ M' w 2 = M w 2 ∧ tsR M M' w → Q (.inl none) M' d
  | _ => False
def ct_X2_turnSteps : List (Nat × mm_Ca) := [(96, (0, 2, 11, sp_X1_isLoop, 0))]
abbrev rr_X2_turnSteps (Q : mm_Q) := mm_run (mm_look flX2) (mm_look ct_X2_turnSteps) mm_x0 (mm_look ([] : List (Nat × Int))) (fun _ => none) 0 0 (fun _ _ => none) Q kdX2_turnSteps
set_option maxRecDepth 20000 in
theorem lp_X2_turnSteps {M0 : mm_M} {d : List Nat} {Q : mm_Q} {w : Nat} (hw : isK w) (ht0 : tW M0) (hq : ∀ M', fr [w, w + 1] M0 M' ∧ wV M' w ∧ wD M' w ∧ M' w 2 = M0 w 2 ∧ tsR M0 M' w → Q (.inl none) M' d) : ∀ (k i : Nat) (M : mm_M), M w 2 = i + k → fr [w, w + 1] M0 M → wV M w → wD M w → M w 2 = M0 w 2 → M w 3 = M0 w 3 → (∀ x : Nat, x < i → M (w + 1) x = flp M0 (M0 (w + 1) x)) → (∀ x : Nat, i ≤ x → M (w + 1) x = M0 (w + 1) x) → rr_X2_turnSteps Q 2 [some (mm_R w), some (mm_I i)] [] M d 0 := by
  have hz := wk_no hw
  intro k
  induction k with
  | zero =>
    intro i M hi hf h1 hD hc hb hI hJ
    have v1 := h1.1
    refine mm_run_at (stop := [2]) (S := rr_X2_turnSteps Q) kkX2_turnSteps 60 ?_ (fun _ _ _ _ _ _ _ h => h)
    simp only [mm_wp, mm_op, mm_nxt, mm_jmp, mm_at, mm_in, mm_nth, mm_set, mm_ok, mm_isL, mm_ret, mm_isRet, mm_bool, mm_call, mm_push, mm_rv, mm_cats, mm_cat, mm_look, mm_ft, mm_fv, mm_pf, mm_thr, mm_ent, mm_pad, mm_fl, beq_self_eq_true, cond_true, cond_false, Nat.reduceBEq, Nat.reduceEqDiff, List.drop_succ_cons, List.drop_zero, List.take_succ_cons, List.take_zero, List.reverse_cons, List.reverse_nil, List.nil_append, List.cons_append, List.length_cons, List.length_nil, Nat.reduceAdd, Nat.reduceSub, Nat.reduceLeDiff, Bool.not_false, Bool.and_true, Bool.true_and, Nat.zero_add, true_and, and_true, Nat.le_refl, true_or, or_true, reduceCtorEq, Nat.add_zero, Nat.reduceLT, Bool.and_self, Bool.not_true, Fin.isValue, Nat.reduceLeDiff, List.take_nil, List.drop_nil, mm_i1, mm_i2, mm_i3, mm_i4, mm_i5, mm_i6, mm_i7, mm_i16, mm_i17, mm_i18, mm_i19, mm_i20, mm_i21, mm_i22, mm_i23, mm_l3, mm_l4, mm_l5, mm_l6, mm_l7, mm_l18, mm_l19, mm_l20, mm_l21, mm_l22, kdX2_turnSteps, ct_X2_turnSteps, flX2, sp_X1_isLoop, wk_is hw, wk_iw hw, wk_ln hw]
    exact ⟨⟨by omega, by omega⟩, ⟨by omega, by omega⟩, fun _ => hq M ⟨hf, h1, hD, hc, hc, hb, fun x hx => hI x (by omega)⟩, fun h => by omega⟩
  | succ k ih =>
    intro i M hi hf h1 hD hc hb hI hJ
    have ht := tWk ht0 hf hw
    have t1 := ht.1
    have v1 := h1.1
    have s1 := h1.2.2 i (by omega)
    refine mm_run_at (stop := [2]) (S := rr_X2_turnSteps Q) kkX2_turnSteps 60 ?_ (fun _ _ _ _ _ _ _ h => h)
    simp only [mm_wp, mm_op, mm_nxt, mm_jmp, mm_at, mm_in, mm_nth, mm_set, mm_ok, mm_isL, mm_ret, mm_isRet, mm_bool, mm_call, mm_push, mm_rv, mm_cats, mm_cat, mm_look, mm_ft, mm_fv, mm_pf, mm_thr, mm_ent, mm_pad, mm_fl, beq_self_eq_true, cond_true, cond_false, Nat.reduceBEq, Nat.reduceEqDiff, List.drop_succ_cons, List.drop_zero, List.take_succ_cons, List.take_zero, List.reverse_cons, List.reverse_nil, List.nil_append, List.cons_append, List.length_cons, List.length_nil, Nat.reduceAdd, Nat.reduceSub, Nat.reduceLeDiff, Bool.not_false, Bool.and_true, Bool.true_and, Nat.zero_add, true_and, and_true, Nat.le_refl, true_or, or_true, reduceCtorEq, Nat.add_zero, Nat.reduceLT, Bool.and_self, Bool.not_true, Fin.isValue, Nat.reduceLeDiff, List.take_nil, List.drop_nil, mm_i1, mm_i2, mm_i3, mm_i4, mm_i5, mm_i6, mm_i7, mm_i16, mm_i17, mm_i18, mm_i19, mm_i20, mm_i21, mm_i22, mm_i23, mm_l3, mm_l4, mm_l5, mm_l6, mm_l7, mm_l18, mm_l19, mm_l20, mm_l21, mm_l22, kdX2_turnSteps, ct_X2_turnSteps, flX2, sp_X1_isLoop, wk_is hw, wk_iw hw, wk_ln hw, tp1]
    simp only [Int.toNat_natCast, mm_xor1 (show 0 ≤ M (w + 1) i ∧ M (w + 1) i < 2147483647 by omega)]
    refine ⟨⟨by omega, by omega⟩, ⟨by omega, by omega⟩, fun h => by omega, fun h => ⟨by omega, ⟨by omega, by omega⟩, by omega, ht, by omega, fun r hr => ⟨inI2 (P := M 3 (M (w + 1) i / 2).toNat = M 4 (M (w + 1) i / 2).toNat) hr, fun h3 => ?_, fun h3 => ?_⟩⟩⟩
    · refine ih (i + 1) M (by omega) hf h1 hD hc hb (fun x hx => ?_) (fun x hx => hJ x (by omega))
      by_cases ex : x = i
      · subst ex
        have e3 := inI_y hr h3
        rw [(hf.k hw).2.1, (hf.k hw).2.2, hJ x (by omega)] at e3
        rw [hJ x (by omega)]
        unfold flp
        rw [if_pos e3]
      · exact hI x (by omega)
    · have e : mm_up M (w + 1) i (if M (w + 1) i % 2 = 0 then M (w + 1) i + 1 else M (w + 1) i - 1) w 2 = M w 2 := by rw [mm_up_o _ (by omega)]
      refine ⟨by omega, by omega, ih (i + 1) _ (by rw [e]; omega) (hf.up (by simp)) (h1.st ?_ hw) (hD.sa e (fun j hj => ?_)) (by rw [e]; exact hc) (by rw [mm_up_o _ (by omega)]; exact hb) (fun x hx => ?_) (fun x hx => ?_)⟩
      · unfold stO
        split <;> omega
      · simp only [mm_up, true_and]
        by_cases ej : j = i
        · subst ej
          rw [if_pos rfl]
          split <;> omega
        · rw [if_neg ej]
      · simp only [mm_up, true_and]
        by_cases ex : x = i
        · subst ex
          have e3 := inI_n hr h3
          rw [(hf.k hw).2.1, (hf.k hw).2.2] at e3
          rw [if_pos rfl]
          rw [hJ x (by omega)] at e3 ⊢
          unfold flp
          rw [if_neg e3]
        · rw [if_neg ex]
          exact hI x (by omega)
      · simp only [mm_up, true_and]
        rw [if_neg (by omega)]
        exact hJ x (by omega)
set_option maxRecDepth 20000 in
theorem rn_X2_turnSteps : mm_RN flX2 ct_X2_turnSteps mm_x0 [] 0 0 2 kdX2_turnSteps sp_X2_turnSteps := by
  intro av M d Q h
  unfold sp_X2_turnSteps at h
  split at h
  · rename_i w
    obtain ⟨hw, ht, hv, hD, hq⟩ := h
    have v1 := hv.1
    obtain ⟨n, hn⟩ := Int.eq_ofNat_of_zero_le v1.1
    refine ⟨Nat.le_of_ble_eq_true rfl, mm_run_at (stop := [2]) (S := rr_X2_turnSteps Q) kkX2_turnSteps 80 ?_ (fun _ _ _ _ _ _ _ h => h)⟩
    simp only [mm_wp, mm_op, mm_nxt, mm_jmp, mm_at, mm_in, mm_nth, mm_set, mm_ok, mm_isL, mm_ret, mm_isRet, mm_bool, mm_call, mm_push, mm_rv, mm_cats, mm_cat, mm_look, mm_ft, mm_fv, mm_pf, mm_thr, mm_ent, mm_pad, mm_fl, beq_self_eq_true, cond_true, cond_false, Nat.reduceBEq, Nat.reduceEqDiff, List.drop_succ_cons, List.drop_zero, List.take_succ_cons, List.take_zero, List.reverse_cons, List.reverse_nil, List.nil_append, List.cons_append, List.length_cons, List.length_nil, Nat.reduceAdd, Nat.reduceSub, Nat.reduceLeDiff, Bool.not_false, Bool.and_true, Bool.true_and, Nat.zero_add, true_and, and_true, Nat.le_refl, true_or, or_true, reduceCtorEq, Nat.add_zero, Nat.reduceLT, Bool.and_self, Bool.not_true, Fin.isValue, Nat.reduceLeDiff, List.take_nil, List.drop_nil, mm_i1, mm_i2, mm_i3, mm_i4, mm_i5, mm_i6, mm_i7, mm_i16, mm_i17, mm_i18, mm_i19, mm_i20, mm_i21, mm_i22, mm_i23, mm_l3, mm_l4, mm_l5, mm_l6, mm_l7, mm_l18, mm_l19, mm_l20, mm_l21, mm_l22, kdX2_turnSteps, ct_X2_turnSteps, flX2, sp_X1_isLoop]
    exact lp_X2_turnSteps hw ht hq n 0 M (by omega) fr.rf hv hD rfl rfl (fun x hx => by omega) (fun _ _ => rfl)
  · exact h.elim
theorem me_X2_turnSteps {l : Launch} (hl : l.stackTraces = false) : mm_Met l yX2_turnSteps cX2_turnSteps 2 none [] 8 142 0 sp_X2_turnSteps := mm_mt hl rn_X2_turnSteps ⟨plX2, rfl⟩ kkX2_turnSteps rfl ⟨Nat.le_of_ble_eq_true rfl, Nat.le_of_ble_eq_true rfl⟩ flkX2 (fun _ h => nomatch h) (⟨mm_pe (me_X1_isLoop hl) mwX1_isLoop (mm_t4 83 rfl rfl) (Nat.le_of_ble_eq_true rfl) (Nat.le_of_ble_eq_true rfl), trivial⟩) (mm_xe0 _) n9X2
def sp_X2_renumberBehind : mm_S := fun av M d Q => match av with
  | [.inr (.inr (.inl w)), .inl s] =>  isK w ∧ tW M ∧ ((0 ≤ M w 2 ∧ M w 2 ≤ 30) ∧ (0 ≤ M w 3 ∧ M w 3 < 10) ∧ ∀ i : Nat, i < M w 2 → 0 ≤ M (w + 1) i ∧ M (w + 1) i < 2 * M 2 4 + 2) ∧ wD M w ∧ wN M w s ∧ (0 ≤ s ∧ s ≤ M 2 4) ∧ ∀ M', fr [w, w + 1] M M' ∧ wV M' w ∧ wD M' w ∧ M' w 2 = M w 2 ∧ renR M M' w s → Q (.inl none) M' d
  | _ => False
def ct_X2_renumberBehind : List (Nat × mm_Ca) := []
abbrev rr_X2_renumberBehind (Q : mm_Q) := mm_run (mm_look flX2) (mm_look ct_X2_renumberBehind) mm_x0 (mm_look ([] : List (Nat × Int))) (fun _ => none) 0 0 (fun _ _ => none) Q kdX2_renumberBehind
set_option maxRecDepth 20000 in
theorem lp_X2_renumberBehind {M0 : mm_M} {d : List Nat} {Q : mm_Q} {w n : Nat} {s : Int} (hw : isK w) (ht0 : tW M0) (hn : M0 w 2 = n) (h30 : n ≤ 30) (hv3 : 0 ≤ M0 w 3 ∧ M0 w 3 < 10) (hr : ∀ i : Nat, i < n → 0 ≤ M0 (w + 1) i ∧ M0 (w + 1) i < 2 * M0 2 4 + 2) (hD : wD M0 w) (hN : wN M0 w s) (hs : 0 ≤ s ∧ s ≤ M0 2 4) (hq : ∀ M', fr [w, w + 1] M0 M' ∧ wV M' w ∧ wD M' w ∧ M' w 2 = M0 w 2 ∧ renR M0 M' w s → Q (.inl none) M' d) : ∀ (k i : Nat) (M : mm_M), i + k = n → fr [w + 1] M0 M → (∀ j : Nat, j < i → M (w + 1) j = if s < M0 (w + 1) j / 2 then M0 (w + 1) j - 2 else M0 (w + 1) j) → (∀ j : Nat, i ≤ j → M (w + 1) j = M0 (w + 1) j) → rr_X2_renumberBehind Q 2 [some (mm_R w), some (mm_I s), some (mm_I i)] [] M d 0 := by
  have hz := wk_no hw
  have t1 := ht0.1
  intro k
  induction k with
  | zero =>
    intro i M hi hf h1 h2
    have e3 : M w = M0 w := hf w (by simp)
    have e4 : M 2 = M0 2 := hf 2 (by simp; omega)
    refine mm_run_at (stop := [2]) (S := rr_X2_renumberBehind Q) kkX2_renumberBehind 60 ?_ (fun _ _ _ _ _ _ _ h => h)
    simp only [mm_wp, mm_op, mm_nxt, mm_jmp, mm_at, mm_in, mm_nth, mm_set, mm_ok, mm_isL, mm_ret, mm_isRet, mm_bool, mm_call, mm_push, mm_rv, mm_cats, mm_cat, mm_look, mm_ft, mm_fv, mm_pf, mm_thr, mm_ent, mm_pad, mm_fl, beq_self_eq_true, cond_true, cond_false, Nat.reduceBEq, Nat.reduceEqDiff, List.drop_succ_cons, List.drop_zero, List.take_succ_cons, List.take_zero, List.reverse_cons, List.reverse_nil, List.nil_append, List.cons_append, List.length_cons, List.length_nil, Nat.reduceAdd, Nat.reduceSub, Nat.reduceLeDiff, Bool.not_false, Bool.and_true, Bool.true_and, Nat.zero_add, true_and, and_true, Nat.le_refl, true_or, or_true, reduceCtorEq, Nat.add_zero, Nat.reduceLT, Bool.and_self, Bool.not_true, Fin.isValue, Nat.reduceLeDiff, List.take_nil, List.drop_nil, mm_i1, mm_i2, mm_i3, mm_i4, mm_i5, mm_i6, mm_i7, mm_i16, mm_i17, mm_i18, mm_i19, mm_i20, mm_i21, mm_i22, mm_i23, mm_l3, mm_l4, mm_l5, mm_l6, mm_l7, mm_l18, mm_l19, mm_l20, mm_l21, mm_l22, kdX2_renumberBehind, ct_X2_renumberBehind, flX2, wk_is hw, wk_iw hw, wk_ln hw]
    rw [e3, hn]
    refine ⟨⟨by omega, by omega⟩, ⟨by omega, by omega⟩, fun _ => hq M ⟨hf.mono (by simp), ⟨by rw [e3]; omega, by rw [e3]; exact hv3, fun j hj => ?_⟩, fun x y hx hy e => ?_, by rw [e3], by rw [e3], by rw [e3], fun x hx => h1 x (by omega)⟩, fun h => by omega⟩
    · rw [e3, hn] at hj
      have a1 := hr j (by omega)
      have a2 := hN j (by omega)
      rw [h1 j (by omega), e4]
      split <;> omega
    · rw [e3, hn] at hx hy
      rw [h1 x (by omega), h1 y (by omega)] at e
      have a1 := hN x (by omega)
      have a2 := hN y (by omega)
      refine hD x y (by omega) (by omega) ?_
      split at e <;> split at e <;> omega
  | succ k ih =>
    intro i M hi hf h1 h2
    have e3 : M w = M0 w := hf w (by simp)
    have a1 := hr i (by omega)
    refine mm_run_at (stop := [2]) (S := rr_X2_renumberBehind Q) kkX2_renumberBehind 60 ?_ (fun _ _ _ _ _ _ _ h => h)
    simp only [mm_wp, mm_op, mm_nxt, mm_jmp, mm_at, mm_in, mm_nth, mm_set, mm_ok, mm_isL, mm_ret, mm_isRet, mm_bool, mm_call, mm_push, mm_rv, mm_cats, mm_cat, mm_look, mm_ft, mm_fv, mm_pf, mm_thr, mm_ent, mm_pad, mm_fl, beq_self_eq_true, cond_true, cond_false, Nat.reduceBEq, Nat.reduceEqDiff, List.drop_succ_cons, List.drop_zero, List.take_succ_cons, List.take_zero, List.reverse_cons, List.reverse_nil, List.nil_append, List.cons_append, List.length_cons, List.length_nil, Nat.reduceAdd, Nat.reduceSub, Nat.reduceLeDiff, Bool.not_false, Bool.and_true, Bool.true_and, Nat.zero_add, true_and, and_true, Nat.le_refl, true_or, or_true, reduceCtorEq, Nat.add_zero, Nat.reduceLT, Bool.and_self, Bool.not_true, Fin.isValue, Nat.reduceLeDiff, List.take_nil, List.drop_nil, mm_i1, mm_i2, mm_i3, mm_i4, mm_i5, mm_i6, mm_i7, mm_i16, mm_i17, mm_i18, mm_i19, mm_i20, mm_i21, mm_i22, mm_i23, mm_l3, mm_l4, mm_l5, mm_l6, mm_l7, mm_l18, mm_l19, mm_l20, mm_l21, mm_l22, kdX2_renumberBehind, ct_X2_renumberBehind, flX2, wk_is hw, wk_iw hw, wk_ln hw, tp1]
    simp only [Int.toNat_natCast]
    rw [e3, hn, h2 i (by omega)]
    refine ⟨⟨by omega, by omega⟩, ⟨by omega, by omega⟩, fun h => by omega, fun h => ⟨by omega, ⟨by omega, by omega⟩, by omega, ⟨by omega, by omega⟩, ⟨by omega, by omega⟩, fun h3 => ?_, fun h3 => ⟨by omega, by omega, ?_⟩⟩⟩
    · refine ih (i + 1) M (by omega) hf (fun j hj => ?_) (fun j hj => h2 j (by omega))
      by_cases ej : j = i
      · subst ej
        rw [h2 j (by omega), if_neg (by omega)]
      · exact h1 j (by omega)
    · refine ih (i + 1) _ (by omega) (hf.up (by simp)) (fun j hj => ?_) (fun j hj => ?_)
      · simp only [mm_up, true_and]
        by_cases ej : j = i
        · subst ej
          rw [if_pos rfl, if_pos (by omega)]
        · rw [if_neg ej]
          exact h1 j (by omega)
      · simp only [mm_up, true_and]
        rw [if_neg (by omega)]
        exact h2 j (by omega)
set_option maxRecDepth 20000 in
theorem rn_X2_renumberBehind : mm_RN flX2 ct_X2_renumberBehind mm_x0 [] 0 0 3 kdX2_renumberBehind sp_X2_renumberBehind := by
  intro av M d Q h
  unfold sp_X2_renumberBehind at h
  split at h
  · rename_i w s
    obtain ⟨hw, ht, ⟨v1, v2, v3⟩, hD, hN, hs, hq⟩ := h
    obtain ⟨n, hn⟩ := Int.eq_ofNat_of_zero_le v1.1
    refine ⟨Nat.le_of_ble_eq_true rfl, mm_run_at (stop := [2]) (S := rr_X2_renumberBehind Q) kkX2_renumberBehind 80 ?_ (fun _ _ _ _ _ _ _ h => h)⟩
    simp only [mm_wp, mm_op, mm_nxt, mm_jmp, mm_at, mm_in, mm_nth, mm_set, mm_ok, mm_isL, mm_ret, mm_isRet, mm_bool, mm_call, mm_push, mm_rv, mm_cats, mm_cat, mm_look, mm_ft, mm_fv, mm_pf, mm_thr, mm_ent, mm_pad, mm_fl, beq_self_eq_true, cond_true, cond_false, Nat.reduceBEq, Nat.reduceEqDiff, List.drop_succ_cons, List.drop_zero, List.take_succ_cons, List.take_zero, List.reverse_cons, List.reverse_nil, List.nil_append, List.cons_append, List.length_cons, List.length_nil, Nat.reduceAdd, Nat.reduceSub, Nat.reduceLeDiff, Bool.not_false, Bool.and_true, Bool.true_and, Nat.zero_add, true_and, and_true, Nat.le_refl, true_or, or_true, reduceCtorEq, Nat.add_zero, Nat.reduceLT, Bool.and_self, Bool.not_true, Fin.isValue, Nat.reduceLeDiff, List.take_nil, List.drop_nil, mm_i1, mm_i2, mm_i3, mm_i4, mm_i5, mm_i6, mm_i7, mm_i16, mm_i17, mm_i18, mm_i19, mm_i20, mm_i21, mm_i22, mm_i23, mm_l3, mm_l4, mm_l5, mm_l6, mm_l7, mm_l18, mm_l19, mm_l20, mm_l21, mm_l22, kdX2_renumberBehind, ct_X2_renumberBehind, flX2]
    exact lp_X2_renumberBehind hw ht hn (by omega) v2 (fun i hi => v3 i (by omega)) hD hN hs hq n 0 M (by omega) fr.rf (fun j hj => by omega) (fun _ _ => rfl)
  · exact h.elim
theorem me_X2_renumberBehind {l : Launch} (hl : l.stackTraces = false) : mm_Met l yX2_renumberBehind cX2_renumberBehind 3 none [] 6 100 0 sp_X2_renumberBehind := mm_mt hl rn_X2_renumberBehind ⟨plX2, rfl⟩ kkX2_renumberBehind rfl ⟨Nat.le_of_ble_eq_true rfl, Nat.le_of_ble_eq_true rfl⟩ flkX2 (fun _ h => nomatch h) (trivial) (mm_xe0 _) n9X2

