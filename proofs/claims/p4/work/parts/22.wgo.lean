/-! the class's walks: going on -/
theorem wk_mm {w : Nat} (h : isK w) (d : List Nat) : w ∈ mm_ids d := (wk_is h (fun _ _ => 0) d).2
/-- the streets that a walk has left after i steps -/
def nwk (M : mm_M) (w : Nat) : Nat → Int
  | 0 => 2 ^ (M 2 4).toNat - 1
  | i + 1 => clr (nwk M w i) (M (w + 1) i / 2).toNat
theorem nwk_b {M : mm_M} {w : Nat} (ht : tW M) (hv : wV M w) : ∀ i : Nat, i ≤ M w 2 → 0 ≤ nwk M w i ∧ nwk M w i < 1073741824
  | 0, _ => by
    have h1 := ht.1
    have h2 := pw_le (k := (M 2 4).toNat) (n := 30) (by omega)
    have h3 := pw_lt (k := (M 2 4).toNat) (by omega)
    simp only [nwk]
    omega
  | i + 1, h => by
    have h1 := ht.1
    have h2 := hv.2.2 i (by omega)
    exact (clr_spec (nwk_b ht hv i (by omega)) (by omega)).1
theorem nwk_bt {M : mm_M} {w : Nat} (ht : tW M) (hv : wV M w) {k : Nat} (hk : k < 32) : ∀ i : Nat, i ≤ M w 2 → (bt (nwk M w i) k = 1 ↔ (k < M 2 4 ∧ ∀ j : Nat, j < i → M (w + 1) j / 2 ≠ k))
  | 0, _ => by
    have h1 := ht.1
    have h2 := bt_all (M 2 4).toNat k
    simp only [nwk]
    rw [h2]
    split
    · exact ⟨fun _ => ⟨by omega, fun j hj => by omega⟩, fun _ => rfl⟩
    · exact ⟨fun h => by omega, fun h => by omega⟩
  | i + 1, h => by
    have h1 := ht.1
    have h2 := hv.2.2 i (by omega)
    have h3 := (clr_spec (nwk_b ht hv i (by omega)) (s := (M (w + 1) i / 2).toNat) (by omega)).2 k hk
    have h4 := nwk_bt ht hv hk i (by omega)
    simp only [nwk]
    rw [h3]
    split
    · refine ⟨fun h => by omega, fun h => absurd ?_ (h.2 i (by omega))⟩
      omega
    · rw [h4]
      refine ⟨fun h => ⟨h.1, fun j hj => ?_⟩, fun h => ⟨h.1, fun j hj => h.2 j (by omega)⟩⟩
      by_cases e : j = i
      · subst e
        omega
      · exact h.2 j (by omega)
/-- a set of streets that aren't on the walk -/
def lft (M : mm_M) (w : Nat) (S : Int) : Prop := ∀ k : Nat, k < 32 → bt S k = 1 → wN M w k
theorem nwk_lft {M : mm_M} {w : Nat} (ht : tW M) (hv : wV M w) : lft M w (nwk M w (M w 2).toNat) := fun k hk hb i hi => ((nwk_bt ht hv hk (M w 2).toNat (by have := hv.1; omega)).mp hb).2 i (by omega)
theorem lft_r {M : mm_M} {w : Nat} {S r : Int} (h : lft M w S) (hr : 0 ≤ r ∧ r < 64) (hb : bt S (r / 2).toNat = 1) : wN M w (r / 2) := by
  have := h (r / 2).toNat (by omega) hb
  rw [show (((r / 2).toNat : Nat) : Int) = r / 2 by omega] at this
  exact this
def sp_X2_notWalked : mm_S := fun av M d Q => match av with
  | [.inr (.inr (.inl w))] =>  isK w ∧ tW M ∧ wV M w ∧ ∀ r, r = nwk M w (M w 2).toNat ∧ 0 ≤ r ∧ r < 1073741824 → Q (.inl (some (mm_I r))) M d
  | _ => False
def ct_X2_notWalked : List (Nat × mm_Ca) := [(87, (0, 1, 11, sp_X1_allStreets, 0))]
abbrev rr_X2_notWalked (Q : mm_Q) := mm_run (mm_look flX2) (mm_look ct_X2_notWalked) mm_x0 (mm_look ([] : List (Nat × Int))) (fun _ => none) 1 0 (fun _ _ => none) Q kdX2_notWalked
set_option maxRecDepth 20000 in
theorem lp_X2_notWalked {M : mm_M} {d : List Nat} {Q : mm_Q} {w n : Nat} (hw : isK w) (ht : tW M) (hv : wV M w) (hn : M w 2 = n) (hq : ∀ r, r = nwk M w n ∧ 0 ≤ r ∧ r < 1073741824 → Q (.inl (some (mm_I r))) M d) : ∀ (k i : Nat), i + k = n → rr_X2_notWalked Q 10 [some (mm_R w), some (mm_I (nwk M w i)), some (mm_I i)] [] M d 0 := by
  obtain ⟨v1, v2, v3⟩ := id hv
  have h1 := ht.1
  intro k
  induction k with
  | zero =>
    intro i hi
    have hb := nwk_b ht hv i (by omega)
    refine mm_run_at (stop := [10]) (S := rr_X2_notWalked Q) kkX2_notWalked 60 ?_ (fun _ _ _ _ _ _ _ h => h)
    simp only [mm_wp, mm_op, mm_nxt, mm_jmp, mm_at, mm_in, mm_nth, mm_set, mm_ok, mm_isL, mm_ret, mm_isRet, mm_bool, mm_call, mm_push, mm_rv, mm_cats, mm_cat, mm_look, mm_ft, mm_fv, mm_pf, mm_thr, mm_ent, mm_pad, mm_fl, beq_self_eq_true, cond_true, cond_false, Nat.reduceBEq, Nat.reduceEqDiff, List.drop_succ_cons, List.drop_zero, List.take_succ_cons, List.take_zero, List.reverse_cons, List.reverse_nil, List.nil_append, List.cons_append, List.length_cons, List.length_nil, Nat.reduceAdd, Nat.reduceSub, Nat.reduceLeDiff, Bool.not_false, Bool.and_true, Bool.true_and, Nat.zero_add, true_and, and_true, Nat.le_refl, true_or, or_true, reduceCtorEq, Nat.add_zero, Nat.reduceLT, Bool.and_self, Bool.not_true, Fin.isValue, Nat.reduceLeDiff, List.take_nil, List.drop_nil, mm_i1, mm_i2, mm_i3, mm_i4, mm_i5, mm_i6, mm_i7, mm_i16, mm_i17, mm_i18, mm_i19, mm_i20, mm_i21, mm_i22, mm_i23, mm_l3, mm_l4, mm_l5, mm_l6, mm_l7, mm_l18, mm_l19, mm_l20, mm_l21, mm_l22, kdX2_notWalked, ct_X2_notWalked, flX2, sp_X1_allStreets, wk_is hw, wk_iw hw, wk_ln hw]
    have e : i = n := by omega
    subst e
    exact ⟨⟨by omega, by omega⟩, ⟨by omega, by omega⟩, fun _ => hq _ ⟨rfl, hb⟩, fun h => by omega⟩
  | succ k ih =>
    intro i hi
    have v4 := v3 i (by omega)
    refine mm_run_at (stop := [10]) (S := rr_X2_notWalked Q) kkX2_notWalked 60 ?_ (fun _ _ _ _ _ _ _ h => h)
    simp only [mm_wp, mm_op, mm_nxt, mm_jmp, mm_at, mm_in, mm_nth, mm_set, mm_ok, mm_isL, mm_ret, mm_isRet, mm_bool, mm_call, mm_push, mm_rv, mm_cats, mm_cat, mm_look, mm_ft, mm_fv, mm_pf, mm_thr, mm_ent, mm_pad, mm_fl, beq_self_eq_true, cond_true, cond_false, Nat.reduceBEq, Nat.reduceEqDiff, List.drop_succ_cons, List.drop_zero, List.take_succ_cons, List.take_zero, List.reverse_cons, List.reverse_nil, List.nil_append, List.cons_append, List.length_cons, List.length_nil, Nat.reduceAdd, Nat.reduceSub, Nat.reduceLeDiff, Bool.not_false, Bool.and_true, Bool.true_and, Nat.zero_add, true_and, and_true, Nat.le_refl, true_or, or_true, reduceCtorEq, Nat.add_zero, Nat.reduceLT, Bool.and_self, Bool.not_true, Fin.isValue, Nat.reduceLeDiff, List.take_nil, List.drop_nil, mm_i1, mm_i2, mm_i3, mm_i4, mm_i5, mm_i6, mm_i7, mm_i16, mm_i17, mm_i18, mm_i19, mm_i20, mm_i21, mm_i22, mm_i23, mm_l3, mm_l4, mm_l5, mm_l6, mm_l7, mm_l18, mm_l19, mm_l20, mm_l21, mm_l22, kdX2_notWalked, ct_X2_notWalked, flX2, sp_X1_allStreets, wk_is hw, wk_iw hw, wk_ln hw, tp1]
    simp only [Int.toNat_natCast]
    refine ⟨⟨by omega, by omega⟩, ⟨by omega, by omega⟩, fun h => by omega, fun _ => ⟨by omega, ⟨by omega, by omega⟩, by omega, by omega, ?_⟩⟩
    exact ih (i + 1) (by omega)
set_option maxRecDepth 20000 in
theorem rn_X2_notWalked : mm_RN flX2 ct_X2_notWalked mm_x0 [] 1 0 3 kdX2_notWalked sp_X2_notWalked := by
  intro av M d Q h
  unfold sp_X2_notWalked at h
  split at h
  · rename_i w
    obtain ⟨hw, ht, hv, hq⟩ := h
    have v1 := hv.1
    obtain ⟨n, hn⟩ := Int.eq_ofNat_of_zero_le v1.1
    refine ⟨Nat.le_of_ble_eq_true rfl, mm_run_at (stop := [10]) (S := rr_X2_notWalked Q) kkX2_notWalked 80 ?_ (fun _ _ _ _ _ _ _ h => h)⟩
    simp only [mm_wp, mm_op, mm_nxt, mm_jmp, mm_at, mm_in, mm_nth, mm_set, mm_ok, mm_isL, mm_ret, mm_isRet, mm_bool, mm_call, mm_push, mm_rv, mm_cats, mm_cat, mm_look, mm_ft, mm_fv, mm_pf, mm_thr, mm_ent, mm_pad, mm_fl, beq_self_eq_true, cond_true, cond_false, Nat.reduceBEq, Nat.reduceEqDiff, List.drop_succ_cons, List.drop_zero, List.take_succ_cons, List.take_zero, List.reverse_cons, List.reverse_nil, List.nil_append, List.cons_append, List.length_cons, List.length_nil, Nat.reduceAdd, Nat.reduceSub, Nat.reduceLeDiff, Bool.not_false, Bool.and_true, Bool.true_and, Nat.zero_add, true_and, and_true, Nat.le_refl, true_or, or_true, reduceCtorEq, Nat.add_zero, Nat.reduceLT, Bool.and_self, Bool.not_true, Fin.isValue, Nat.reduceLeDiff, List.take_nil, List.drop_nil, mm_i1, mm_i2, mm_i3, mm_i4, mm_i5, mm_i6, mm_i7, mm_i16, mm_i17, mm_i18, mm_i19, mm_i20, mm_i21, mm_i22, mm_i23, mm_l3, mm_l4, mm_l5, mm_l6, mm_l7, mm_l18, mm_l19, mm_l20, mm_l21, mm_l22, kdX2_notWalked, ct_X2_notWalked, flX2, sp_X1_allStreets, wk_is hw]
    refine ⟨ht, fun r hr => ?_⟩
    have h3 := lp_X2_notWalked (Q := Q) (d := d) hw ht hv hn (fun r h => hq r (by rw [hn]; exact h)) n 0 (by omega)
    rw [hr.1]
    exact h3
  · exact h.elim
theorem me_X2_notWalked {l : Launch} (hl : l.stackTraces = false) : mm_Met l yX2_notWalked cX2_notWalked 3 (some .int) [] 7 120 0 sp_X2_notWalked := mm_mt hl rn_X2_notWalked ⟨by decide, rfl⟩ kkX2_notWalked rfl ⟨by decide, by decide⟩ flkX2 (fun _ h => nomatch h) (⟨mm_pe (me_X1_allStreets hl) mwX1_allStreets (mm_t2 128 rfl rfl) (Nat.le_of_ble_eq_true rfl) (Nat.le_of_ble_eq_true rfl), trivial⟩) (mm_xe0 _)
def sp_X2_goOn : mm_S := fun av M d Q => match av with
  | [.inr (.inr (.inl w)), .inl p, .inl up] =>  isK w ∧ tW M ∧ wV M w ∧ wD M w ∧ InI p ∧ (-100 ≤ p ∧ p ≤ 100) ∧ (up = 0 ∨ up = 1) ∧ ∀ M' r, fr [w, w + 1] M M' ∧ wV M' w ∧ wD M' w ∧ M w 2 ≤ M' w 2 ∧ 0 ≤ r ∧ r ≤ 30 → Q (.inl (some (mm_I r))) M' d
  | _ => False
def ct_X2_goOn : List (Nat × mm_Ca) := [(26, (0, 2, 12, sp_X2_cornerOf, 0)), (72, (0, 1, 12, sp_X2_notWalked, 0)), (75, (0, 4, 11, sp_X1_stepOn, 0)), (39, (0, 3, 12, sp_X2_putIn, 0)), (30, (0, 2, 11, sp_X1_goalOf, 0))]
abbrev rr_X2_goOn (Q : mm_Q) := mm_run (mm_look flX2) (mm_look ct_X2_goOn) mm_x0 (mm_look ([] : List (Nat × Int))) (fun _ => none) 1 0 (fun _ _ => none) Q kdX2_goOn
set_option maxRecDepth 20000 in
theorem lp_X2_goOn {M0 : mm_M} {d : List Nat} {Q : mm_Q} {w : Nat} {p up : Int} (hw : isK w) (hp : -100 ≤ p ∧ p ≤ 100) (hu : up = 0 ∨ up = 1) (ht0 : tW M0) (hq : ∀ M' r, fr [w, w + 1] M0 M' ∧ wV M' w ∧ wD M' w ∧ M0 w 2 ≤ M' w 2 ∧ 0 ≤ r ∧ r ≤ 30 → Q (.inl (some (mm_I r))) M' d) : ∀ (k i : Nat) (M : mm_M) (c S : Int) (x7 : Option mm_V), i + k = 30 → fr [w, w + 1] M0 M → wV M w → wD M w → M0 w 2 ≤ M w 2 → (0 ≤ c ∧ c < 10) → (0 ≤ S ∧ S < 1073741824) → lft M w S → rr_X2_goOn Q 18 [some (mm_R w), some (mm_I p), some (mm_I up), some (mm_I c), some (mm_I S), some (mm_I i), some (mm_I i), x7] [] M d 0 := by
  intro k
  induction k with
  | zero =>
    intro i M c S x7 hi hf hv hD hm hc hS hl
    refine mm_run_at (stop := [18]) (S := rr_X2_goOn Q) kkX2_goOn 60 ?_ (fun _ _ _ _ _ _ _ h => h)
    simp only [mm_wp, mm_op, mm_nxt, mm_jmp, mm_at, mm_in, mm_nth, mm_set, mm_ok, mm_isL, mm_ret, mm_isRet, mm_bool, mm_call, mm_push, mm_rv, mm_cats, mm_cat, mm_look, mm_ft, mm_fv, mm_pf, mm_thr, mm_ent, mm_pad, mm_fl, beq_self_eq_true, cond_true, cond_false, Nat.reduceBEq, Nat.reduceEqDiff, List.drop_succ_cons, List.drop_zero, List.take_succ_cons, List.take_zero, List.reverse_cons, List.reverse_nil, List.nil_append, List.cons_append, List.length_cons, List.length_nil, Nat.reduceAdd, Nat.reduceSub, Nat.reduceLeDiff, Bool.not_false, Bool.and_true, Bool.true_and, Nat.zero_add, true_and, and_true, Nat.le_refl, true_or, or_true, reduceCtorEq, Nat.add_zero, Nat.reduceLT, Bool.and_self, Bool.not_true, Fin.isValue, Nat.reduceLeDiff, List.take_nil, List.drop_nil, mm_i1, mm_i2, mm_i3, mm_i4, mm_i5, mm_i6, mm_i7, mm_i16, mm_i17, mm_i18, mm_i19, mm_i20, mm_i21, mm_i22, mm_i23, mm_l3, mm_l4, mm_l5, mm_l6, mm_l7, mm_l18, mm_l19, mm_l20, mm_l21, mm_l22, kdX2_goOn, ct_X2_goOn, flX2, sp_X2_cornerOf, sp_X2_notWalked, sp_X1_stepOn, sp_X2_putIn, sp_X1_goalOf, wk_is hw, wk_iw hw, wk_ln hw]
    exact ⟨by omega, ⟨by omega, by omega⟩, ⟨by omega, by omega⟩, fun _ => hq M i ⟨hf, hv, hD, hm, by omega, by omega⟩, fun h => by omega⟩
  | succ k ih =>
    intro i M c S x7 hi hf hv hD hm hc hS hl
    have ht := tWk ht0 hf hw
    have t1 := ht.1
    refine mm_run_at (stop := [18]) (S := rr_X2_goOn Q) kkX2_goOn 60 ?_ (fun _ _ _ _ _ _ _ h => h)
    simp only [mm_wp, mm_op, mm_nxt, mm_jmp, mm_at, mm_in, mm_nth, mm_set, mm_ok, mm_isL, mm_ret, mm_isRet, mm_bool, mm_call, mm_push, mm_rv, mm_cats, mm_cat, mm_look, mm_ft, mm_fv, mm_pf, mm_thr, mm_ent, mm_pad, mm_fl, beq_self_eq_true, cond_true, cond_false, Nat.reduceBEq, Nat.reduceEqDiff, List.drop_succ_cons, List.drop_zero, List.take_succ_cons, List.take_zero, List.reverse_cons, List.reverse_nil, List.nil_append, List.cons_append, List.length_cons, List.length_nil, Nat.reduceAdd, Nat.reduceSub, Nat.reduceLeDiff, Bool.not_false, Bool.and_true, Bool.true_and, Nat.zero_add, true_and, and_true, Nat.le_refl, true_or, or_true, reduceCtorEq, Nat.add_zero, Nat.reduceLT, Bool.and_self, Bool.not_true, Fin.isValue, Nat.reduceLeDiff, List.take_nil, List.drop_nil, mm_i1, mm_i2, mm_i3, mm_i4, mm_i5, mm_i6, mm_i7, mm_i16, mm_i17, mm_i18, mm_i19, mm_i20, mm_i21, mm_i22, mm_i23, mm_l3, mm_l4, mm_l5, mm_l6, mm_l7, mm_l18, mm_l19, mm_l20, mm_l21, mm_l22, kdX2_goOn, ct_X2_goOn, flX2, sp_X2_cornerOf, sp_X2_notWalked, sp_X1_stepOn, sp_X2_putIn, sp_X1_goalOf, wk_is hw, wk_iw hw, wk_ln hw, tp1]
    refine ⟨by omega, ⟨by omega, by omega⟩, ⟨by omega, by omega⟩, fun h => by omega, fun _ => ⟨ht, hS, ⟨by omega, by omega⟩, hu, fun r hr => ⟨⟨by omega, by omega⟩, fun h => ⟨hw, hv, ⟨by omega, by omega⟩, ⟨h, by omega⟩, fun M' h2 => ?_⟩, fun h => hq M i ⟨hf, hv, hD, hm, by omega, by omega⟩⟩⟩⟩
    have e := h2.1.k hw
    have hcl := clr_spec (S := S) (s := (r / 2).toNat) hS (by omega)
    have hN := lft_r hl (by omega) (hr.2.2.2 h)
    refine ⟨⟨by omega, by omega⟩, by omega, by omega, tWk ht h2.1 hw, by rw [e.1]; exact ⟨h, by omega⟩, fun r2 hr2 => ?_⟩
    have hm2 : M w 2 ≤ M' w 2 := by
      rcases h2.2.2 with h5 | h5
      · omega
      · rw [h5.2]
        exact Int.le_refl _
    refine ih (i + 1) M' r2 (clr S (r / 2).toNat) (some (mm_I r)) (by omega) (hf.tr h2.1) h2.2.1 (put_wD hD hN h2.2.2) (by omega) hr2.2 hcl.1 (fun k hk hb => ?_)
    rw [hcl.2 k hk] at hb
    split at hb
    · omega
    · exact put_wN (hl k hk hb) (by omega) h2.2.2
set_option maxRecDepth 20000 in
theorem rn_X2_goOn : mm_RN flX2 ct_X2_goOn mm_x0 [] 1 0 8 kdX2_goOn sp_X2_goOn := by
  intro av M d Q h
  unfold sp_X2_goOn at h
  split at h
  · rename_i w p up
    obtain ⟨hw, ht, hv, hD, hp, hp2, hu, hq⟩ := h
    refine ⟨Nat.le_of_ble_eq_true rfl, mm_run_at (stop := [18]) (S := rr_X2_goOn Q) kkX2_goOn 80 ?_ (fun _ _ _ _ _ _ _ h => h)⟩
    simp only [mm_wp, mm_op, mm_nxt, mm_jmp, mm_at, mm_in, mm_nth, mm_set, mm_ok, mm_isL, mm_ret, mm_isRet, mm_bool, mm_call, mm_push, mm_rv, mm_cats, mm_cat, mm_look, mm_ft, mm_fv, mm_pf, mm_thr, mm_ent, mm_pad, mm_fl, beq_self_eq_true, cond_true, cond_false, Nat.reduceBEq, Nat.reduceEqDiff, List.drop_succ_cons, List.drop_zero, List.take_succ_cons, List.take_zero, List.reverse_cons, List.reverse_nil, List.nil_append, List.cons_append, List.length_cons, List.length_nil, Nat.reduceAdd, Nat.reduceSub, Nat.reduceLeDiff, Bool.not_false, Bool.and_true, Bool.true_and, Nat.zero_add, true_and, and_true, Nat.le_refl, true_or, or_true, reduceCtorEq, Nat.add_zero, Nat.reduceLT, Bool.and_self, Bool.not_true, Fin.isValue, Nat.reduceLeDiff, List.take_nil, List.drop_nil, mm_i1, mm_i2, mm_i3, mm_i4, mm_i5, mm_i6, mm_i7, mm_i16, mm_i17, mm_i18, mm_i19, mm_i20, mm_i21, mm_i22, mm_i23, mm_l3, mm_l4, mm_l5, mm_l6, mm_l7, mm_l18, mm_l19, mm_l20, mm_l21, mm_l22, kdX2_goOn, ct_X2_goOn, flX2, sp_X2_cornerOf, sp_X2_notWalked, sp_X1_stepOn, sp_X2_putIn, sp_X1_goalOf, wk_is hw]
    refine ⟨hw, ht, hv, hp, fun c hc => ⟨hw, ht, hv, fun r hr => ?_⟩⟩
    exact lp_X2_goOn hw hp2 hu ht hq 30 0 M c r none (by omega) fr.rf hv hD (Int.le_refl _) hc.2 hr.2 (by rw [hr.1]; exact nwk_lft ht hv)
  · exact h.elim
theorem me_X2_goOn {l : Launch} (hl : l.stackTraces = false) : mm_Met l yX2_goOn cX2_goOn 8 (some .int) [] 9 169 0 sp_X2_goOn := mm_mt hl rn_X2_goOn ⟨by decide, rfl⟩ kkX2_goOn rfl ⟨by decide, by decide⟩ flkX2 (fun _ h => nomatch h) (⟨mm_pe (me_X2_cornerOf hl) mwX2_cornerOf (mm_t1 191 rfl rfl) (Nat.le_of_ble_eq_true rfl) (Nat.le_of_ble_eq_true rfl), mm_pe (me_X2_notWalked hl) mwX2_notWalked (mm_t2 124 rfl rfl) (Nat.le_of_ble_eq_true rfl) (Nat.le_of_ble_eq_true rfl), mm_pe (me_X1_stepOn hl) mwX1_stepOn (mm_t2 129 rfl rfl) (Nat.le_of_ble_eq_true rfl) (Nat.le_of_ble_eq_true rfl), mm_pe (me_X2_putIn hl) mwX2_putIn (mm_t2 134 rfl rfl) (Nat.le_of_ble_eq_true rfl) (Nat.le_of_ble_eq_true rfl), mm_pe (me_X1_goalOf hl) mwX1_goalOf (mm_t1 195 rfl rfl) (Nat.le_of_ble_eq_true rfl) (Nat.le_of_ble_eq_true rfl), trivial⟩) (mm_xe0 _)
def sp_X2_fillUp : mm_S := fun av M d Q => match av with
  | [.inr (.inr (.inl w)), .inl up] =>  isK w ∧ tW M ∧ wV M w ∧ wD M w ∧ (up = 0 ∨ up = 1) ∧ ∀ M' r, fr [w, w + 1] M M' ∧ wV M' w ∧ wD M' w ∧ M w 2 ≤ M' w 2 ∧ 0 ≤ r ∧ r ≤ 1000 → Q (.inl (some (mm_I r))) M' d
  | _ => False
def ct_X2_fillUp : List (Nat × mm_Ca) := [(79, (0, 3, 12, sp_X2_goOn, 0))]
abbrev rr_X2_fillUp (Q : mm_Q) := mm_run (mm_look flX2) (mm_look ct_X2_fillUp) mm_x0 (mm_look ([] : List (Nat × Int))) (fun _ => none) 1 0 (fun _ _ => none) Q kdX2_fillUp
set_option maxRecDepth 20000 in
theorem lp_X2_fillUp {M0 : mm_M} {d : List Nat} {Q : mm_Q} {w : Nat} {up : Int} (hw : isK w) (hu : up = 0 ∨ up = 1) (ht0 : tW M0) (hq : ∀ M' r, fr [w, w + 1] M0 M' ∧ wV M' w ∧ wD M' w ∧ M0 w 2 ≤ M' w 2 ∧ 0 ≤ r ∧ r ≤ 1000 → Q (.inl (some (mm_I r))) M' d) : ∀ (k i : Nat) (M : mm_M) (c : Int), i + k = 31 → fr [w, w + 1] M0 M → wV M w → wD M w → M0 w 2 ≤ M w 2 → (0 ≤ c ∧ c ≤ 30 + 30 * i) → rr_X2_fillUp Q 12 [some (mm_R w), some (mm_I up), some (mm_I c), some (mm_I i)] [] M d 0 := by
  intro k
  induction k with
  | zero =>
    intro i M c hi hf hv hD hm hc
    have v1 := hv.1
    refine mm_run_at (stop := [12]) (S := rr_X2_fillUp Q) kkX2_fillUp 60 ?_ (fun _ _ _ _ _ _ _ h => h)
    simp only [mm_wp, mm_op, mm_nxt, mm_jmp, mm_at, mm_in, mm_nth, mm_set, mm_ok, mm_isL, mm_ret, mm_isRet, mm_bool, mm_call, mm_push, mm_rv, mm_cats, mm_cat, mm_look, mm_ft, mm_fv, mm_pf, mm_thr, mm_ent, mm_pad, mm_fl, beq_self_eq_true, cond_true, cond_false, Nat.reduceBEq, Nat.reduceEqDiff, List.drop_succ_cons, List.drop_zero, List.take_succ_cons, List.take_zero, List.reverse_cons, List.reverse_nil, List.nil_append, List.cons_append, List.length_cons, List.length_nil, Nat.reduceAdd, Nat.reduceSub, Nat.reduceLeDiff, Bool.not_false, Bool.and_true, Bool.true_and, Nat.zero_add, true_and, and_true, Nat.le_refl, true_or, or_true, reduceCtorEq, Nat.add_zero, Nat.reduceLT, Bool.and_self, Bool.not_true, Fin.isValue, Nat.reduceLeDiff, List.take_nil, List.drop_nil, mm_i1, mm_i2, mm_i3, mm_i4, mm_i5, mm_i6, mm_i7, mm_i16, mm_i17, mm_i18, mm_i19, mm_i20, mm_i21, mm_i22, mm_i23, mm_l3, mm_l4, mm_l5, mm_l6, mm_l7, mm_l18, mm_l19, mm_l20, mm_l21, mm_l22, kdX2_fillUp, ct_X2_fillUp, flX2, sp_X2_goOn, wk_is hw, wk_iw hw, wk_ln hw]
    exact ⟨⟨by omega, by omega⟩, ⟨by omega, by omega⟩, fun _ => hq M c ⟨hf, hv, hD, hm, by omega, by omega⟩, fun h => by omega⟩
  | succ k ih =>
    intro i M c hi hf hv hD hm hc
    have ht := tWk ht0 hf hw
    have v1 := hv.1
    refine mm_run_at (stop := [12]) (S := rr_X2_fillUp Q) kkX2_fillUp 60 ?_ (fun _ _ _ _ _ _ _ h => h)
    simp only [mm_wp, mm_op, mm_nxt, mm_jmp, mm_at, mm_in, mm_nth, mm_set, mm_ok, mm_isL, mm_ret, mm_isRet, mm_bool, mm_call, mm_push, mm_rv, mm_cats, mm_cat, mm_look, mm_ft, mm_fv, mm_pf, mm_thr, mm_ent, mm_pad, mm_fl, beq_self_eq_true, cond_true, cond_false, Nat.reduceBEq, Nat.reduceEqDiff, List.drop_succ_cons, List.drop_zero, List.take_succ_cons, List.take_zero, List.reverse_cons, List.reverse_nil, List.nil_append, List.cons_append, List.length_cons, List.length_nil, Nat.reduceAdd, Nat.reduceSub, Nat.reduceLeDiff, Bool.not_false, Bool.and_true, Bool.true_and, Nat.zero_add, true_and, and_true, Nat.le_refl, true_or, or_true, reduceCtorEq, Nat.add_zero, Nat.reduceLT, Bool.and_self, Bool.not_true, Fin.isValue, Nat.reduceLeDiff, List.take_nil, List.drop_nil, mm_i1, mm_i2, mm_i3, mm_i4, mm_i5, mm_i6, mm_i7, mm_i16, mm_i17, mm_i18, mm_i19, mm_i20, mm_i21, mm_i22, mm_i23, mm_l3, mm_l4, mm_l5, mm_l6, mm_l7, mm_l18, mm_l19, mm_l20, mm_l21, mm_l22, kdX2_fillUp, ct_X2_fillUp, flX2, sp_X2_goOn, wk_is hw, wk_iw hw, wk_ln hw]
    refine ⟨⟨by omega, by omega⟩, ⟨by omega, by omega⟩, fun _ => hq M c ⟨hf, hv, hD, hm, by omega, by omega⟩, fun _ => ⟨by omega, ⟨by omega, by omega⟩, ⟨by omega, by omega⟩, fun h => by omega, fun _ => ⟨hw, ht, hv, hD, ⟨by omega, by omega⟩, by omega, hu, fun M' r hr => ?_⟩⟩⟩
    have h9 := hr.2.2.2
    exact ih (i + 1) M' (c + r) (by omega) (hf.tr hr.1) hr.2.1 hr.2.2.1 (by omega) (by omega)
set_option maxRecDepth 20000 in
theorem rn_X2_fillUp : mm_RN flX2 ct_X2_fillUp mm_x0 [] 1 0 4 kdX2_fillUp sp_X2_fillUp := by
  intro av M d Q h
  unfold sp_X2_fillUp at h
  split at h
  · rename_i w up
    obtain ⟨hw, ht, hv, hD, hu, hq⟩ := h
    have v1 := hv.1
    refine ⟨Nat.le_of_ble_eq_true rfl, mm_run_at (stop := [12]) (S := rr_X2_fillUp Q) kkX2_fillUp 80 ?_ (fun _ _ _ _ _ _ _ h => h)⟩
    simp only [mm_wp, mm_op, mm_nxt, mm_jmp, mm_at, mm_in, mm_nth, mm_set, mm_ok, mm_isL, mm_ret, mm_isRet, mm_bool, mm_call, mm_push, mm_rv, mm_cats, mm_cat, mm_look, mm_ft, mm_fv, mm_pf, mm_thr, mm_ent, mm_pad, mm_fl, beq_self_eq_true, cond_true, cond_false, Nat.reduceBEq, Nat.reduceEqDiff, List.drop_succ_cons, List.drop_zero, List.take_succ_cons, List.take_zero, List.reverse_cons, List.reverse_nil, List.nil_append, List.cons_append, List.length_cons, List.length_nil, Nat.reduceAdd, Nat.reduceSub, Nat.reduceLeDiff, Bool.not_false, Bool.and_true, Bool.true_and, Nat.zero_add, true_and, and_true, Nat.le_refl, true_or, or_true, reduceCtorEq, Nat.add_zero, Nat.reduceLT, Bool.and_self, Bool.not_true, Fin.isValue, Nat.reduceLeDiff, List.take_nil, List.drop_nil, mm_i1, mm_i2, mm_i3, mm_i4, mm_i5, mm_i6, mm_i7, mm_i16, mm_i17, mm_i18, mm_i19, mm_i20, mm_i21, mm_i22, mm_i23, mm_l3, mm_l4, mm_l5, mm_l6, mm_l7, mm_l18, mm_l19, mm_l20, mm_l21, mm_l22, kdX2_fillUp, ct_X2_fillUp, flX2, sp_X2_goOn, wk_is hw]
    refine ⟨hw, ht, hv, hD, ⟨by omega, by omega⟩, by omega, hu, fun M' r hr => ?_⟩
    exact lp_X2_fillUp hw hu ht hq 31 0 M' r (by omega) hr.1 hr.2.1 hr.2.2.1 hr.2.2.2.1 (by have := hr.2.2.2.2; omega)
  · exact h.elim
theorem me_X2_fillUp {l : Launch} (hl : l.stackTraces = false) : mm_Met l yX2_fillUp cX2_fillUp 4 (some .int) [] 10 196 0 sp_X2_fillUp := mm_mt hl rn_X2_fillUp ⟨by decide, rfl⟩ kkX2_fillUp rfl ⟨by decide, by decide⟩ flkX2 (fun _ h => nomatch h) (⟨mm_pe (me_X2_goOn hl) mwX2_goOn (mm_t2 120 rfl rfl) (Nat.le_of_ble_eq_true rfl) (Nat.le_of_ble_eq_true rfl), trivial⟩) (mm_xe0 _)
def sp_X2_canTakeIn : mm_S := fun av M d Q => match av with
  | [.inr (.inr (.inl w)), .inr (.inr (.inl v))] =>  isK w ∧ isK v ∧ tW M ∧ wV M w ∧ wV M v ∧ ∀ r, (r = 0 ∨ r = 1) ∧ (r = 1 → w ≠ v ∧ M v 2 ≠ 0 ∧ cor M v (M v 2) = M v 3 ∧ ∀ j : Nat, j < M v 2 → wN M w (M (v + 1) j / 2)) → Q (.inl (some (mm_I r))) M d
  | _ => False
def ct_X2_canTakeIn : List (Nat × mm_Ca) := [(83, (0, 1, 12, sp_X2_isHome, 0)), (72, (0, 1, 12, sp_X2_notWalked, 0)), (87, (0, 1, 11, sp_X1_allStreets, 0))]
abbrev rr_X2_canTakeIn (Q : mm_Q) := mm_run (mm_look flX2) (mm_look ct_X2_canTakeIn) mm_x0 (mm_look ([] : List (Nat × Int))) (fun _ => none) 2 0 (fun _ _ => none) Q kdX2_canTakeIn
set_option maxRecDepth 20000 in
theorem rn_X2_canTakeIn : mm_RN flX2 ct_X2_canTakeIn mm_x0 [] 2 0 2 kdX2_canTakeIn sp_X2_canTakeIn := by
  intro av M d Q h
  unfold sp_X2_canTakeIn at h
  split at h
  · rename_i w v
    obtain ⟨hw, hv, ht, a1, a2, hq⟩ := h
    have v1 := a2.1
    refine ⟨Nat.le_of_ble_eq_true rfl, mm_run_at (stop := []) (S := mm_F0) kkX2_canTakeIn 80 ?_ mm_F0h⟩
    simp only [mm_wp, mm_op, mm_nxt, mm_jmp, mm_at, mm_in, mm_nth, mm_set, mm_ok, mm_isL, mm_ret, mm_isRet, mm_bool, mm_call, mm_push, mm_rv, mm_cats, mm_cat, mm_look, mm_ft, mm_fv, mm_pf, mm_thr, mm_ent, mm_pad, mm_fl, beq_self_eq_true, cond_true, cond_false, Nat.reduceBEq, Nat.reduceEqDiff, List.drop_succ_cons, List.drop_zero, List.take_succ_cons, List.take_zero, List.reverse_cons, List.reverse_nil, List.nil_append, List.cons_append, List.length_cons, List.length_nil, Nat.reduceAdd, Nat.reduceSub, Nat.reduceLeDiff, Bool.not_false, Bool.and_true, Bool.true_and, Nat.zero_add, true_and, and_true, Nat.le_refl, true_or, or_true, reduceCtorEq, Nat.add_zero, Nat.reduceLT, Bool.and_self, Bool.not_true, Fin.isValue, Nat.reduceLeDiff, List.take_nil, List.drop_nil, mm_i1, mm_i2, mm_i3, mm_i4, mm_i5, mm_i6, mm_i7, mm_i16, mm_i17, mm_i18, mm_i19, mm_i20, mm_i21, mm_i22, mm_i23, mm_l3, mm_l4, mm_l5, mm_l6, mm_l7, mm_l18, mm_l19, mm_l20, mm_l21, mm_l22, kdX2_canTakeIn, ct_X2_canTakeIn, flX2, sp_X2_isHome, sp_X2_notWalked, sp_X1_allStreets, wk_is hw, wk_is hv, wk_mm hw, wk_mm hv]
    have hno : Q (.inl (some (mm_I 0))) M d := hq 0 ⟨Or.inl rfl, fun h => by omega⟩
    refine ⟨fun _ => hno, fun hne => ⟨⟨by omega, by omega⟩, fun _ => hno, fun h0 => ⟨hv, ht, a2, fun r hr => ⟨inI2 (P := cor M v (M v 2) = M v 3) hr, fun h => ⟨hw, ht, a1, fun r1 hr1 => ⟨hv, ht, a2, fun r2 hr2 => ⟨ht, fun r3 hr3 => ?_⟩⟩⟩, fun _ => hno⟩⟩⟩⟩
    obtain ⟨hb, hb2⟩ := mm_or_bt (a := r1) (b := r2) (by omega) (by omega)
    refine ⟨⟨by omega, by omega⟩, ⟨by omega, by omega⟩, fun _ => hno, fun h9 => hq 1 ⟨Or.inr rfl, fun _ => ⟨fun e => hne e.symm, h0, ?_, fun j hj i hi e => ?_⟩⟩⟩
    · exact Classical.byContradiction fun h8 => h (hr.2 h8)
    · have u1 := a2.2.2 j hj
      have u2 := a1.2.2 i hi
      have u3 := ht.1
      have w1 := a1.1
      have h8 := hb2 (M (v + 1) j / 2).toNat
      have h7 := nwk_bt ht a1 (k := (M (v + 1) j / 2).toNat) (by omega) (M w 2).toNat (by omega)
      have h6 := nwk_bt ht a2 (k := (M (v + 1) j / 2).toNat) (by omega) (M v 2).toNat (by omega)
      have h5 := bt_all (M 2 4).toNat (M (v + 1) j / 2).toNat
      rw [← hr1.1] at h7
      rw [← hr2.1] at h6
      rw [h9, hr3.1, h5, if_pos (by omega)] at h8
      have z1 : bt r1 (M (v + 1) j / 2).toNat ≠ 1 := fun z => (h7.mp z).2 i (by omega) (by omega)
      have z2 : bt r2 (M (v + 1) j / 2).toNat ≠ 1 := fun z => (h6.mp z).2 j (by omega) (by omega)
      have y1 := bt_01 r1 (M (v + 1) j / 2).toNat
      have y2 := bt_01 r2 (M (v + 1) j / 2).toNat
      rw [show bt r1 (M (v + 1) j / 2).toNat = 0 by omega, show bt r2 (M (v + 1) j / 2).toNat = 0 by omega] at h8
      omega
  · exact h.elim
theorem me_X2_canTakeIn {l : Launch} (hl : l.stackTraces = false) : mm_Met l yX2_canTakeIn cX2_canTakeIn 2 (some .boolean) [] 10 184 0 sp_X2_canTakeIn := mm_mt hl rn_X2_canTakeIn ⟨by decide, rfl⟩ kkX2_canTakeIn rfl ⟨by decide, by decide⟩ flkX2 (fun _ h => nomatch h) (⟨mm_pe (me_X2_isHome hl) mwX2_isHome (mm_t3 55 rfl rfl) (Nat.le_of_ble_eq_true rfl) (Nat.le_of_ble_eq_true rfl), mm_pe (me_X2_notWalked hl) mwX2_notWalked (mm_t2 124 rfl rfl) (Nat.le_of_ble_eq_true rfl) (Nat.le_of_ble_eq_true rfl), mm_pe (me_X1_allStreets hl) mwX1_allStreets (mm_t2 128 rfl rfl) (Nat.le_of_ble_eq_true rfl) (Nat.le_of_ble_eq_true rfl), trivial⟩) (mm_xe0 _)
def sp_X2_meetingPlace : mm_S := fun av M d Q => match av with
  | [.inr (.inr (.inl w)), .inr (.inr (.inl v))] =>  isK w ∧ isK v ∧ tW M ∧ wV M w ∧ wV M v ∧ ∀ r, (r = -1 ∧ ∀ i j : Nat, i ≤ M w 2 → j ≤ M v 2 → cor M v j ≠ cor M w i) ∨ (0 ≤ r ∧ r ≤ M w 2 ∧ (∃ j : Nat, j ≤ M v 2 ∧ cor M v j = cor M w r) ∧ ∀ i j : Nat, i < r → j ≤ M v 2 → cor M v j ≠ cor M w i) → Q (.inl (some (mm_I r))) M d
  | _ => False
def ct_X2_meetingPlace : List (Nat × mm_Ca) := [(26, (0, 2, 12, sp_X2_cornerOf, 0)), (90, (0, 2, 12, sp_X2_placeOfCorner, 0))]
abbrev rr_X2_meetingPlace (Q : mm_Q) := mm_run (mm_look flX2) (mm_look ct_X2_meetingPlace) mm_x0 (mm_look ([] : List (Nat × Int))) (fun _ => none) 1 0 (fun _ _ => none) Q kdX2_meetingPlace
set_option maxRecDepth 20000 in
theorem lp_X2_meetingPlace {M : mm_M} {d : List Nat} {Q : mm_Q} {w v n : Nat} (hw : isK w) (hv : isK v) (ht : tW M) (a1 : wV M w) (a2 : wV M v) (hn : M w 2 = n) (hq : ∀ r, (r = -1 ∧ ∀ i j : Nat, i ≤ M w 2 → j ≤ M v 2 → cor M v j ≠ cor M w i) ∨ (0 ≤ r ∧ r ≤ M w 2 ∧ (∃ j : Nat, j ≤ M v 2 ∧ cor M v j = cor M w r) ∧ ∀ i j : Nat, i < r → j ≤ M v 2 → cor M v j ≠ cor M w i) → Q (.inl (some (mm_I r))) M d) : ∀ (k i : Nat), i + k = n + 1 → (∀ i' j : Nat, i' < i → j ≤ M v 2 → cor M v j ≠ cor M w i') → rr_X2_meetingPlace Q 2 [some (mm_R w), some (mm_R v), some (mm_I i)] [] M d 0 := by
  obtain ⟨v1, v2, v3⟩ := id a1
  have v4 := a2.1
  intro k
  induction k with
  | zero =>
    intro i hi hj
    refine mm_run_at (stop := [2]) (S := rr_X2_meetingPlace Q) kkX2_meetingPlace 60 ?_ (fun _ _ _ _ _ _ _ h => h)
    simp only [mm_wp, mm_op, mm_nxt, mm_jmp, mm_at, mm_in, mm_nth, mm_set, mm_ok, mm_isL, mm_ret, mm_isRet, mm_bool, mm_call, mm_push, mm_rv, mm_cats, mm_cat, mm_look, mm_ft, mm_fv, mm_pf, mm_thr, mm_ent, mm_pad, mm_fl, beq_self_eq_true, cond_true, cond_false, Nat.reduceBEq, Nat.reduceEqDiff, List.drop_succ_cons, List.drop_zero, List.take_succ_cons, List.take_zero, List.reverse_cons, List.reverse_nil, List.nil_append, List.cons_append, List.length_cons, List.length_nil, Nat.reduceAdd, Nat.reduceSub, Nat.reduceLeDiff, Bool.not_false, Bool.and_true, Bool.true_and, Nat.zero_add, true_and, and_true, Nat.le_refl, true_or, or_true, reduceCtorEq, Nat.add_zero, Nat.reduceLT, Bool.and_self, Bool.not_true, Fin.isValue, Nat.reduceLeDiff, List.take_nil, List.drop_nil, mm_i1, mm_i2, mm_i3, mm_i4, mm_i5, mm_i6, mm_i7, mm_i16, mm_i17, mm_i18, mm_i19, mm_i20, mm_i21, mm_i22, mm_i23, mm_l3, mm_l4, mm_l5, mm_l6, mm_l7, mm_l18, mm_l19, mm_l20, mm_l21, mm_l22, kdX2_meetingPlace, ct_X2_meetingPlace, flX2, sp_X2_cornerOf, sp_X2_placeOfCorner, wk_is hw, wk_is hv]
    exact ⟨⟨by omega, by omega⟩, ⟨by omega, by omega⟩, fun _ => hq _ (Or.inl ⟨rfl, fun j k h => hj j k (by omega)⟩), fun h => by omega⟩
  | succ k ih =>
    intro i hi hj
    refine mm_run_at (stop := [2]) (S := rr_X2_meetingPlace Q) kkX2_meetingPlace 60 ?_ (fun _ _ _ _ _ _ _ h => h)
    simp only [mm_wp, mm_op, mm_nxt, mm_jmp, mm_at, mm_in, mm_nth, mm_set, mm_ok, mm_isL, mm_ret, mm_isRet, mm_bool, mm_call, mm_push, mm_rv, mm_cats, mm_cat, mm_look, mm_ft, mm_fv, mm_pf, mm_thr, mm_ent, mm_pad, mm_fl, beq_self_eq_true, cond_true, cond_false, Nat.reduceBEq, Nat.reduceEqDiff, List.drop_succ_cons, List.drop_zero, List.take_succ_cons, List.take_zero, List.reverse_cons, List.reverse_nil, List.nil_append, List.cons_append, List.length_cons, List.length_nil, Nat.reduceAdd, Nat.reduceSub, Nat.reduceLeDiff, Bool.not_false, Bool.and_true, Bool.true_and, Nat.zero_add, true_and, and_true, Nat.le_refl, true_or, or_true, reduceCtorEq, Nat.add_zero, Nat.reduceLT, Bool.and_self, Bool.not_true, Fin.isValue, Nat.reduceLeDiff, List.take_nil, List.drop_nil, mm_i1, mm_i2, mm_i3, mm_i4, mm_i5, mm_i6, mm_i7, mm_i16, mm_i17, mm_i18, mm_i19, mm_i20, mm_i21, mm_i22, mm_i23, mm_l3, mm_l4, mm_l5, mm_l6, mm_l7, mm_l18, mm_l19, mm_l20, mm_l21, mm_l22, kdX2_meetingPlace, ct_X2_meetingPlace, flX2, sp_X2_cornerOf, sp_X2_placeOfCorner, wk_is hw, wk_is hv]
    refine ⟨⟨by omega, by omega⟩, ⟨by omega, by omega⟩, fun h => by omega, fun _ => ⟨hw, ht, a1, ⟨by omega, by omega⟩, fun r hr => ⟨hv, ht, a2, ⟨by omega, by omega⟩, fun r2 hr2 => ⟨⟨by omega, by omega⟩, fun h => ?_, fun h => ?_⟩⟩⟩⟩
    · refine ih (i + 1) (by omega) (fun j j2 hj2 hj3 => ?_)
      by_cases e : j = i
      · subst e
        rw [← hr.1]
        rcases hr2 with h4 | h4
        · exact h4.2 j2 (by omega)
        · omega
      · exact hj j j2 (by omega) hj3
    · refine hq _ (Or.inr ⟨by omega, by omega, ?_, fun j k h => hj j k (by omega)⟩)
      rcases hr2 with h4 | h4
      · omega
      · refine ⟨r2.toNat, by omega, ?_⟩
        rw [← hr.1, show ((r2.toNat : Nat) : Int) = r2 by omega]
        exact h4.2.2.1
set_option maxRecDepth 20000 in
theorem rn_X2_meetingPlace : mm_RN flX2 ct_X2_meetingPlace mm_x0 [] 1 0 3 kdX2_meetingPlace sp_X2_meetingPlace := by
  intro av M d Q h
  unfold sp_X2_meetingPlace at h
  split at h
  · rename_i w v
    obtain ⟨hw, hv, ht, a1, a2, hq⟩ := h
    have v1 := a1.1
    obtain ⟨n, hn⟩ := Int.eq_ofNat_of_zero_le v1.1
    refine ⟨Nat.le_of_ble_eq_true rfl, mm_run_at (stop := [2]) (S := rr_X2_meetingPlace Q) kkX2_meetingPlace 80 ?_ (fun _ _ _ _ _ _ _ h => h)⟩
    simp only [mm_wp, mm_op, mm_nxt, mm_jmp, mm_at, mm_in, mm_nth, mm_set, mm_ok, mm_isL, mm_ret, mm_isRet, mm_bool, mm_call, mm_push, mm_rv, mm_cats, mm_cat, mm_look, mm_ft, mm_fv, mm_pf, mm_thr, mm_ent, mm_pad, mm_fl, beq_self_eq_true, cond_true, cond_false, Nat.reduceBEq, Nat.reduceEqDiff, List.drop_succ_cons, List.drop_zero, List.take_succ_cons, List.take_zero, List.reverse_cons, List.reverse_nil, List.nil_append, List.cons_append, List.length_cons, List.length_nil, Nat.reduceAdd, Nat.reduceSub, Nat.reduceLeDiff, Bool.not_false, Bool.and_true, Bool.true_and, Nat.zero_add, true_and, and_true, Nat.le_refl, true_or, or_true, reduceCtorEq, Nat.add_zero, Nat.reduceLT, Bool.and_self, Bool.not_true, Fin.isValue, Nat.reduceLeDiff, List.take_nil, List.drop_nil, mm_i1, mm_i2, mm_i3, mm_i4, mm_i5, mm_i6, mm_i7, mm_i16, mm_i17, mm_i18, mm_i19, mm_i20, mm_i21, mm_i22, mm_i23, mm_l3, mm_l4, mm_l5, mm_l6, mm_l7, mm_l18, mm_l19, mm_l20, mm_l21, mm_l22, kdX2_meetingPlace, ct_X2_meetingPlace, flX2, sp_X2_cornerOf, sp_X2_placeOfCorner]
    exact lp_X2_meetingPlace hw hv ht a1 a2 hn hq (n + 1) 0 (by omega) (fun i j hj => by omega)
  · exact h.elim
theorem me_X2_meetingPlace {l : Launch} (hl : l.stackTraces = false) : mm_Met l yX2_meetingPlace cX2_meetingPlace 3 (some .int) [] 10 186 0 sp_X2_meetingPlace := mm_mt hl rn_X2_meetingPlace ⟨by decide, rfl⟩ kkX2_meetingPlace rfl ⟨by decide, by decide⟩ flkX2 (fun _ h => nomatch h) (⟨mm_pe (me_X2_cornerOf hl) mwX2_cornerOf (mm_t1 191 rfl rfl) (Nat.le_of_ble_eq_true rfl) (Nat.le_of_ble_eq_true rfl), mm_pe (me_X2_placeOfCorner hl) mwX2_placeOfCorner (mm_t4 51 rfl rfl) (Nat.le_of_ble_eq_true rfl) (Nat.le_of_ble_eq_true rfl), trivial⟩) (mm_xe0 _)

