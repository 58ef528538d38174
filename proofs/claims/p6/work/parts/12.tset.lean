/-! the class's town: sets of streets -/
theorem sh_in {a : Int} {k : Nat} (h : 0 ≤ a ∧ a < 2147483648) : InI (a / 2 ^ k) := by
  have hp : (0 : Int) < 2 ^ k := Int.pow_pos (by decide)
  have h1 := Int.ediv_nonneg h.1 (Int.le_of_lt hp)
  have h2 := Int.ediv_le_self (2 ^ k) h.1
  exact ⟨by omega, by omega⟩
def sp_X1_isIn : mm_S := fun av M d Q => match av with
  | [.inl a, .inl s] =>  (0 ≤ a ∧ a < 2147483648) ∧ (0 ≤ s ∧ s < 31) ∧ ∀ r, (bt a s.toNat = 1 → r = 1) ∧ (bt a s.toNat = 0 → r = 0) → Q (.inl (some (mm_I r))) M d
  | _ => False
def ct_X1_isIn : List (Nat × mm_Ca) := []
abbrev rr_X1_isIn (Q : mm_Q) := mm_run (mm_look flX1) (mm_look ct_X1_isIn) mm_x0 (mm_look ([] : List (Nat × Int))) (fun _ => none) 2 0 (fun _ _ => none) Q kdX1_isIn
set_option maxRecDepth 20000 in
theorem rn_X1_isIn : mm_RN flX1 ct_X1_isIn mm_x0 [] 2 0 2 kdX1_isIn sp_X1_isIn := by
  intro av M d Q h
  unfold sp_X1_isIn at h
  split at h
  · rename_i a s
    obtain ⟨ha, hs, hq⟩ := h
    have hi : InI (a / 2 ^ s.toNat) := sh_in ha
    refine ⟨Nat.le_of_ble_eq_true rfl, mm_run_at (stop := []) (S := mm_F0) kkX1_isIn 80 ?_ mm_F0h⟩
    simp only [mm_wp, mm_op, mm_nxt, mm_jmp, mm_at, mm_in, mm_nth, mm_set, mm_ok, mm_isL, mm_ret, mm_isRet, mm_bool, mm_call, mm_push, mm_rv, mm_cats, mm_cat, mm_look, mm_ft, mm_fv, mm_pf, mm_thr, mm_ent, mm_pad, mm_fl, beq_self_eq_true, cond_true, cond_false, Nat.reduceBEq, Nat.reduceEqDiff, List.drop_succ_cons, List.drop_zero, List.take_succ_cons, List.take_zero, List.reverse_cons, List.reverse_nil, List.nil_append, List.cons_append, List.length_cons, List.length_nil, Nat.reduceAdd, Nat.reduceSub, Nat.reduceLeDiff, Bool.not_false, Bool.and_true, Bool.true_and, Nat.zero_add, true_and, and_true, Nat.le_refl, true_or, or_true, reduceCtorEq, Nat.add_zero, Nat.reduceLT, Bool.and_self, Bool.not_true, Fin.isValue, Nat.reduceLeDiff, List.take_nil, List.drop_nil, mm_i1, mm_i2, mm_i3, mm_i4, mm_i5, mm_i6, mm_i7, mm_i16, mm_i17, mm_i18, mm_i19, mm_i20, mm_i21, mm_i22, mm_i23, mm_l3, mm_l4, mm_l5, mm_l6, mm_l7, mm_l18, mm_l19, mm_l20, mm_l21, mm_l22, kdX1_isIn, ct_X1_isIn, flX1, mm_and1 hi]
    have hb := bt_01 a s.toNat
    rw [show a / 2 ^ s.toNat % 2 = bt a s.toNat from rfl]
    repeat' (first | assumption | apply And.intro | (intro _) | apply hq)
    all_goals (try simp only [InI] at *)
    all_goals first | omega | ((repeat' split) <;> omega)
  · exact h.elim
theorem me_X1_isIn {l : Launch} (hl : l.stackTraces = false) : mm_Met l yX1_isIn cX1_isIn 2 (some .boolean) [] 6 100 0 sp_X1_isIn := mm_mt hl rn_X1_isIn ⟨by decide, rfl⟩ kkX1_isIn rfl ⟨by decide, by decide⟩ flkX1 (fun _ h => nomatch h) (trivial) (mm_xe0 _)
def sp_X1_countWays : mm_S := fun av M d Q => match av with
  | [.inr (.inr (.inl o)), .inl S] =>  o = 2 ∧ tW M ∧ (0 ≤ S ∧ S < 1073741824) ∧ ∀ M', fr [5, 6] M M' ∧ (∀ c : Nat, c < 10 → M' 5 c = oc (M 3) S c (M 2 4).toNat ∧ M' 6 c = oc (M 4) S c (M 2 4).toNat) → Q (.inl none) M' d
  | _ => False
def ct_X1_countWays : List (Nat × mm_Ca) := []
abbrev rr_X1_countWays (Q : mm_Q) := mm_run (mm_look flX1) (mm_look ct_X1_countWays) mm_x0 (mm_look ([] : List (Nat × Int))) (fun _ => none) 0 0 (fun _ _ => none) Q kdX1_countWays
set_option maxRecDepth 20000 in
theorem lp2_X1_countWays {M0 : mm_M} {d : List Nat} {Q : mm_Q} {S : Int} {n : Nat} (ht : tW M0) (hS : 0 ≤ S ∧ S < 1073741824) (hn : M0 2 4 = n) (hq : ∀ M', fr [5, 6] M0 M' ∧ (∀ c : Nat, c < 10 → M' 5 c = oc (M0 3) S c n ∧ M' 6 c = oc (M0 4) S c n) → Q (.inl none) M' d) : ∀ (k i : Nat) (M : mm_M) (x3 : Option mm_V), i + k = n → fr [5, 6] M0 M → (∀ c : Nat, c < 10 → M 5 c = oc (M0 3) S c i ∧ M 6 c = oc (M0 4) S c i) → rr_X1_countWays Q 30 [some (mm_R 2), some (mm_I S), some (mm_I i), x3] [] M d 0 := by
  obtain ⟨t1, t2, t3, t4, t5⟩ := id ht
  intro k
  induction k with
  | zero =>
    intro i M x3 hi hf h1
    refine mm_run_at (stop := [30]) (S := rr_X1_countWays Q) kkX1_countWays 60 ?_ (fun _ _ _ _ _ _ _ h => h)
    simp only [mm_wp, mm_op, mm_nxt, mm_jmp, mm_at, mm_in, mm_nth, mm_set, mm_ok, mm_isL, mm_ret, mm_isRet, mm_bool, mm_call, mm_push, mm_rv, mm_cats, mm_cat, mm_look, mm_ft, mm_fv, mm_pf, mm_thr, mm_ent, mm_pad, mm_fl, beq_self_eq_true, cond_true, cond_false, Nat.reduceBEq, Nat.reduceEqDiff, List.drop_succ_cons, List.drop_zero, List.take_succ_cons, List.take_zero, List.reverse_cons, List.reverse_nil, List.nil_append, List.cons_append, List.length_cons, List.length_nil, Nat.reduceAdd, Nat.reduceSub, Nat.reduceLeDiff, Bool.not_false, Bool.and_true, Bool.true_and, Nat.zero_add, true_and, and_true, Nat.le_refl, true_or, or_true, reduceCtorEq, Nat.add_zero, Nat.reduceLT, Bool.and_self, Bool.not_true, Fin.isValue, Nat.reduceLeDiff, List.take_nil, List.drop_nil, mm_i1, mm_i2, mm_i3, mm_i4, mm_i5, mm_i6, mm_i7, mm_i16, mm_i17, mm_i18, mm_i19, mm_i20, mm_i21, mm_i22, mm_i23, mm_l3, mm_l4, mm_l5, mm_l6, mm_l7, mm_l18, mm_l19, mm_l20, mm_l21, mm_l22, kdX1_countWays, ct_X1_countWays, flX1]
    have e4 : M 2 4 = n := by rw [hf 2 (by simp)]; exact hn
    rw [e4]
    have e : i = n := by omega
    subst e
    exact ⟨⟨by omega, by omega⟩, ⟨by omega, by omega⟩, fun _ => hq M ⟨hf, h1⟩, fun h => by omega⟩
  | succ k ih =>
    intro i M x3 hi hf h1
    have hi2 : InI (S / 2 ^ (i : Int).toNat) := sh_in ⟨hS.1, by omega⟩
    refine mm_run_at (stop := [30]) (S := rr_X1_countWays Q) kkX1_countWays 60 ?_ (fun _ _ _ _ _ _ _ h => h)
    simp only [mm_wp, mm_op, mm_nxt, mm_jmp, mm_at, mm_in, mm_nth, mm_set, mm_ok, mm_isL, mm_ret, mm_isRet, mm_bool, mm_call, mm_push, mm_rv, mm_cats, mm_cat, mm_look, mm_ft, mm_fv, mm_pf, mm_thr, mm_ent, mm_pad, mm_fl, beq_self_eq_true, cond_true, cond_false, Nat.reduceBEq, Nat.reduceEqDiff, List.drop_succ_cons, List.drop_zero, List.take_succ_cons, List.take_zero, List.reverse_cons, List.reverse_nil, List.nil_append, List.cons_append, List.length_cons, List.length_nil, Nat.reduceAdd, Nat.reduceSub, Nat.reduceLeDiff, Bool.not_false, Bool.and_true, Bool.true_and, Nat.zero_add, true_and, and_true, Nat.le_refl, true_or, or_true, reduceCtorEq, Nat.add_zero, Nat.reduceLT, Bool.and_self, Bool.not_true, Fin.isValue, Nat.reduceLeDiff, List.take_nil, List.drop_nil, mm_i1, mm_i2, mm_i3, mm_i4, mm_i5, mm_i6, mm_i7, mm_i16, mm_i17, mm_i18, mm_i19, mm_i20, mm_i21, mm_i22, mm_i23, mm_l3, mm_l4, mm_l5, mm_l6, mm_l7, mm_l18, mm_l19, mm_l20, mm_l21, mm_l22, kdX1_countWays, ct_X1_countWays, flX1, mm_and1 hi2]
    have e2 : M 2 = M0 2 := hf 2 (by simp)
    have e3 : M 3 = M0 3 := hf 3 (by simp)
    have e4 : M 4 = M0 4 := hf 4 (by simp)
    have e6 : ∀ k v, mm_up M 5 k v 4 = M 4 := fun k v => by funext j; simp [mm_up]
    have e7 : ∀ k v, mm_up M 5 k v 6 = M 6 := fun k v => by funext j; simp [mm_up]
    simp only [e6, e7, e2, e3, e4, hn, Int.toNat_natCast]
    have b1 := t2 i (by omega)
    rw [show S / 2 ^ i % 2 = bt S i from rfl]
    have hb := bt_01 S i
    refine ⟨⟨by omega, by omega⟩, ⟨by omega, by omega⟩, fun h => by omega, fun _ => ⟨⟨by omega, by omega⟩, by omega, by omega, by omega, by omega, by omega, by omega, by omega, ?_⟩⟩
    refine ih (i + 1) _ _ (by omega) ((hf.up (by simp)).up (by simp)) (fun c hc => ?_)
    have h2 := h1 c hc
    have h3 := h1 (M0 3 i).toNat (by omega)
    have h4 := h1 (M0 4 i).toNat (by omega)
    constructor
    · simp only [mm_up, oc]
      by_cases e : M0 3 i = c
      · have e' : c = (M0 3 i).toNat := by omega
        rw [if_pos e]
        simp [e', h3.1]
      · have e' : ¬ c = (M0 3 i).toNat := by omega
        rw [if_neg e]
        simp [e', h2.1]
    · simp only [mm_up, oc]
      by_cases e : M0 4 i = c
      · have e' : c = (M0 4 i).toNat := by omega
        rw [if_pos e]
        simp [e', h4.2]
      · have e' : ¬ c = (M0 4 i).toNat := by omega
        rw [if_neg e]
        simp [e', h2.2]
set_option maxRecDepth 20000 in
theorem lp_X1_countWays {M0 : mm_M} {d : List Nat} {Q : mm_Q} {S : Int} {n : Nat} (ht : tW M0) (hS : 0 ≤ S ∧ S < 1073741824) (hn : M0 2 4 = n) (hq : ∀ M', fr [5, 6] M0 M' ∧ (∀ c : Nat, c < 10 → M' 5 c = oc (M0 3) S c n ∧ M' 6 c = oc (M0 4) S c n) → Q (.inl none) M' d) : ∀ (k i : Nat) (M : mm_M), i + k = 10 → fr [5, 6] M0 M → (∀ c : Nat, c < i → M 5 c = 0 ∧ M 6 c = 0) → rr_X1_countWays Q 2 [some (mm_R 2), some (mm_I S), some (mm_I i), none] [] M d 0 := by
  intro k
  induction k with
  | zero =>
    intro i M hi hf h1
    refine mm_run_at (stop := [2, 30]) (S := rr_X1_countWays Q) kkX1_countWays 60 ?_ (fun _ _ _ _ _ _ _ h => h)
    simp only [mm_wp, mm_op, mm_nxt, mm_jmp, mm_at, mm_in, mm_nth, mm_set, mm_ok, mm_isL, mm_ret, mm_isRet, mm_bool, mm_call, mm_push, mm_rv, mm_cats, mm_cat, mm_look, mm_ft, mm_fv, mm_pf, mm_thr, mm_ent, mm_pad, mm_fl, beq_self_eq_true, cond_true, cond_false, Nat.reduceBEq, Nat.reduceEqDiff, List.drop_succ_cons, List.drop_zero, List.take_succ_cons, List.take_zero, List.reverse_cons, List.reverse_nil, List.nil_append, List.cons_append, List.length_cons, List.length_nil, Nat.reduceAdd, Nat.reduceSub, Nat.reduceLeDiff, Bool.not_false, Bool.and_true, Bool.true_and, Nat.zero_add, true_and, and_true, Nat.le_refl, true_or, or_true, reduceCtorEq, Nat.add_zero, Nat.reduceLT, Bool.and_self, Bool.not_true, Fin.isValue, Nat.reduceLeDiff, List.take_nil, List.drop_nil, mm_i1, mm_i2, mm_i3, mm_i4, mm_i5, mm_i6, mm_i7, mm_i16, mm_i17, mm_i18, mm_i19, mm_i20, mm_i21, mm_i22, mm_i23, mm_l3, mm_l4, mm_l5, mm_l6, mm_l7, mm_l18, mm_l19, mm_l20, mm_l21, mm_l22, kdX1_countWays, ct_X1_countWays, flX1]
    refine ⟨by omega, ⟨by omega, by omega⟩, ⟨by omega, by omega⟩, fun _ => ?_, fun h => by omega⟩
    exact lp2_X1_countWays ht hS hn hq n 0 M none (by omega) hf (fun c hc => by simpa [oc] using h1 c (by omega))
  | succ k ih =>
    intro i M hi hf h1
    refine mm_run_at (stop := [2, 30]) (S := rr_X1_countWays Q) kkX1_countWays 60 ?_ (fun _ _ _ _ _ _ _ h => h)
    simp only [mm_wp, mm_op, mm_nxt, mm_jmp, mm_at, mm_in, mm_nth, mm_set, mm_ok, mm_isL, mm_ret, mm_isRet, mm_bool, mm_call, mm_push, mm_rv, mm_cats, mm_cat, mm_look, mm_ft, mm_fv, mm_pf, mm_thr, mm_ent, mm_pad, mm_fl, beq_self_eq_true, cond_true, cond_false, Nat.reduceBEq, Nat.reduceEqDiff, List.drop_succ_cons, List.drop_zero, List.take_succ_cons, List.take_zero, List.reverse_cons, List.reverse_nil, List.nil_append, List.cons_append, List.length_cons, List.length_nil, Nat.reduceAdd, Nat.reduceSub, Nat.reduceLeDiff, Bool.not_false, Bool.and_true, Bool.true_and, Nat.zero_add, true_and, and_true, Nat.le_refl, true_or, or_true, reduceCtorEq, Nat.add_zero, Nat.reduceLT, Bool.and_self, Bool.not_true, Fin.isValue, Nat.reduceLeDiff, List.take_nil, List.drop_nil, mm_i1, mm_i2, mm_i3, mm_i4, mm_i5, mm_i6, mm_i7, mm_i16, mm_i17, mm_i18, mm_i19, mm_i20, mm_i21, mm_i22, mm_i23, mm_l3, mm_l4, mm_l5, mm_l6, mm_l7, mm_l18, mm_l19, mm_l20, mm_l21, mm_l22, kdX1_countWays, ct_X1_countWays, flX1]
    simp only [Int.toNat_natCast]
    refine ⟨by omega, ⟨by omega, by omega⟩, ⟨by omega, by omega⟩, fun h => by omega, fun _ => ⟨by omega, by omega, ?_⟩⟩
    refine ih (i + 1) _ (by omega) ((hf.up (by simp)).up (by simp)) (fun c hc => ?_)
    by_cases e : c = i
    · simp [mm_up, e]
    · have := h1 c (by omega)
      simp [mm_up, e, this]
set_option maxRecDepth 20000 in
theorem rn_X1_countWays : mm_RN flX1 ct_X1_countWays mm_x0 [] 0 0 4 kdX1_countWays sp_X1_countWays := by
  intro av M d Q h
  unfold sp_X1_countWays at h
  split at h
  · rename_i o S
    obtain ⟨rfl, ht, hS, hq⟩ := h
    have h1 := ht.1
    obtain ⟨n, hn⟩ := Int.eq_ofNat_of_zero_le h1.1
    refine ⟨Nat.le_of_ble_eq_true rfl, mm_run_at (stop := [2]) (S := rr_X1_countWays Q) kkX1_countWays 80 ?_ (fun _ _ _ _ _ _ _ h => h)⟩
    simp only [mm_wp, mm_op, mm_nxt, mm_jmp, mm_at, mm_in, mm_nth, mm_set, mm_ok, mm_isL, mm_ret, mm_isRet, mm_bool, mm_call, mm_push, mm_rv, mm_cats, mm_cat, mm_look, mm_ft, mm_fv, mm_pf, mm_thr, mm_ent, mm_pad, mm_fl, beq_self_eq_true, cond_true, cond_false, Nat.reduceBEq, Nat.reduceEqDiff, List.drop_succ_cons, List.drop_zero, List.take_succ_cons, List.take_zero, List.reverse_cons, List.reverse_nil, List.nil_append, List.cons_append, List.length_cons, List.length_nil, Nat.reduceAdd, Nat.reduceSub, Nat.reduceLeDiff, Bool.not_false, Bool.and_true, Bool.true_and, Nat.zero_add, true_and, and_true, Nat.le_refl, true_or, or_true, reduceCtorEq, Nat.add_zero, Nat.reduceLT, Bool.and_self, Bool.not_true, Fin.isValue, Nat.reduceLeDiff, List.take_nil, List.drop_nil, mm_i1, mm_i2, mm_i3, mm_i4, mm_i5, mm_i6, mm_i7, mm_i16, mm_i17, mm_i18, mm_i19, mm_i20, mm_i21, mm_i22, mm_i23, mm_l3, mm_l4, mm_l5, mm_l6, mm_l7, mm_l18, mm_l19, mm_l20, mm_l21, mm_l22, kdX1_countWays, ct_X1_countWays, flX1]
    exact lp_X1_countWays ht hS hn (fun M' h => hq M' (by rw [hn]; exact h)) 10 0 M (by omega) fr.rf (fun c hc => by omega)
  · exact h.elim
theorem me_X1_countWays {l : Launch} (hl : l.stackTraces = false) : mm_Met l yX1_countWays cX1_countWays 4 none [] 6 100 0 sp_X1_countWays := mm_mt hl rn_X1_countWays ⟨by decide, rfl⟩ kkX1_countWays rfl ⟨by decide, by decide⟩ flkX1 (fun _ h => nomatch h) (trivial) (mm_xe0 _)
def sp_X1_outOf : mm_S := fun av M d Q => match av with
  | [.inr (.inr (.inl o)), .inl c] =>  o = 2 ∧ tW M ∧ (0 ≤ c ∧ c < 10) ∧ ∀ M' r, fr [5, 6] M M' ∧ r = oc (M 3) (2 ^ (M 2 4).toNat - 1) c (M 2 4).toNat ∧ 0 ≤ r ∧ r ≤ 30 → Q (.inl (some (mm_I r))) M' d
  | _ => False
def ct_X1_outOf : List (Nat × mm_Ca) := [(66, (0, 1, 11, sp_X1_allStreets, 0)), (70, (0, 2, 11, sp_X1_countWays, 0)), (38, (1, 1, 0, sp_X1_isCorner, 0))]
abbrev rr_X1_outOf (Q : mm_Q) := mm_run (mm_look flX1) (mm_look ct_X1_outOf) mm_x0 (mm_look ([] : List (Nat × Int))) (fun _ => none) 1 0 (fun _ _ => none) Q kdX1_outOf
set_option maxRecDepth 20000 in
theorem rn_X1_outOf : mm_RN flX1 ct_X1_outOf mm_x0 [] 1 0 2 kdX1_outOf sp_X1_outOf := by
  intro av M d Q h
  unfold sp_X1_outOf at h
  split at h
  · rename_i o c
    obtain ⟨rfl, ht, hc, hq⟩ := h
    have h1 := ht.1
    have ho := oc_le (M 3) (2 ^ (M 2 4).toNat - 1) c (M 2 4).toNat
    refine ⟨Nat.le_of_ble_eq_true rfl, mm_run_at (stop := []) (S := mm_F0) kkX1_outOf 80 ?_ mm_F0h⟩
    simp only [mm_wp, mm_op, mm_nxt, mm_jmp, mm_at, mm_in, mm_nth, mm_set, mm_ok, mm_isL, mm_ret, mm_isRet, mm_bool, mm_call, mm_push, mm_rv, mm_cats, mm_cat, mm_look, mm_ft, mm_fv, mm_pf, mm_thr, mm_ent, mm_pad, mm_fl, beq_self_eq_true, cond_true, cond_false, Nat.reduceBEq, Nat.reduceEqDiff, List.drop_succ_cons, List.drop_zero, List.take_succ_cons, List.take_zero, List.reverse_cons, List.reverse_nil, List.nil_append, List.cons_append, List.length_cons, List.length_nil, Nat.reduceAdd, Nat.reduceSub, Nat.reduceLeDiff, Bool.not_false, Bool.and_true, Bool.true_and, Nat.zero_add, true_and, and_true, Nat.le_refl, true_or, or_true, reduceCtorEq, Nat.add_zero, Nat.reduceLT, Bool.and_self, Bool.not_true, Fin.isValue, Nat.reduceLeDiff, List.take_nil, List.drop_nil, mm_i1, mm_i2, mm_i3, mm_i4, mm_i5, mm_i6, mm_i7, mm_i16, mm_i17, mm_i18, mm_i19, mm_i20, mm_i21, mm_i22, mm_i23, mm_l3, mm_l4, mm_l5, mm_l6, mm_l7, mm_l18, mm_l19, mm_l20, mm_l21, mm_l22, kdX1_outOf, ct_X1_outOf, flX1, sp_X1_allStreets, sp_X1_countWays, sp_X1_isCorner]
    refine ⟨ht, fun r hr => ⟨ht, by omega, fun M' h => ⟨⟨by omega, by omega⟩, fun r2 hr2 => ⟨⟨by omega, by omega⟩, fun _ => by omega, fun _ => ⟨by omega, ?_⟩⟩⟩⟩⟩
    have h5 := (h.2 c.toNat (by omega)).1
    rw [hr.1, show ((c.toNat : Nat) : Int) = c by omega] at h5
    exact hq M' _ ⟨h.1, h5, by omega, by omega⟩
  · exact h.elim
theorem me_X1_outOf {l : Launch} (hl : l.stackTraces = false) : mm_Met l yX1_outOf cX1_outOf 2 (some .int) [] 7 123 0 sp_X1_outOf := mm_mt hl rn_X1_outOf ⟨by decide, rfl⟩ kkX1_outOf rfl ⟨by decide, by decide⟩ flkX1 (fun _ h => nomatch h) (⟨mm_pe (me_X1_allStreets hl) mwX1_allStreets (mm_t2 24 rfl rfl) (Nat.le_of_ble_eq_true rfl) (Nat.le_of_ble_eq_true rfl), mm_pe (me_X1_countWays hl) mwX1_countWays (mm_t1 228 rfl rfl) (Nat.le_of_ble_eq_true rfl) (Nat.le_of_ble_eq_true rfl), mm_pe (me_X1_isCorner hl) mwX1_isCorner (mm_t1 236 rfl rfl) (Nat.le_of_ble_eq_true rfl) (Nat.le_of_ble_eq_true rfl), trivial⟩) (mm_xe0 _)
def sp_X1_inOf : mm_S := fun av M d Q => match av with
  | [.inr (.inr (.inl o)), .inl c] =>  o = 2 ∧ tW M ∧ (0 ≤ c ∧ c < 10) ∧ ∀ M' r, fr [5, 6] M M' ∧ r = oc (M 4) (2 ^ (M 2 4).toNat - 1) c (M 2 4).toNat ∧ 0 ≤ r ∧ r ≤ 30 → Q (.inl (some (mm_I r))) M' d
  | _ => False
def ct_X1_inOf : List (Nat × mm_Ca) := [(66, (0, 1, 11, sp_X1_allStreets, 0)), (70, (0, 2, 11, sp_X1_countWays, 0)), (38, (1, 1, 0, sp_X1_isCorner, 0))]
abbrev rr_X1_inOf (Q : mm_Q) := mm_run (mm_look flX1) (mm_look ct_X1_inOf) mm_x0 (mm_look ([] : List (Nat × Int))) (fun _ => none) 1 0 (fun _ _ => none) Q kdX1_inOf
set_option maxRecDepth 20000 in
theorem rn_X1_inOf : mm_RN flX1 ct_X1_inOf mm_x0 [] 1 0 2 kdX1_inOf sp_X1_inOf := by
  intro av M d Q h
  unfold sp_X1_inOf at h
  split at h
  · rename_i o c
    obtain ⟨rfl, ht, hc, hq⟩ := h
    have h1 := ht.1
    have ho := oc_le (M 4) (2 ^ (M 2 4).toNat - 1) c (M 2 4).toNat
    refine ⟨Nat.le_of_ble_eq_true rfl, mm_run_at (stop := []) (S := mm_F0) kkX1_inOf 80 ?_ mm_F0h⟩
    simp only [mm_wp, mm_op, mm_nxt, mm_jmp, mm_at, mm_in, mm_nth, mm_set, mm_ok, mm_isL, mm_ret, mm_isRet, mm_bool, mm_call, mm_push, mm_rv, mm_cats, mm_cat, mm_look, mm_ft, mm_fv, mm_pf, mm_thr, mm_ent, mm_pad, mm_fl, beq_self_eq_true, cond_true, cond_false, Nat.reduceBEq, Nat.reduceEqDiff, List.drop_succ_cons, List.drop_zero, List.take_succ_cons, List.take_zero, List.reverse_cons, List.reverse_nil, List.nil_append, List.cons_append, List.length_cons, List.length_nil, Nat.reduceAdd, Nat.reduceSub, Nat.reduceLeDiff, Bool.not_false, Bool.and_true, Bool.true_and, Nat.zero_add, true_and, and_true, Nat.le_refl, true_or, or_true, reduceCtorEq, Nat.add_zero, Nat.reduceLT, Bool.and_self, Bool.not_true, Fin.isValue, Nat.reduceLeDiff, List.take_nil, List.drop_nil, mm_i1, mm_i2, mm_i3, mm_i4, mm_i5, mm_i6, mm_i7, mm_i16, mm_i17, mm_i18, mm_i19, mm_i20, mm_i21, mm_i22, mm_i23, mm_l3, mm_l4, mm_l5, mm_l6, mm_l7, mm_l18, mm_l19, mm_l20, mm_l21, mm_l22, kdX1_inOf, ct_X1_inOf, flX1, sp_X1_allStreets, sp_X1_countWays, sp_X1_isCorner]
    refine ⟨ht, fun r hr => ⟨ht, by omega, fun M' h => ⟨⟨by omega, by omega⟩, fun r2 hr2 => ⟨⟨by omega, by omega⟩, fun _ => by omega, fun _ => ⟨by omega, ?_⟩⟩⟩⟩⟩
    have h5 := (h.2 c.toNat (by omega)).2
    rw [hr.1, show ((c.toNat : Nat) : Int) = c by omega] at h5
    exact hq M' _ ⟨h.1, h5, by omega, by omega⟩
  · exact h.elim
theorem me_X1_inOf {l : Launch} (hl : l.stackTraces = false) : mm_Met l yX1_inOf cX1_inOf 2 (some .int) [] 7 123 0 sp_X1_inOf := mm_mt hl rn_X1_inOf ⟨by decide, rfl⟩ kkX1_inOf rfl ⟨by decide, by decide⟩ flkX1 (fun _ h => nomatch h) (⟨mm_pe (me_X1_allStreets hl) mwX1_allStreets (mm_t2 24 rfl rfl) (Nat.le_of_ble_eq_true rfl) (Nat.le_of_ble_eq_true rfl), mm_pe (me_X1_countWays hl) mwX1_countWays (mm_t1 228 rfl rfl) (Nat.le_of_ble_eq_true rfl) (Nat.le_of_ble_eq_true rfl), mm_pe (me_X1_isCorner hl) mwX1_isCorner (mm_t1 236 rfl rfl) (Nat.le_of_ble_eq_true rfl) (Nat.le_of_ble_eq_true rfl), trivial⟩) (mm_xe0 _)
def sp_X1_isOddAsCounted : mm_S := fun av M d Q => match av with
  | [.inr (.inr (.inl o)), .inl c] =>  o = 2 ∧ tW M ∧ (0 ≤ c ∧ c < 10) ∧ (0 ≤ M 5 c.toNat ∧ M 5 c.toNat ≤ 30) ∧ (0 ≤ M 6 c.toNat ∧ M 6 c.toNat ≤ 30) ∧ ∀ r, (M 2 5 = 0 → r = (M 5 c.toNat + M 6 c.toNat) % 2) ∧ (M 2 5 ≠ 0 → M 5 c.toNat = M 6 c.toNat → r = 0) ∧ (M 2 5 ≠ 0 → M 5 c.toNat ≠ M 6 c.toNat → r = 1) → Q (.inl (some (mm_I r))) M d
  | _ => False
def ct_X1_isOddAsCounted : List (Nat × mm_Ca) := [(38, (1, 1, 0, sp_X1_isCorner, 0))]
abbrev rr_X1_isOddAsCounted (Q : mm_Q) := mm_run (mm_look flX1) (mm_look ct_X1_isOddAsCounted) mm_x0 (mm_look ([] : List (Nat × Int))) (fun _ => none) 2 0 (fun _ _ => none) Q kdX1_isOddAsCounted
set_option maxRecDepth 20000 in
theorem rn_X1_isOddAsCounted : mm_RN flX1 ct_X1_isOddAsCounted mm_x0 [] 2 0 2 kdX1_isOddAsCounted sp_X1_isOddAsCounted := by
  intro av M d Q h
  unfold sp_X1_isOddAsCounted at h
  split at h
  · rename_i o c
    obtain ⟨rfl, ht, hc, h5, h6, hq⟩ := h
    have h1 := ht.2.2.1
    refine ⟨Nat.le_of_ble_eq_true rfl, mm_run_at (stop := []) (S := mm_F0) kkX1_isOddAsCounted 80 ?_ mm_F0h⟩
    simp only [mm_wp, mm_op, mm_nxt, mm_jmp, mm_at, mm_in, mm_nth, mm_set, mm_ok, mm_isL, mm_ret, mm_isRet, mm_bool, mm_call, mm_push, mm_rv, mm_cats, mm_cat, mm_look, mm_ft, mm_fv, mm_pf, mm_thr, mm_ent, mm_pad, mm_fl, beq_self_eq_true, cond_true, cond_false, Nat.reduceBEq, Nat.reduceEqDiff, List.drop_succ_cons, List.drop_zero, List.take_succ_cons, List.take_zero, List.reverse_cons, List.reverse_nil, List.nil_append, List.cons_append, List.length_cons, List.length_nil, Nat.reduceAdd, Nat.reduceSub, Nat.reduceLeDiff, Bool.not_false, Bool.and_true, Bool.true_and, Nat.zero_add, true_and, and_true, Nat.le_refl, true_or, or_true, reduceCtorEq, Nat.add_zero, Nat.reduceLT, Bool.and_self, Bool.not_true, Fin.isValue, Nat.reduceLeDiff, List.take_nil, List.drop_nil, mm_i1, mm_i2, mm_i3, mm_i4, mm_i5, mm_i6, mm_i7, mm_i16, mm_i17, mm_i18, mm_i19, mm_i20, mm_i21, mm_i22, mm_i23, mm_l3, mm_l4, mm_l5, mm_l6, mm_l7, mm_l18, mm_l19, mm_l20, mm_l21, mm_l22, kdX1_isOddAsCounted, ct_X1_isOddAsCounted, flX1, sp_X1_isCorner]
    rw [Int.tmod_eq_emod_of_nonneg (show 0 ≤ M 5 c.toNat + M 6 c.toNat by omega)]
    repeat' (first | assumption | apply And.intro | (intro _) | apply hq)
    all_goals (try simp only [InI] at *)
    all_goals first | omega | ((repeat' split) <;> omega)
  · exact h.elim
theorem me_X1_isOddAsCounted {l : Launch} (hl : l.stackTraces = false) : mm_Met l yX1_isOddAsCounted cX1_isOddAsCounted 2 (some .boolean) [] 7 120 0 sp_X1_isOddAsCounted := mm_mt hl rn_X1_isOddAsCounted ⟨by decide, rfl⟩ kkX1_isOddAsCounted rfl ⟨by decide, by decide⟩ flkX1 (fun _ h => nomatch h) (⟨mm_pe (me_X1_isCorner hl) mwX1_isCorner (mm_t1 236 rfl rfl) (Nat.le_of_ble_eq_true rfl) (Nat.le_of_ble_eq_true rfl), trivial⟩) (mm_xe0 _)
def sp_X1_oddCount : mm_S := fun av M d Q => match av with
  | [.inr (.inr (.inl o)), .inl S] =>  o = 2 ∧ tW M ∧ (0 ≤ S ∧ S < 1073741824) ∧ ∀ M' r, fr [5, 6] M M' ∧ (∀ c : Nat, c < 10 → M' 5 c = oc (M 3) S c (M 2 4).toNat ∧ M' 6 c = oc (M 4) S c (M 2 4).toNat) ∧ r = odn (M 3) (M 4) (M 2 4).toNat (M 2 5) S 10 ∧ 0 ≤ r ∧ r ≤ 10 → Q (.inl (some (mm_I r))) M' d
  | _ => False
def ct_X1_oddCount : List (Nat × mm_Ca) := [(70, (0, 2, 11, sp_X1_countWays, 0)), (74, (0, 2, 11, sp_X1_isOddAsCounted, 0))]
abbrev rr_X1_oddCount (Q : mm_Q) := mm_run (mm_look flX1) (mm_look ct_X1_oddCount) mm_x0 (mm_look ([] : List (Nat × Int))) (fun _ => none) 1 0 (fun _ _ => none) Q kdX1_oddCount
set_option maxRecDepth 20000 in
theorem lp_X1_oddCount {M : mm_M} {d : List Nat} {Q : mm_Q} {S : Int} {F T : Nat → Int} {n : Nat} (ht : tW M) (hn : n ≤ 30) (hM : ∀ c : Nat, c < 10 → M 5 c = oc F S c n ∧ M 6 c = oc T S c n) (hq : 0 ≤ odn F T n (M 2 5) S 10 ∧ odn F T n (M 2 5) S 10 ≤ 10 → Q (.inl (some (mm_I (odn F T n (M 2 5) S 10)))) M d) : ∀ (k i : Nat), i + k = 10 → (0 ≤ odn F T n (M 2 5) S i ∧ odn F T n (M 2 5) S i ≤ i) → rr_X1_oddCount Q 9 [some (mm_R 2), some (mm_I S), some (mm_I (odn F T n (M 2 5) S i)), some (mm_I i)] [] M d 0 := by
  intro k
  induction k with
  | zero =>
    intro i hi hb
    refine mm_run_at (stop := [9]) (S := rr_X1_oddCount Q) kkX1_oddCount 60 ?_ (fun _ _ _ _ _ _ _ h => h)
    simp only [mm_wp, mm_op, mm_nxt, mm_jmp, mm_at, mm_in, mm_nth, mm_set, mm_ok, mm_isL, mm_ret, mm_isRet, mm_bool, mm_call, mm_push, mm_rv, mm_cats, mm_cat, mm_look, mm_ft, mm_fv, mm_pf, mm_thr, mm_ent, mm_pad, mm_fl, beq_self_eq_true, cond_true, cond_false, Nat.reduceBEq, Nat.reduceEqDiff, List.drop_succ_cons, List.drop_zero, List.take_succ_cons, List.take_zero, List.reverse_cons, List.reverse_nil, List.nil_append, List.cons_append, List.length_cons, List.length_nil, Nat.reduceAdd, Nat.reduceSub, Nat.reduceLeDiff, Bool.not_false, Bool.and_true, Bool.true_and, Nat.zero_add, true_and, and_true, Nat.le_refl, true_or, or_true, reduceCtorEq, Nat.add_zero, Nat.reduceLT, Bool.and_self, Bool.not_true, Fin.isValue, Nat.reduceLeDiff, List.take_nil, List.drop_nil, mm_i1, mm_i2, mm_i3, mm_i4, mm_i5, mm_i6, mm_i7, mm_i16, mm_i17, mm_i18, mm_i19, mm_i20, mm_i21, mm_i22, mm_i23, mm_l3, mm_l4, mm_l5, mm_l6, mm_l7, mm_l18, mm_l19, mm_l20, mm_l21, mm_l22, kdX1_oddCount, ct_X1_oddCount, flX1, sp_X1_countWays, sp_X1_isOddAsCounted]
    have e : i = 10 := by omega
    subst e
    exact ⟨by omega, ⟨by omega, by omega⟩, ⟨by omega, by omega⟩, fun _ => hq (by omega), fun h => by omega⟩
  | succ k ih =>
    intro i hi hb
    refine mm_run_at (stop := [9]) (S := rr_X1_oddCount Q) kkX1_oddCount 60 ?_ (fun _ _ _ _ _ _ _ h => h)
    simp only [mm_wp, mm_op, mm_nxt, mm_jmp, mm_at, mm_in, mm_nth, mm_set, mm_ok, mm_isL, mm_ret, mm_isRet, mm_bool, mm_call, mm_push, mm_rv, mm_cats, mm_cat, mm_look, mm_ft, mm_fv, mm_pf, mm_thr, mm_ent, mm_pad, mm_fl, beq_self_eq_true, cond_true, cond_false, Nat.reduceBEq, Nat.reduceEqDiff, List.drop_succ_cons, List.drop_zero, List.take_succ_cons, List.take_zero, List.reverse_cons, List.reverse_nil, List.nil_append, List.cons_append, List.length_cons, List.length_nil, Nat.reduceAdd, Nat.reduceSub, Nat.reduceLeDiff, Bool.not_false, Bool.and_true, Bool.true_and, Nat.zero_add, true_and, and_true, Nat.le_refl, true_or, or_true, reduceCtorEq, Nat.add_zero, Nat.reduceLT, Bool.and_self, Bool.not_true, Fin.isValue, Nat.reduceLeDiff, List.take_nil, List.drop_nil, mm_i1, mm_i2, mm_i3, mm_i4, mm_i5, mm_i6, mm_i7, mm_i16, mm_i17, mm_i18, mm_i19, mm_i20, mm_i21, mm_i22, mm_i23, mm_l3, mm_l4, mm_l5, mm_l6, mm_l7, mm_l18, mm_l19, mm_l20, mm_l21, mm_l22, kdX1_oddCount, ct_X1_oddCount, flX1, sp_X1_countWays, sp_X1_isOddAsCounted]
    have h1 := hM i (by omega)
    have h2 := oc_le F S i n
    have h3 := oc_le T S i n
    have h4 := ht.2.2.1
    have e : odn F T n (M 2 5) S (i + 1) = odn F T n (M 2 5) S i + (if M 2 5 = 0 then (oc F S i n + oc T S i n) % 2 else if oc F S i n = oc T S i n then 0 else 1) := rfl
    simp only [Int.toNat_natCast]
    refine ⟨by omega, ⟨by omega, by omega⟩, ⟨by omega, by omega⟩, fun h => by omega, fun _ => ⟨ht, by omega, by omega, by omega, fun r hr => ⟨?_, fun h0 => ?_, fun h0 => ?_⟩⟩⟩
    · rw [h1.1, h1.2] at hr
      constructor <;> omega
    · have e2 : odn F T n (M 2 5) S (i + 1) = odn F T n (M 2 5) S i := by
        rw [e]
        rw [h1.1, h1.2] at hr
        split
        · omega
        · split <;> omega
      rw [← e2]
      exact ih (i + 1) (by omega) (by omega)
    · have e2 : odn F T n (M 2 5) S (i + 1) = odn F T n (M 2 5) S i + 1 := by
        rw [e]
        rw [h1.1, h1.2] at hr
        split
        · omega
        · split <;> omega
      rw [← e2]
      exact ih (i + 1) (by omega) (by omega)
set_option maxRecDepth 20000 in
theorem rn_X1_oddCount : mm_RN flX1 ct_X1_oddCount mm_x0 [] 1 0 4 kdX1_oddCount sp_X1_oddCount := by
  intro av M d Q h
  unfold sp_X1_oddCount at h
  split at h
  · rename_i o S
    obtain ⟨rfl, ht, hS, hq⟩ := h
    have h1 := ht.1
    refine ⟨Nat.le_of_ble_eq_true rfl, mm_run_at (stop := [9]) (S := rr_X1_oddCount Q) kkX1_oddCount 80 ?_ (fun _ _ _ _ _ _ _ h => h)⟩
    simp only [mm_wp, mm_op, mm_nxt, mm_jmp, mm_at, mm_in, mm_nth, mm_set, mm_ok, mm_isL, mm_ret, mm_isRet, mm_bool, mm_call, mm_push, mm_rv, mm_cats, mm_cat, mm_look, mm_ft, mm_fv, mm_pf, mm_thr, mm_ent, mm_pad, mm_fl, beq_self_eq_true, cond_true, cond_false, Nat.reduceBEq, Nat.reduceEqDiff, List.drop_succ_cons, List.drop_zero, List.take_succ_cons, List.take_zero, List.reverse_cons, List.reverse_nil, List.nil_append, List.cons_append, List.length_cons, List.length_nil, Nat.reduceAdd, Nat.reduceSub, Nat.reduceLeDiff, Bool.not_false, Bool.and_true, Bool.true_and, Nat.zero_add, true_and, and_true, Nat.le_refl, true_or, or_true, reduceCtorEq, Nat.add_zero, Nat.reduceLT, Bool.and_self, Bool.not_true, Fin.isValue, Nat.reduceLeDiff, List.take_nil, List.drop_nil, mm_i1, mm_i2, mm_i3, mm_i4, mm_i5, mm_i6, mm_i7, mm_i16, mm_i17, mm_i18, mm_i19, mm_i20, mm_i21, mm_i22, mm_i23, mm_l3, mm_l4, mm_l5, mm_l6, mm_l7, mm_l18, mm_l19, mm_l20, mm_l21, mm_l22, kdX1_oddCount, ct_X1_oddCount, flX1, sp_X1_countWays, sp_X1_isOddAsCounted]
    refine ⟨ht, hS, fun M' h => ?_⟩
    have e2 : M' 2 = M 2 := h.1 2 (by simp)
    have h3 := lp_X1_oddCount (M := M') (d := d) (Q := Q) (S := S) (F := M 3) (T := M 4) (n := (M 2 4).toNat) (ht.fr h.1 (by simp) (by simp) (by simp)) (by omega) h.2 (fun hb => hq M' _ ⟨h.1, h.2, by rw [e2], hb⟩) 10 0 (by omega) (by simp [odn])
    exact h3
  · exact h.elim
theorem me_X1_oddCount {l : Launch} (hl : l.stackTraces = false) : mm_Met l yX1_oddCount cX1_oddCount 4 (some .int) [] 8 141 0 sp_X1_oddCount := mm_mt hl rn_X1_oddCount ⟨by decide, rfl⟩ kkX1_oddCount rfl ⟨by decide, by decide⟩ flkX1 (fun _ h => nomatch h) (⟨mm_pe (me_X1_countWays hl) mwX1_countWays (mm_t1 228 rfl rfl) (Nat.le_of_ble_eq_true rfl) (Nat.le_of_ble_eq_true rfl), mm_pe (me_X1_isOddAsCounted hl) mwX1_isOddAsCounted (mm_t1 232 rfl rfl) (Nat.le_of_ble_eq_true rfl) (Nat.le_of_ble_eq_true rfl), trivial⟩) (mm_xe0 _)

