/-! the class: the town's calls -/
theorem wA.t {M M' : mm_M} (h : wA M) (ht : tW M') (hf : fr [2, 3, 4, 5, 6] M M') (hn : M 2 4 ≤ M' 2 4) : cP M M' := by
  refine ⟨⟨ht, fun w hw => ?_, h.2.2.to (hf 16 (by simp)) (fun h1 h2 => ?_)⟩, cF.of hf (by simp), by rw [hf 1 (by simp)]⟩
  · have := isK_le hw.k
    obtain ⟨⟨v1, v2, v3⟩, d⟩ := h.2.1 w hw
    have e1 := hf w (by simp; omega)
    have e2 := hf (w + 1) (by simp; omega)
    refine ⟨?_, d.to e1 e2⟩
    unfold wV
    rw [e1, e2]
    exact ⟨v1, v2, fun i hi => by have := v3 i hi; omega⟩
  · have := isK_le ((h.2.2.1.resolve_left h1).k)
    rw [hf _ (by simp; omega)]
    exact Int.le_refl _
theorem wA.s {M M' : mm_M} (h : wA M) (hf : fr [5, 6] M M') : cP M M' := h.t (h.1.fr hf (by simp) (by simp) (by simp)) (hf.mono (by simp)) (by rw [hf 2 (by simp)]; exact Int.le_refl _)
/-- the town's counts of words are others -/
theorem tW.q {M : mm_M} (h : tW M) : tW (mm_up (mm_up M 2 6 0) 2 7 0) := by
  obtain ⟨a, b, c, e, f⟩ := h
  exact ⟨by simpa [mm_up] using a, by simpa [mm_up] using b, by simpa [mm_up] using c, by simp [mm_up], by simp [mm_up]⟩
def sp_X3_lay : mm_S := fun av M d Q => match av with
  | [.inr (.inr (.inl o)), .inl a, .inl b] =>  o = 1 ∧ wA M ∧ InI a ∧ InI b ∧ (∀ M' r, cP M M' ∧ InI r ∧ C_lay a b M M' 0 r → Q (.inl (some (mm_I r))) M' d) ∧ (∀ k, k = 0 ∧ C_lay a b M M 1 0 → Q (.inr k) M d)
  | _ => False
def ct_X3_lay : List (Nat × mm_Ca) := [(36, (0, 2, 10, sp_X3_checkCorner, 1)), (40, (0, 2, 11, sp_X1_hasRoomFor, 0)), (44, (0, 2, 10, sp_X3_counted, 0)), (48, (0, 1, 11, sp_X1_endWords, 0)), (51, (0, 3, 11, sp_X1_addStreet, 0)), (55, (0, 1, 11, sp_X1_size, 0))]
abbrev rr_X3_lay (Q : mm_Q) := mm_run (mm_look flX3) (mm_look ct_X3_lay) mm_x0 (mm_look ([] : List (Nat × Int))) (fun _ => none) 1 2 (fun _ _ => none) Q kdX3_lay
set_option maxRecDepth 20000 in
theorem rn_X3_lay : mm_RN flX3 ct_X3_lay mm_x0 [] 1 2 3 kdX3_lay sp_X3_lay := by
  intro av M d Q h
  unfold sp_X3_lay at h
  split at h
  · rename_i o a b
    obtain ⟨rfl, ha, h1, h2, hq, hx⟩ := h
    have ht := ha.1
    have t1 := ht.1
    have hn9 : InI (-9 : Int) := ⟨by omega, by omega⟩
    refine ⟨Nat.le_of_ble_eq_true rfl, mm_run_at (stop := []) (S := mm_F0) kkX3_lay 80 ?_ mm_F0h⟩
    simp only [mm_wp, mm_op, mm_nxt, mm_jmp, mm_at, mm_in, mm_nth, mm_set, mm_ok, mm_isL, mm_ret, mm_isRet, mm_bool, mm_call, mm_push, mm_rv, mm_cats, mm_cat, mm_look, mm_ft, mm_fv, mm_pf, mm_thr, mm_ent, mm_pad, mm_fl, beq_self_eq_true, cond_true, cond_false, Nat.reduceBEq, Nat.reduceEqDiff, List.drop_succ_cons, List.drop_zero, List.take_succ_cons, List.take_zero, List.reverse_cons, List.reverse_nil, List.nil_append, List.cons_append, List.length_cons, List.length_nil, Nat.reduceAdd, Nat.reduceSub, Nat.reduceLeDiff, Bool.not_false, Bool.and_true, Bool.true_and, Nat.zero_add, true_and, and_true, Nat.le_refl, true_or, or_true, reduceCtorEq, Nat.add_zero, Nat.reduceLT, Bool.and_self, Bool.not_true, Fin.isValue, Nat.reduceLeDiff, List.take_nil, List.drop_nil, mm_i1, mm_i2, mm_i3, mm_i4, mm_i5, mm_i6, mm_i7, mm_i16, mm_i17, mm_i18, mm_i19, mm_i20, mm_i21, mm_i22, mm_i23, mm_l3, mm_l4, mm_l5, mm_l6, mm_l7, mm_l18, mm_l19, mm_l20, mm_l21, mm_l22, kdX3_lay, ct_X3_lay, flX3, sp_X3_checkCorner, sp_X1_hasRoomFor, sp_X3_counted, sp_X1_endWords, sp_X1_addStreet, sp_X1_size]
    refine ⟨h1, fun c1 => ⟨h2, fun c2 => ⟨ht, by omega, fun r hr => ⟨inI2 (P := M 2 4 + 1 ≤ 30) ⟨hr.1, fun h => hr.2 (by omega)⟩, fun h3 => ?_, fun h3 => ⟨by omega, ha, hn9, fun M' h4 => hq M' _ ⟨h4.1, hn9, ok1.y ⟨c1, c2⟩ (no9.n (fun h => by have := hr.1 (by omega); omega) h4.2)⟩⟩⟩⟩, fun h => hx _ ⟨rfl, ok1.n (fun h2 => h h2.2)⟩⟩, fun h => hx _ ⟨rfl, ok1.n (fun h2 => h h2.1)⟩⟩
    have hlt : M 2 4 < 30 := Classical.byContradiction fun h => h3 (hr.2 (by omega))
    have e : (mm_up (mm_up M 2 6 0) 2 7 0) 2 4 = M 2 4 := by simp [mm_up]
    obtain ⟨n, hn⟩ := Int.eq_ofNat_of_zero_le t1.1
    have hs := addS_spec (M := mm_up (mm_up M 2 6 0) 2 7 0) (n := n) ht.q (by rw [e]; exact hn) (by omega) c1 c2
    have hP := ha.t hs.1 (((fr.rf.up (o := 2) (by simp)).up (o := 2) (by simp)).tr (hs.2.1.mono (by simp))) (by rw [hs.2.2.2.1]; omega)
    have hI : InI (addS (mm_up (mm_up M 2 6 0) 2 7 0) a b 2 4 - 1) := by
      rw [hs.2.2.2.1]
      exact ⟨by omega, by omega⟩
    exact ⟨ht.q, by rw [e]; exact hlt, c1, c2, hP.1, hI, fun M' h => hq M' _ ⟨hP.tr h.1, hI, ok1.y ⟨c1, c2⟩ (no9.y hlt ⟨by show addS (mm_up (mm_up M 2 6 0) 2 7 0) a b 2 4 - 1 = M 2 4; rw [hs.2.2.2.1]; omega, SE.eq h.2⟩)⟩⟩
  · exact h.elim
theorem me_X3_lay {l : Launch} (hl : l.stackTraces = false) : mm_Met l yX3_lay cX3_lay 3 (some .int) [] 8 142 2 sp_X3_lay := mm_mt hl rn_X3_lay ⟨plX3, rfl⟩ kkX3_lay rfl ⟨Nat.le_of_ble_eq_true rfl, Nat.le_of_ble_eq_true rfl⟩ flkX3 (fun _ h => nomatch h) (⟨mm_pe (me_X3_checkCorner hl) mwX3_checkCorner (mm_t3 80 rfl rfl) (Nat.le_of_ble_eq_true rfl) (Nat.le_of_ble_eq_true rfl), mm_pe (me_X1_hasRoomFor hl) mwX1_hasRoomFor (mm_t3 86 rfl rfl) (Nat.le_of_ble_eq_true rfl) (Nat.le_of_ble_eq_true rfl), mm_pe (me_X3_counted hl) mwX3_counted (mm_t1 155 rfl rfl) (Nat.le_of_ble_eq_true rfl) (Nat.le_of_ble_eq_true rfl), mm_pe (me_X1_endWords hl) mwX1_endWords (mm_t1 207 rfl rfl) (Nat.le_of_ble_eq_true rfl) (Nat.le_of_ble_eq_true rfl), mm_pe (me_X1_addStreet hl) mwX1_addStreet (mm_t3 90 rfl rfl) (Nat.le_of_ble_eq_true rfl) (Nat.le_of_ble_eq_true rfl), mm_pe (me_X1_size hl) mwX1_size (mm_t1 131 rfl rfl) (Nat.le_of_ble_eq_true rfl) (Nat.le_of_ble_eq_true rfl), trivial⟩) (mm_xe0 _) n9X3
def sp_X3_layRing : mm_S := fun av M d Q => match av with
  | [.inr (.inr (.inl o)), .inl a, .inl b] =>  o = 1 ∧ wA M ∧ InI a ∧ InI b ∧ (∀ M' r, cP M M' ∧ InI r ∧ C_layRing a b M M' 0 r → Q (.inl (some (mm_I r))) M' d) ∧ (∀ k, k = 1 ∧ C_layRing a b M M 1 0 → Q (.inr k) M d)
  | _ => False
def ct_X3_layRing : List (Nat × mm_Ca) := [(59, (1, 3, 0, sp_X3_checkRange, 1)), (40, (0, 2, 11, sp_X1_hasRoomFor, 0)), (44, (0, 2, 10, sp_X3_counted, 0)), (48, (0, 1, 11, sp_X1_endWords, 0)), (63, (0, 3, 11, sp_X1_addRing, 0)), (55, (0, 1, 11, sp_X1_size, 0))]
abbrev rr_X3_layRing (Q : mm_Q) := mm_run (mm_look flX3) (mm_look ct_X3_layRing) mm_x0 (mm_look ([] : List (Nat × Int))) (fun _ => none) 1 2 (fun _ _ => none) Q kdX3_layRing
set_option maxRecDepth 20000 in
theorem rn_X3_layRing : mm_RN flX3 ct_X3_layRing mm_x0 [] 1 2 3 kdX3_layRing sp_X3_layRing := by
  intro av M d Q h
  unfold sp_X3_layRing at h
  split at h
  · rename_i o a b
    obtain ⟨rfl, ha, h1, h2, hq, hx⟩ := h
    have ht := ha.1
    have t1 := ht.1
    have hn9 : InI (-9 : Int) := ⟨by omega, by omega⟩
    have i0 : InI (0 : Int) := ⟨by omega, by omega⟩
    have i1 : InI (1 : Int) := ⟨by omega, by omega⟩
    have i9 : InI (9 : Int) := ⟨by omega, by omega⟩
    have i10 : InI (10 : Int) := ⟨by omega, by omega⟩
    refine ⟨Nat.le_of_ble_eq_true rfl, mm_run_at (stop := []) (S := mm_F0) kkX3_layRing 80 ?_ mm_F0h⟩
    simp only [mm_wp, mm_op, mm_nxt, mm_jmp, mm_at, mm_in, mm_nth, mm_set, mm_ok, mm_isL, mm_ret, mm_isRet, mm_bool, mm_call, mm_push, mm_rv, mm_cats, mm_cat, mm_look, mm_ft, mm_fv, mm_pf, mm_thr, mm_ent, mm_pad, mm_fl, beq_self_eq_true, cond_true, cond_false, Nat.reduceBEq, Nat.reduceEqDiff, List.drop_succ_cons, List.drop_zero, List.take_succ_cons, List.take_zero, List.reverse_cons, List.reverse_nil, List.nil_append, List.cons_append, List.length_cons, List.length_nil, Nat.reduceAdd, Nat.reduceSub, Nat.reduceLeDiff, Bool.not_false, Bool.and_true, Bool.true_and, Nat.zero_add, true_and, and_true, Nat.le_refl, true_or, or_true, reduceCtorEq, Nat.add_zero, Nat.reduceLT, Bool.and_self, Bool.not_true, Fin.isValue, Nat.reduceLeDiff, List.take_nil, List.drop_nil, mm_i1, mm_i2, mm_i3, mm_i4, mm_i5, mm_i6, mm_i7, mm_i16, mm_i17, mm_i18, mm_i19, mm_i20, mm_i21, mm_i22, mm_i23, mm_l3, mm_l4, mm_l5, mm_l6, mm_l7, mm_l18, mm_l19, mm_l20, mm_l21, mm_l22, kdX3_layRing, ct_X3_layRing, flX3, sp_X3_checkRange, sp_X1_hasRoomFor, sp_X3_counted, sp_X1_endWords, sp_X1_addRing, sp_X1_size]
    refine ⟨by omega, h1, i1, i10, fun c1 => ⟨by omega, h2, i0, i9, fun c2 => ⟨ht, by omega, fun r hr => ⟨inI2 (P := M 2 4 + a ≤ 30) ⟨hr.1, fun h => hr.2 (by omega)⟩, fun h3 => ?_, fun h3 => ⟨by omega, ha, hn9, fun M' h4 => hq M' _ ⟨h4.1, hn9, ok1.y ⟨c1, c2⟩ (no9.n (fun h => by have := hr.1 h; omega) h4.2)⟩⟩⟩⟩, fun h => hx _ ⟨rfl, ok1.n (fun h2 => h h2.2)⟩⟩, fun h => hx _ ⟨rfl, ok1.n (fun h2 => h h2.1)⟩⟩
    have hlt : M 2 4 + a ≤ 30 := Classical.byContradiction fun h => h3 (hr.2 (by omega))
    have e : (mm_up (mm_up M 2 6 0) 2 7 0) 2 4 = M 2 4 := by simp [mm_up]
    refine ⟨ht.q, c1, by omega, by rw [e]; exact hlt, fun M' hR => ?_⟩
    obtain ⟨g1, g2, g3, g4, g5⟩ := hR
    rw [e] at g4 g5
    have hP := ha.t g1 (((fr.rf.up (o := 2) (by simp)).up (o := 2) (by simp)).tr (g2.mono (by simp))) (by omega)
    have hI : InI (M' 2 4) := ⟨by omega, by omega⟩
    exact ⟨hP.1, hI, fun M2 h => hq M2 _ ⟨hP.tr h.1, hI, ok1.y ⟨c1, by omega⟩ (no9.y hlt ⟨by omega, M', ⟨g2, g3, by unfold endM; rw [e]; omega, fun i hi => g5.1 i (by unfold endM at hi; rw [e] at hi; omega), fun k hk => by unfold endM; rw [e]; exact g5.2 k (by omega)⟩, SE.eq h.2⟩)⟩⟩
  · exact h.elim
theorem me_X3_layRing {l : Launch} (hl : l.stackTraces = false) : mm_Met l yX3_layRing cX3_layRing 3 (some .int) [] 9 165 2 sp_X3_layRing := mm_mt hl rn_X3_layRing ⟨plX3, rfl⟩ kkX3_layRing rfl ⟨Nat.le_of_ble_eq_true rfl, Nat.le_of_ble_eq_true rfl⟩ flkX3 (fun _ h => nomatch h) (⟨mm_pe (me_X3_checkRange hl) mwX3_checkRange (mm_t3 102 rfl rfl) (Nat.le_of_ble_eq_true rfl) (Nat.le_of_ble_eq_true rfl), mm_pe (me_X1_hasRoomFor hl) mwX1_hasRoomFor (mm_t3 86 rfl rfl) (Nat.le_of_ble_eq_true rfl) (Nat.le_of_ble_eq_true rfl), mm_pe (me_X3_counted hl) mwX3_counted (mm_t1 155 rfl rfl) (Nat.le_of_ble_eq_true rfl) (Nat.le_of_ble_eq_true rfl), mm_pe (me_X1_endWords hl) mwX1_endWords (mm_t1 207 rfl rfl) (Nat.le_of_ble_eq_true rfl) (Nat.le_of_ble_eq_true rfl), mm_pe (me_X1_addRing hl) mwX1_addRing (mm_t3 121 rfl rfl) (Nat.le_of_ble_eq_true rfl) (Nat.le_of_ble_eq_true rfl), mm_pe (me_X1_size hl) mwX1_size (mm_t1 131 rfl rfl) (Nat.le_of_ble_eq_true rfl) (Nat.le_of_ble_eq_true rfl), trivial⟩) (mm_xe0 _) n9X3
def sp_X3_streets : mm_S := fun av M d Q => match av with
  | [.inr (.inr (.inl o))] =>  o = 1 ∧ wA M ∧ Q (.inl (some (mm_I (M 2 4)))) M d
  | _ => False
def ct_X3_streets : List (Nat × mm_Ca) := [(55, (0, 1, 11, sp_X1_size, 0))]
abbrev rr_X3_streets (Q : mm_Q) := mm_run (mm_look flX3) (mm_look ct_X3_streets) mm_x0 (mm_look ([] : List (Nat × Int))) (fun _ => none) 1 0 (fun _ _ => none) Q kdX3_streets
set_option maxRecDepth 20000 in
theorem rn_X3_streets : mm_RN flX3 ct_X3_streets mm_x0 [] 1 0 1 kdX3_streets sp_X3_streets := by
  intro av M d Q h
  unfold sp_X3_streets at h
  split at h
  · rename_i o
    obtain ⟨rfl, ha, hq⟩ := h
    refine ⟨Nat.le_of_ble_eq_true rfl, mm_run_at (stop := []) (S := mm_F0) kkX3_streets 80 ?_ mm_F0h⟩
    simp only [mm_wp, mm_op, mm_nxt, mm_jmp, mm_at, mm_in, mm_nth, mm_set, mm_ok, mm_isL, mm_ret, mm_isRet, mm_bool, mm_call, mm_push, mm_rv, mm_cats, mm_cat, mm_look, mm_ft, mm_fv, mm_pf, mm_thr, mm_ent, mm_pad, mm_fl, beq_self_eq_true, cond_true, cond_false, Nat.reduceBEq, Nat.reduceEqDiff, List.drop_succ_cons, List.drop_zero, List.take_succ_cons, List.take_zero, List.reverse_cons, List.reverse_nil, List.nil_append, List.cons_append, List.length_cons, List.length_nil, Nat.reduceAdd, Nat.reduceSub, Nat.reduceLeDiff, Bool.not_false, Bool.and_true, Bool.true_and, Nat.zero_add, true_and, and_true, Nat.le_refl, true_or, or_true, reduceCtorEq, Nat.add_zero, Nat.reduceLT, Bool.and_self, Bool.not_true, Fin.isValue, Nat.reduceLeDiff, List.take_nil, List.drop_nil, mm_i1, mm_i2, mm_i3, mm_i4, mm_i5, mm_i6, mm_i7, mm_i16, mm_i17, mm_i18, mm_i19, mm_i20, mm_i21, mm_i22, mm_i23, mm_l3, mm_l4, mm_l5, mm_l6, mm_l7, mm_l18, mm_l19, mm_l20, mm_l21, mm_l22, kdX3_streets, ct_X3_streets, flX3, sp_X1_size]
    repeat' (first | assumption | apply And.intro | (intro _) | apply hq)
    all_goals (try simp only [InI] at *)
    all_goals first | omega | ((repeat' split) <;> omega)
  · exact h.elim
theorem me_X3_streets {l : Launch} (hl : l.stackTraces = false) : mm_Met l yX3_streets cX3_streets 1 (some .int) [] 7 120 0 sp_X3_streets := mm_mt hl rn_X3_streets ⟨plX3, rfl⟩ kkX3_streets rfl ⟨Nat.le_of_ble_eq_true rfl, Nat.le_of_ble_eq_true rfl⟩ flkX3 (fun _ h => nomatch h) (⟨mm_pe (me_X1_size hl) mwX1_size (mm_t1 131 rfl rfl) (Nat.le_of_ble_eq_true rfl) (Nat.le_of_ble_eq_true rfl), trivial⟩) (mm_xe0 _) n9X3
def sp_X3_end : mm_S := fun av M d Q => match av with
  | [.inr (.inr (.inl o)), .inl a, .inl b] =>  o = 1 ∧ wA M ∧ InI a ∧ (b = 0 ∨ b = 1) ∧ (∀ r, InI r ∧ C_end a b M M 0 r → Q (.inl (some (mm_I r))) M d) ∧ (∀ k, k = 0 ∧ C_end a b M M 1 0 → Q (.inr k) M d)
  | _ => False
def ct_X3_end : List (Nat × mm_Ca) := [(76, (0, 2, 10, sp_X3_checkStreet, 1)), (105, (0, 2, 11, sp_X1_toOf, 0)), (108, (0, 2, 11, sp_X1_fromOf, 0))]
abbrev rr_X3_end (Q : mm_Q) := mm_run (mm_look flX3) (mm_look ct_X3_end) mm_x0 (mm_look ([] : List (Nat × Int))) (fun _ => none) 1 1 (fun _ _ => none) Q kdX3_end
set_option maxRecDepth 20000 in
theorem rn_X3_end : mm_RN flX3 ct_X3_end mm_x0 [] 1 1 3 kdX3_end sp_X3_end := by
  intro av M d Q h
  unfold sp_X3_end at h
  split at h
  · rename_i o a b
    obtain ⟨rfl, ha, h1, h2, hq, hx⟩ := h
    have ht := ha.1
    refine ⟨Nat.le_of_ble_eq_true rfl, mm_run_at (stop := []) (S := mm_F0) kkX3_end 80 ?_ mm_F0h⟩
    simp only [mm_wp, mm_op, mm_nxt, mm_jmp, mm_at, mm_in, mm_nth, mm_set, mm_ok, mm_isL, mm_ret, mm_isRet, mm_bool, mm_call, mm_push, mm_rv, mm_cats, mm_cat, mm_look, mm_ft, mm_fv, mm_pf, mm_thr, mm_ent, mm_pad, mm_fl, beq_self_eq_true, cond_true, cond_false, Nat.reduceBEq, Nat.reduceEqDiff, List.drop_succ_cons, List.drop_zero, List.take_succ_cons, List.take_zero, List.reverse_cons, List.reverse_nil, List.nil_append, List.cons_append, List.length_cons, List.length_nil, Nat.reduceAdd, Nat.reduceSub, Nat.reduceLeDiff, Bool.not_false, Bool.and_true, Bool.true_and, Nat.zero_add, true_and, and_true, Nat.le_refl, true_or, or_true, reduceCtorEq, Nat.add_zero, Nat.reduceLT, Bool.and_self, Bool.not_true, Fin.isValue, Nat.reduceLeDiff, List.take_nil, List.drop_nil, mm_i1, mm_i2, mm_i3, mm_i4, mm_i5, mm_i6, mm_i7, mm_i16, mm_i17, mm_i18, mm_i19, mm_i20, mm_i21, mm_i22, mm_i23, mm_l3, mm_l4, mm_l5, mm_l6, mm_l7, mm_l18, mm_l19, mm_l20, mm_l21, mm_l22, kdX3_end, ct_X3_end, flX3, sp_X3_checkStreet, sp_X1_toOf, sp_X1_fromOf]
    refine ⟨ha, h1, fun c1 => ⟨⟨by omega, by omega⟩, fun h => ⟨ht, c1, fun r hr => hq r ⟨⟨by omega, by omega⟩, ok1.y c1 ⟨?_, .rf⟩⟩⟩, fun h => ⟨ht, c1, fun r hr => hq r ⟨⟨by omega, by omega⟩, ok1.y c1 ⟨?_, .rf⟩⟩⟩⟩, fun h => hx _ ⟨rfl, ok1.n h⟩⟩
    · first | (rw [if_pos (by omega)]; exact hr.1) | (rw [if_neg (by omega)]; exact hr.1)
    · first | (rw [if_pos (by omega)]; exact hr.1) | (rw [if_neg (by omega)]; exact hr.1)
  · exact h.elim
theorem me_X3_end {l : Launch} (hl : l.stackTraces = false) : mm_Met l yX3_end cX3_end 3 (some .int) [] 8 141 1 sp_X3_end := mm_mt hl rn_X3_end ⟨plX3, rfl⟩ kkX3_end rfl ⟨Nat.le_of_ble_eq_true rfl, Nat.le_of_ble_eq_true rfl⟩ flkX3 (fun _ h => nomatch h) (⟨mm_pe (me_X3_checkStreet hl) mwX3_checkStreet (mm_t3 148 rfl rfl) (Nat.le_of_ble_eq_true rfl) (Nat.le_of_ble_eq_true rfl), mm_pe (me_X1_toOf hl) mwX1_toOf (mm_t2 190 rfl rfl) (Nat.le_of_ble_eq_true rfl) (Nat.le_of_ble_eq_true rfl), mm_pe (me_X1_fromOf hl) mwX1_fromOf (mm_t2 189 rfl rfl) (Nat.le_of_ble_eq_true rfl) (Nat.le_of_ble_eq_true rfl), trivial⟩) (mm_xe0 _) n9X3
def sp_X3_odd : mm_S := fun av M d Q => match av with
  | [.inr (.inr (.inl o))] =>  o = 1 ∧ wA M ∧ (∀ M' r, fr [5, 6] M M' ∧ (0 ≤ r ∧ r ≤ 10) ∧ C_odd M M' 0 r → Q (.inl (some (mm_I r))) M' d)
  | _ => False
def ct_X3_odd : List (Nat × mm_Ca) := [(117, (0, 1, 11, sp_X1_allStreets, 0)), (120, (0, 2, 11, sp_X1_oddCount, 0))]
abbrev rr_X3_odd (Q : mm_Q) := mm_run (mm_look flX3) (mm_look ct_X3_odd) mm_x0 (mm_look ([] : List (Nat × Int))) (fun _ => none) 1 0 (fun _ _ => none) Q kdX3_odd
set_option maxRecDepth 20000 in
theorem rn_X3_odd : mm_RN flX3 ct_X3_odd mm_x0 [] 1 0 1 kdX3_odd sp_X3_odd := by
  intro av M d Q h
  unfold sp_X3_odd at h
  split at h
  · rename_i o
    obtain ⟨rfl, ha, hq⟩ := h
    have ht := ha.1
    refine ⟨Nat.le_of_ble_eq_true rfl, mm_run_at (stop := []) (S := mm_F0) kkX3_odd 80 ?_ mm_F0h⟩
    simp only [mm_wp, mm_op, mm_nxt, mm_jmp, mm_at, mm_in, mm_nth, mm_set, mm_ok, mm_isL, mm_ret, mm_isRet, mm_bool, mm_call, mm_push, mm_rv, mm_cats, mm_cat, mm_look, mm_ft, mm_fv, mm_pf, mm_thr, mm_ent, mm_pad, mm_fl, beq_self_eq_true, cond_true, cond_false, Nat.reduceBEq, Nat.reduceEqDiff, List.drop_succ_cons, List.drop_zero, List.take_succ_cons, List.take_zero, List.reverse_cons, List.reverse_nil, List.nil_append, List.cons_append, List.length_cons, List.length_nil, Nat.reduceAdd, Nat.reduceSub, Nat.reduceLeDiff, Bool.not_false, Bool.and_true, Bool.true_and, Nat.zero_add, true_and, and_true, Nat.le_refl, true_or, or_true, reduceCtorEq, Nat.add_zero, Nat.reduceLT, Bool.and_self, Bool.not_true, Fin.isValue, Nat.reduceLeDiff, List.take_nil, List.drop_nil, mm_i1, mm_i2, mm_i3, mm_i4, mm_i5, mm_i6, mm_i7, mm_i16, mm_i17, mm_i18, mm_i19, mm_i20, mm_i21, mm_i22, mm_i23, mm_l3, mm_l4, mm_l5, mm_l6, mm_l7, mm_l18, mm_l19, mm_l20, mm_l21, mm_l22, kdX3_odd, ct_X3_odd, flX3, sp_X1_allStreets, sp_X1_oddCount]
    exact ⟨ht, fun r hr => ⟨ht, hr.2, fun M' r2 h2 => hq M' r2 ⟨h2.1, h2.2.2.2, rfl, by rw [h2.2.2.1, hr.1]; rfl, .scr (h2.1.mono (by simp))⟩⟩⟩
  · exact h.elim
theorem me_X3_odd {l : Launch} (hl : l.stackTraces = false) : mm_Met l yX3_odd cX3_odd 1 (some .int) [] 9 164 0 sp_X3_odd := mm_mt hl rn_X3_odd ⟨plX3, rfl⟩ kkX3_odd rfl ⟨Nat.le_of_ble_eq_true rfl, Nat.le_of_ble_eq_true rfl⟩ flkX3 (fun _ h => nomatch h) (⟨mm_pe (me_X1_allStreets hl) mwX1_allStreets (mm_t1 220 rfl rfl) (Nat.le_of_ble_eq_true rfl) (Nat.le_of_ble_eq_true rfl), mm_pe (me_X1_oddCount hl) mwX1_oddCount (mm_t1 224 rfl rfl) (Nat.le_of_ble_eq_true rfl) (Nat.le_of_ble_eq_true rfl), trivial⟩) (mm_xe0 _) n9X3
def sp_X3_hangs : mm_S := fun av M d Q => match av with
  | [.inr (.inr (.inl o))] =>  o = 1 ∧ wA M ∧ (∀ r, (r = 0 ∨ r = 1) ∧ C_hangs M M 0 r → Q (.inl (some (mm_I r))) M d)
  | _ => False
def ct_X3_hangs : List (Nat × mm_Ca) := [(117, (0, 1, 11, sp_X1_allStreets, 0)), (123, (0, 2, 11, sp_X1_hangTogether, 0))]
abbrev rr_X3_hangs (Q : mm_Q) := mm_run (mm_look flX3) (mm_look ct_X3_hangs) mm_x0 (mm_look ([] : List (Nat × Int))) (fun _ => none) 2 0 (fun _ _ => none) Q kdX3_hangs
set_option maxRecDepth 20000 in
theorem rn_X3_hangs : mm_RN flX3 ct_X3_hangs mm_x0 [] 2 0 1 kdX3_hangs sp_X3_hangs := by
  intro av M d Q h
  unfold sp_X3_hangs at h
  split at h
  · rename_i o
    obtain ⟨rfl, ha, hq⟩ := h
    have ht := ha.1
    refine ⟨Nat.le_of_ble_eq_true rfl, mm_run_at (stop := []) (S := mm_F0) kkX3_hangs 80 ?_ mm_F0h⟩
    simp only [mm_wp, mm_op, mm_nxt, mm_jmp, mm_at, mm_in, mm_nth, mm_set, mm_ok, mm_isL, mm_ret, mm_isRet, mm_bool, mm_call, mm_push, mm_rv, mm_cats, mm_cat, mm_look, mm_ft, mm_fv, mm_pf, mm_thr, mm_ent, mm_pad, mm_fl, beq_self_eq_true, cond_true, cond_false, Nat.reduceBEq, Nat.reduceEqDiff, List.drop_succ_cons, List.drop_zero, List.take_succ_cons, List.take_zero, List.reverse_cons, List.reverse_nil, List.nil_append, List.cons_append, List.length_cons, List.length_nil, Nat.reduceAdd, Nat.reduceSub, Nat.reduceLeDiff, Bool.not_false, Bool.and_true, Bool.true_and, Nat.zero_add, true_and, and_true, Nat.le_refl, true_or, or_true, reduceCtorEq, Nat.add_zero, Nat.reduceLT, Bool.and_self, Bool.not_true, Fin.isValue, Nat.reduceLeDiff, List.take_nil, List.drop_nil, mm_i1, mm_i2, mm_i3, mm_i4, mm_i5, mm_i6, mm_i7, mm_i16, mm_i17, mm_i18, mm_i19, mm_i20, mm_i21, mm_i22, mm_i23, mm_l3, mm_l4, mm_l5, mm_l6, mm_l7, mm_l18, mm_l19, mm_l20, mm_l21, mm_l22, kdX3_hangs, ct_X3_hangs, flX3, sp_X1_allStreets, sp_X1_hangTogether]
    exact ⟨ht, fun r hr => ⟨ht, hr.2, fun r2 h2 => ⟨in01 h2, hq r2 ⟨in01 h2, rfl, b01.of (by rw [hr.1] at h2; exact h2), .rf⟩⟩⟩⟩
  · exact h.elim
theorem me_X3_hangs {l : Launch} (hl : l.stackTraces = false) : mm_Met l yX3_hangs cX3_hangs 1 (some .boolean) [] 8 151 0 sp_X3_hangs := mm_mt hl rn_X3_hangs ⟨plX3, rfl⟩ kkX3_hangs rfl ⟨Nat.le_of_ble_eq_true rfl, Nat.le_of_ble_eq_true rfl⟩ flkX3 (fun _ h => nomatch h) (⟨mm_pe (me_X1_allStreets hl) mwX1_allStreets (mm_t1 220 rfl rfl) (Nat.le_of_ble_eq_true rfl) (Nat.le_of_ble_eq_true rfl), mm_pe (me_X1_hangTogether hl) mwX1_hangTogether (mm_t2 3 rfl rfl) (Nat.le_of_ble_eq_true rfl) (Nat.le_of_ble_eq_true rfl), trivial⟩) (mm_xe0 _) n9X3
def sp_X3_kind : mm_S := fun av M d Q => match av with
  | [.inr (.inr (.inl o))] =>  o = 1 ∧ wA M ∧ (∀ M' r, fr [5, 6] M M' ∧ (0 ≤ r ∧ r ≤ 2) ∧ C_kind M M' 0 r → Q (.inl (some (mm_I r))) M' d)
  | _ => False
def ct_X3_kind : List (Nat × mm_Ca) := [(126, (0, 1, 10, sp_X3_hangs, 0)), (129, (0, 1, 10, sp_X3_odd, 0)), (132, (0, 1, 11, sp_X1_leastStart, 0))]
abbrev rr_X3_kind (Q : mm_Q) := mm_run (mm_look flX3) (mm_look ct_X3_kind) mm_x0 (mm_look ([] : List (Nat × Int))) (fun _ => none) 1 0 (fun _ _ => none) Q kdX3_kind
set_option maxRecDepth 20000 in
theorem rn_X3_kind : mm_RN flX3 ct_X3_kind mm_x0 [] 1 0 1 kdX3_kind sp_X3_kind := by
  intro av M d Q h
  unfold sp_X3_kind at h
  split at h
  · rename_i o
    obtain ⟨rfl, ha, hq⟩ := h
    have ht := ha.1
    refine ⟨Nat.le_of_ble_eq_true rfl, mm_run_at (stop := []) (S := mm_F0) kkX3_kind 80 ?_ mm_F0h⟩
    simp only [mm_wp, mm_op, mm_nxt, mm_jmp, mm_at, mm_in, mm_nth, mm_set, mm_ok, mm_isL, mm_ret, mm_isRet, mm_bool, mm_call, mm_push, mm_rv, mm_cats, mm_cat, mm_look, mm_ft, mm_fv, mm_pf, mm_thr, mm_ent, mm_pad, mm_fl, beq_self_eq_true, cond_true, cond_false, Nat.reduceBEq, Nat.reduceEqDiff, List.drop_succ_cons, List.drop_zero, List.take_succ_cons, List.take_zero, List.reverse_cons, List.reverse_nil, List.nil_append, List.cons_append, List.length_cons, List.length_nil, Nat.reduceAdd, Nat.reduceSub, Nat.reduceLeDiff, Bool.not_false, Bool.and_true, Bool.true_and, Nat.zero_add, true_and, and_true, Nat.le_refl, true_or, or_true, reduceCtorEq, Nat.add_zero, Nat.reduceLT, Bool.and_self, Bool.not_true, Fin.isValue, Nat.reduceLeDiff, List.take_nil, List.drop_nil, mm_i1, mm_i2, mm_i3, mm_i4, mm_i5, mm_i6, mm_i7, mm_i16, mm_i17, mm_i18, mm_i19, mm_i20, mm_i21, mm_i22, mm_i23, mm_l3, mm_l4, mm_l5, mm_l6, mm_l7, mm_l18, mm_l19, mm_l20, mm_l21, mm_l22, kdX3_kind, ct_X3_kind, flX3, sp_X3_hangs, sp_X3_odd, sp_X1_leastStart]
    have hL : ¬ (HG (M 3) (M 4) (M 2 4).toNat (al M) ∧ odn (M 3) (M 4) (M 2 4).toNat (M 2 5) (al M) 10 = 0) → ∀ M1, fr [5, 6] M M1 → tW M1 ∧ ∀ M' r, fr [5, 6] M1 M' ∧ ((r = -1 ∧ ∀ c : Nat, c < 10 → ¬ ST (M1 3) (M1 4) (M1 2 4).toNat (M1 2 5) (2 ^ (M1 2 4).toNat - 1) c) ∨ (0 ≤ r ∧ r < 10 ∧ ST (M1 3) (M1 4) (M1 2 4).toNat (M1 2 5) (2 ^ (M1 2 4).toNat - 1) r ∧ ∀ c : Nat, c < r → ¬ ST (M1 3) (M1 4) (M1 2 4).toNat (M1 2 5) (2 ^ (M1 2 4).toNat - 1) c)) → InI r ∧ (r < 0 → Q (.inl (some (mm_I 0))) M' d) ∧ (0 ≤ r → Q (.inl (some (mm_I 1))) M' d) := fun hno M1 h => ⟨ht.fr h (by simp) (by simp) (by simp), fun M' r h2 => by
      have e2 := h 2 (by simp)
      have e3 := h 3 (by simp)
      have e4 := h 4 (by simp)
      have h3 := h2.2
      rw [e2, e3, e4] at h3
      refine ⟨by rcases h3 with h3 | h3 <;> exact ⟨by omega, by omega⟩, fun h4 => hq M' 0 ⟨h.tr h2.1, by omega, rfl, Or.inr ⟨hno, Or.inr ⟨rfl, ?_⟩⟩, .scr ((h.tr h2.1).mono (by simp))⟩, fun h4 => hq M' 1 ⟨h.tr h2.1, by omega, rfl, Or.inr ⟨hno, Or.inl ⟨rfl, r.toNat, by omega, ?_⟩⟩, .scr ((h.tr h2.1).mono (by simp))⟩⟩
      · rcases h3 with h3 | h3
        · exact h3.2
        · omega
      · rcases h3 with h3 | h3
        · omega
        · rw [show ((r.toNat : Nat) : Int) = r by omega]
          exact h3.2.2.1⟩
    refine ⟨ha, fun r hr => ⟨by rcases hr.1 with h | h <;> subst h <;> exact ⟨by omega, by omega⟩, fun h0 => ?_, fun h0 => ⟨ha, fun M1 r1 h1 => ⟨⟨by omega, by omega⟩, fun h3 => ?_, fun h3 => ?_⟩⟩⟩⟩
    · exact hL (fun h => by have := hr.2.2.1.2.mpr h.1; omega) M fr.rf
    · exact hL (fun h => by have := h1.2.2.2.1; omega) M1 h1.1
    · exact hq M1 2 ⟨h1.1, by omega, rfl, Or.inl ⟨⟨hr.2.2.1.2.mp (by omega), by rw [← show al M = 2 ^ (M 2 4).toNat - 1 from rfl, ← h1.2.2.2.1]; omega⟩, rfl⟩, .scr (h1.1.mono (by simp))⟩
  · exact h.elim
theorem me_X3_kind {l : Launch} (hl : l.stackTraces = false) : mm_Met l yX3_kind cX3_kind 1 (some .int) [] 11 208 0 sp_X3_kind := mm_mt hl rn_X3_kind ⟨plX3, rfl⟩ kkX3_kind rfl ⟨Nat.le_of_ble_eq_true rfl, Nat.le_of_ble_eq_true rfl⟩ flkX3 (fun _ h => nomatch h) (⟨mm_pe (me_X3_hangs hl) mwX3_hangs (mm_t2 18 rfl rfl) (Nat.le_of_ble_eq_true rfl) (Nat.le_of_ble_eq_true rfl), mm_pe (me_X3_odd hl) mwX3_odd (mm_t2 19 rfl rfl) (Nat.le_of_ble_eq_true rfl) (Nat.le_of_ble_eq_true rfl), mm_pe (me_X1_leastStart hl) mwX1_leastStart (mm_t2 20 rfl rfl) (Nat.le_of_ble_eq_true rfl) (Nat.le_of_ble_eq_true rfl), trivial⟩) (mm_xe0 _) n9X3
def sp_X3_isStart : mm_S := fun av M d Q => match av with
  | [.inr (.inr (.inl o)), .inl c] =>  o = 1 ∧ wA M ∧ InI c ∧ (∀ M' r, cP M M' ∧ (r = 0 ∨ r = 1) ∧ C_isStart c M M' 0 r → Q (.inl (some (mm_I r))) M' d) ∧ (∀ k, k = 0 ∧ C_isStart c M M 1 0 → Q (.inr k) M d)
  | _ => False
def ct_X3_isStart : List (Nat × mm_Ca) := [(36, (0, 2, 10, sp_X3_checkCorner, 1)), (117, (0, 1, 11, sp_X1_allStreets, 0)), (135, (0, 3, 11, sp_X1_isStartOf, 0))]
abbrev rr_X3_isStart (Q : mm_Q) := mm_run (mm_look flX3) (mm_look ct_X3_isStart) mm_x0 (mm_look ([] : List (Nat × Int))) (fun _ => none) 2 1 (fun _ _ => none) Q kdX3_isStart
set_option maxRecDepth 20000 in
theorem rn_X3_isStart : mm_RN flX3 ct_X3_isStart mm_x0 [] 2 1 2 kdX3_isStart sp_X3_isStart := by
  intro av M d Q h
  unfold sp_X3_isStart at h
  split at h
  · rename_i o c
    obtain ⟨rfl, ha, h1, hq, hx⟩ := h
    have ht := ha.1
    refine ⟨Nat.le_of_ble_eq_true rfl, mm_run_at (stop := []) (S := mm_F0) kkX3_isStart 80 ?_ mm_F0h⟩
    simp only [mm_wp, mm_op, mm_nxt, mm_jmp, mm_at, mm_in, mm_nth, mm_set, mm_ok, mm_isL, mm_ret, mm_isRet, mm_bool, mm_call, mm_push, mm_rv, mm_cats, mm_cat, mm_look, mm_ft, mm_fv, mm_pf, mm_thr, mm_ent, mm_pad, mm_fl, beq_self_eq_true, cond_true, cond_false, Nat.reduceBEq, Nat.reduceEqDiff, List.drop_succ_cons, List.drop_zero, List.take_succ_cons, List.take_zero, List.reverse_cons, List.reverse_nil, List.nil_append, List.cons_append, List.length_cons, List.length_nil, Nat.reduceAdd, Nat.reduceSub, Nat.reduceLeDiff, Bool.not_false, Bool.and_true, Bool.true_and, Nat.zero_add, true_and, and_true, Nat.le_refl, true_or, or_true, reduceCtorEq, Nat.add_zero, Nat.reduceLT, Bool.and_self, Bool.not_true, Fin.isValue, Nat.reduceLeDiff, List.take_nil, List.drop_nil, mm_i1, mm_i2, mm_i3, mm_i4, mm_i5, mm_i6, mm_i7, mm_i16, mm_i17, mm_i18, mm_i19, mm_i20, mm_i21, mm_i22, mm_i23, mm_l3, mm_l4, mm_l5, mm_l6, mm_l7, mm_l18, mm_l19, mm_l20, mm_l21, mm_l22, kdX3_isStart, ct_X3_isStart, flX3, sp_X3_checkCorner, sp_X1_allStreets, sp_X1_isStartOf]
    exact ⟨h1, fun c1 => ⟨ht, fun r hr => ⟨ht, hr.2, c1, fun M' r2 h2 => ⟨in01 h2.2, hq M' r2 ⟨ha.s h2.1, in01 h2.2, ok1.y c1 ⟨b01.of (by rw [hr.1] at h2; exact h2.2), .scr (h2.1.mono (by simp))⟩⟩⟩⟩⟩, fun h => hx _ ⟨rfl, ok1.n h⟩⟩
  · exact h.elim
theorem me_X3_isStart {l : Launch} (hl : l.stackTraces = false) : mm_Met l yX3_isStart cX3_isStart 2 (some .boolean) [] 10 187 1 sp_X3_isStart := mm_mt hl rn_X3_isStart ⟨plX3, rfl⟩ kkX3_isStart rfl ⟨Nat.le_of_ble_eq_true rfl, Nat.le_of_ble_eq_true rfl⟩ flkX3 (fun _ h => nomatch h) (⟨mm_pe (me_X3_checkCorner hl) mwX3_checkCorner (mm_t3 80 rfl rfl) (Nat.le_of_ble_eq_true rfl) (Nat.le_of_ble_eq_true rfl), mm_pe (me_X1_allStreets hl) mwX1_allStreets (mm_t1 220 rfl rfl) (Nat.le_of_ble_eq_true rfl) (Nat.le_of_ble_eq_true rfl), mm_pe (me_X1_isStartOf hl) mwX1_isStartOf (mm_t2 199 rfl rfl) (Nat.le_of_ble_eq_true rfl) (Nat.le_of_ble_eq_true rfl), trivial⟩) (mm_xe0 _) n9X3
def sp_X3_ways : mm_S := fun av M d Q => match av with
  | [.inr (.inr (.inl o)), .inl a, .inl b] =>  o = 1 ∧ wA M ∧ InI a ∧ InI b ∧ (∀ M' r, cP M M' ∧ InI r ∧ C_ways a b M M' 0 r → Q (.inl (some (mm_I r))) M' d) ∧ (∀ k, (k = 0 ∧ C_ways a b M M 1 0) ∨ (k = 1 ∧ C_ways a b M M 2 0) → Q (.inr k) M d)
  | _ => False
def ct_X3_ways : List (Nat × mm_Ca) := [(36, (0, 2, 10, sp_X3_checkCorner, 1)), (59, (1, 3, 0, sp_X3_checkRange, 1)), (111, (0, 2, 11, sp_X1_outOf, 0)), (114, (0, 2, 11, sp_X1_inOf, 0))]
abbrev rr_X3_ways (Q : mm_Q) := mm_run (mm_look flX3) (mm_look ct_X3_ways) mm_x0 (mm_look ([] : List (Nat × Int))) (fun _ => none) 1 2 (fun _ _ => none) Q kdX3_ways
set_option maxRecDepth 20000 in
theorem rn_X3_ways : mm_RN flX3 ct_X3_ways mm_x0 [] 1 2 3 kdX3_ways sp_X3_ways := by
  intro av M d Q h
  unfold sp_X3_ways at h
  split at h
  · rename_i o a b
    obtain ⟨rfl, ha, h1, h2, hq, hx⟩ := h
    have ht := ha.1
    have i0 : InI (0 : Int) := ⟨by omega, by omega⟩
    have i2 : InI (2 : Int) := ⟨by omega, by omega⟩
    refine ⟨Nat.le_of_ble_eq_true rfl, mm_run_at (stop := []) (S := mm_F0) kkX3_ways 80 ?_ mm_F0h⟩
    simp only [mm_wp, mm_op, mm_nxt, mm_jmp, mm_at, mm_in, mm_nth, mm_set, mm_ok, mm_isL, mm_ret, mm_isRet, mm_bool, mm_call, mm_push, mm_rv, mm_cats, mm_cat, mm_look, mm_ft, mm_fv, mm_pf, mm_thr, mm_ent, mm_pad, mm_fl, beq_self_eq_true, cond_true, cond_false, Nat.reduceBEq, Nat.reduceEqDiff, List.drop_succ_cons, List.drop_zero, List.take_succ_cons, List.take_zero, List.reverse_cons, List.reverse_nil, List.nil_append, List.cons_append, List.length_cons, List.length_nil, Nat.reduceAdd, Nat.reduceSub, Nat.reduceLeDiff, Bool.not_false, Bool.and_true, Bool.true_and, Nat.zero_add, true_and, and_true, Nat.le_refl, true_or, or_true, reduceCtorEq, Nat.add_zero, Nat.reduceLT, Bool.and_self, Bool.not_true, Fin.isValue, Nat.reduceLeDiff, List.take_nil, List.drop_nil, mm_i1, mm_i2, mm_i3, mm_i4, mm_i5, mm_i6, mm_i7, mm_i16, mm_i17, mm_i18, mm_i19, mm_i20, mm_i21, mm_i22, mm_i23, mm_l3, mm_l4, mm_l5, mm_l6, mm_l7, mm_l18, mm_l19, mm_l20, mm_l21, mm_l22, kdX3_ways, ct_X3_ways, flX3, sp_X3_checkCorner, sp_X3_checkRange, sp_X1_outOf, sp_X1_inOf]
    refine ⟨h1, fun c1 => ⟨h2, i0, i2, fun c2 => ⟨h2, ⟨by omega, by omega⟩, fun d1 => ⟨h2, i2, fun d2 => ⟨ht, c1, fun M1 r1 g1 => ?_⟩, fun d2 => ⟨ht, c1, fun M1 r1 g1 => hq M1 r1 ⟨ha.s g1.1, ⟨by omega, by omega⟩, ok2.y c1 (by omega) ⟨?_, .scr (g1.1.mono (by simp))⟩⟩⟩⟩, fun d1 => ⟨ht, c1, fun M1 r1 g1 => hq M1 r1 ⟨ha.s g1.1, ⟨by omega, by omega⟩, ok2.y c1 (by omega) ⟨?_, .scr (g1.1.mono (by simp))⟩⟩⟩⟩, fun h => hx _ (Or.inr ⟨rfl, ok2.n2 c1 (by omega)⟩)⟩, fun h => hx _ (Or.inl ⟨rfl, ok2.n1 h⟩)⟩
    · have p1 := ha.s g1.1
      refine ⟨p1.1.1, c1, fun M2 r2 g2 => hq M2 _ ⟨p1.tr (p1.1.s g2.1), ⟨by omega, by omega⟩, ok2.y c1 (by omega) ⟨?_, .scr ((g1.1.tr g2.1).mono (by simp))⟩⟩⟩
      have e := g2.2.1
      rw [g1.1 2 (by simp), g1.1 4 (by simp)] at e
      rw [if_pos (by omega), g1.2.1, e]
      rfl
    · rw [if_neg (by omega), if_neg (by omega)]
      exact g1.2.1
    · rw [if_neg (by omega), if_pos (by omega)]
      exact g1.2.1
  · exact h.elim
theorem me_X3_ways {l : Launch} (hl : l.stackTraces = false) : mm_Met l yX3_ways cX3_ways 3 (some .int) [] 8 144 2 sp_X3_ways := mm_mt hl rn_X3_ways ⟨plX3, rfl⟩ kkX3_ways rfl ⟨Nat.le_of_ble_eq_true rfl, Nat.le_of_ble_eq_true rfl⟩ flkX3 (fun _ h => nomatch h) (⟨mm_pe (me_X3_checkCorner hl) mwX3_checkCorner (mm_t3 80 rfl rfl) (Nat.le_of_ble_eq_true rfl) (Nat.le_of_ble_eq_true rfl), mm_pe (me_X3_checkRange hl) mwX3_checkRange (mm_t3 102 rfl rfl) (Nat.le_of_ble_eq_true rfl) (Nat.le_of_ble_eq_true rfl), mm_pe (me_X1_outOf hl) mwX1_outOf (mm_t2 191 rfl rfl) (Nat.le_of_ble_eq_true rfl) (Nat.le_of_ble_eq_true rfl), mm_pe (me_X1_inOf hl) mwX1_inOf (mm_t2 195 rfl rfl) (Nat.le_of_ble_eq_true rfl) (Nat.le_of_ble_eq_true rfl), trivial⟩) (mm_xe0 _) n9X3
def sp_X3_rule : mm_S := fun av M d Q => match av with
  | [.inr (.inr (.inl o)), .inl b] =>  o = 1 ∧ wA M ∧ InI b ∧ (∀ r, InI r ∧ C_rule b M M 0 r → Q (.inl (some (mm_I r))) M d) ∧ (∀ k, k = 1 ∧ C_rule b M M 1 0 → Q (.inr k) M d)
  | _ => False
def ct_X3_rule : List (Nat × mm_Ca) := [(59, (1, 3, 0, sp_X3_checkRange, 1)), (92, (0, 1, 11, sp_X1_isOneWay, 0)), (139, (0, 1, 11, sp_X1_signCount, 0)), (142, (0, 1, 11, sp_X1_wordSize, 0))]
abbrev rr_X3_rule (Q : mm_Q) := mm_run (mm_look flX3) (mm_look ct_X3_rule) mm_x0 (mm_look ([] : List (Nat × Int))) (fun _ => none) 1 1 (fun _ _ => none) Q kdX3_rule
set_option maxRecDepth 20000 in
theorem rn_X3_rule : mm_RN flX3 ct_X3_rule mm_x0 [] 1 1 2 kdX3_rule sp_X3_rule := by
  intro av M d Q h
  unfold sp_X3_rule at h
  split at h
  · rename_i o b
    obtain ⟨rfl, ha, h2, hq, hx⟩ := h
    have ht := ha.1
    have t3 := ht.2.2
    have i0 : InI (0 : Int) := ⟨by omega, by omega⟩
    have i2 : InI (2 : Int) := ⟨by omega, by omega⟩
    refine ⟨Nat.le_of_ble_eq_true rfl, mm_run_at (stop := []) (S := mm_F0) kkX3_rule 80 ?_ mm_F0h⟩
    simp only [mm_wp, mm_op, mm_nxt, mm_jmp, mm_at, mm_in, mm_nth, mm_set, mm_ok, mm_isL, mm_ret, mm_isRet, mm_bool, mm_call, mm_push, mm_rv, mm_cats, mm_cat, mm_look, mm_ft, mm_fv, mm_pf, mm_thr, mm_ent, mm_pad, mm_fl, beq_self_eq_true, cond_true, cond_false, Nat.reduceBEq, Nat.reduceEqDiff, List.drop_succ_cons, List.drop_zero, List.take_succ_cons, List.take_zero, List.reverse_cons, List.reverse_nil, List.nil_append, List.cons_append, List.length_cons, List.length_nil, Nat.reduceAdd, Nat.reduceSub, Nat.reduceLeDiff, Bool.not_false, Bool.and_true, Bool.true_and, Nat.zero_add, true_and, and_true, Nat.le_refl, true_or, or_true, reduceCtorEq, Nat.add_zero, Nat.reduceLT, Bool.and_self, Bool.not_true, Fin.isValue, Nat.reduceLeDiff, List.take_nil, List.drop_nil, mm_i1, mm_i2, mm_i3, mm_i4, mm_i5, mm_i6, mm_i7, mm_i16, mm_i17, mm_i18, mm_i19, mm_i20, mm_i21, mm_i22, mm_i23, mm_l3, mm_l4, mm_l5, mm_l6, mm_l7, mm_l18, mm_l19, mm_l20, mm_l21, mm_l22, kdX3_rule, ct_X3_rule, flX3, sp_X3_checkRange, sp_X1_isOneWay, sp_X1_signCount, sp_X1_wordSize]
    repeat' (first | assumption | apply And.intro | (intro _))
    all_goals first | omega | exact hx _ ⟨rfl, ok1.n (by omega)⟩ | (refine hq _ ⟨⟨by omega, by omega⟩, ok1.y (by omega) ⟨?_, .rf⟩⟩; first | rw [if_pos (by omega)] | rw [if_neg (by omega), if_pos (by omega)] | rw [if_neg (by omega), if_neg (by omega)]; done) | (refine hq _ ⟨⟨by omega, by omega⟩, ok1.y (by omega) ⟨?_, .rf⟩⟩; rw [if_neg (by omega), if_neg (by omega)]; omega)
  · exact h.elim
theorem me_X3_rule {l : Launch} (hl : l.stackTraces = false) : mm_Met l yX3_rule cX3_rule 2 (some .int) [] 7 122 1 sp_X3_rule := mm_mt hl rn_X3_rule ⟨plX3, rfl⟩ kkX3_rule rfl ⟨Nat.le_of_ble_eq_true rfl, Nat.le_of_ble_eq_true rfl⟩ flkX3 (fun _ h => nomatch h) (⟨mm_pe (me_X3_checkRange hl) mwX3_checkRange (mm_t3 102 rfl rfl) (Nat.le_of_ble_eq_true rfl) (Nat.le_of_ble_eq_true rfl), mm_pe (me_X1_isOneWay hl) mwX1_isOneWay (mm_t1 171 rfl rfl) (Nat.le_of_ble_eq_true rfl) (Nat.le_of_ble_eq_true rfl), mm_pe (me_X1_signCount hl) mwX1_signCount (mm_t2 203 rfl rfl) (Nat.le_of_ble_eq_true rfl) (Nat.le_of_ble_eq_true rfl), mm_pe (me_X1_wordSize hl) mwX1_wordSize (mm_t2 204 rfl rfl) (Nat.le_of_ble_eq_true rfl) (Nat.le_of_ble_eq_true rfl), trivial⟩) (mm_xe0 _) n9X3
theorem mm_up_o2 {M : mm_M} : (mm_up M 16 1 0) 16 4 = M 16 4 := by simp [mm_up]
theorem pw_5 {a b : Int} (ha : 2 ≤ a ∧ a ≤ 5) (hb : 1 ≤ b ∧ b ≤ 4) : 1 ≤ a ^ b.toNat ∧ a ^ b.toNat ≤ 625 := by
  have ha5 : a = 2 ∨ a = 3 ∨ a = 4 ∨ a = 5 := by omega
  have hb5 : b = 1 ∨ b = 2 ∨ b = 3 ∨ b = 4 := by omega
  rcases ha5 with rfl | rfl | rfl | rfl <;> rcases hb5 with rfl | rfl | rfl | rfl <;> decide
theorem d_empty (M : mm_M) (h : tW M) : tW (mm_up (mm_up (mm_up (mm_up M 2 4 0) 2 5 0) 2 6 0) 2 7 0) := by
  obtain ⟨a, b, c, e, f⟩ := h
  exact ⟨by simp [mm_up], by simpa [mm_up] using b, by simp [mm_up], by simp [mm_up], by simp [mm_up]⟩
/-- the first i walks are empty -/
def empI (M0 M : mm_M) (i : Nat) : Prop := fr [8, 10, 12] M0 M ∧ ∀ j : Nat, j < i → M (8 + 2 * j) 2 = 0 ∧ M (8 + 2 * j) 3 = 0
def sp_X3_empty : mm_S := fun av M d Q => match av with
  | [.inr (.inr (.inl o))] =>  o = 1 ∧ wA M ∧ ∀ M', cP M M' ∧ M' 2 4 = 0 ∧ clrR M M' → Q (.inl none) M' d
  | _ => False
def ct_X3_empty : List (Nat × mm_Ca) := [(333, (0, 1, 11, sp_X1_dropAll, 0)), (150, (0, 2, 12, sp_X2_restart, 0)), (336, (0, 1, 13, sp_X0_vanish, 0))]
abbrev rr_X3_empty (Q : mm_Q) := mm_run (mm_look flX3) (mm_look ct_X3_empty) mm_x0 (mm_look ([] : List (Nat × Int))) (fun _ => none) 0 0 (fun _ _ => none) Q kdX3_empty
set_option maxRecDepth 20000 in
theorem lp_X3_empty {M0 : mm_M} {d : List Nat} {Q : mm_Q} (hq : ∀ M', empI M0 M' 3 → Q (.inl none) (mm_up M' 16 1 0) d) : ∀ (k i : Nat) (M : mm_M), i + k = 3 → empI M0 M i → rr_X3_empty Q 9 [some (mm_R 1), some (mm_I i)] [] M d 0 := by
  intro k
  induction k with
  | zero =>
    intro i M hi hI
    refine mm_run_at (stop := [9]) (S := rr_X3_empty Q) kkX3_empty 60 ?_ (fun _ _ _ _ _ _ _ h => h)
    simp only [mm_wp, mm_op, mm_nxt, mm_jmp, mm_at, mm_in, mm_nth, mm_set, mm_ok, mm_isL, mm_ret, mm_isRet, mm_bool, mm_call, mm_push, mm_rv, mm_cats, mm_cat, mm_look, mm_ft, mm_fv, mm_pf, mm_thr, mm_ent, mm_pad, mm_fl, beq_self_eq_true, cond_true, cond_false, Nat.reduceBEq, Nat.reduceEqDiff, List.drop_succ_cons, List.drop_zero, List.take_succ_cons, List.take_zero, List.reverse_cons, List.reverse_nil, List.nil_append, List.cons_append, List.length_cons, List.length_nil, Nat.reduceAdd, Nat.reduceSub, Nat.reduceLeDiff, Bool.not_false, Bool.and_true, Bool.true_and, Nat.zero_add, true_and, and_true, Nat.le_refl, true_or, or_true, reduceCtorEq, Nat.add_zero, Nat.reduceLT, Bool.and_self, Bool.not_true, Fin.isValue, Nat.reduceLeDiff, List.take_nil, List.drop_nil, mm_i1, mm_i2, mm_i3, mm_i4, mm_i5, mm_i6, mm_i7, mm_i16, mm_i17, mm_i18, mm_i19, mm_i20, mm_i21, mm_i22, mm_i23, mm_l3, mm_l4, mm_l5, mm_l6, mm_l7, mm_l18, mm_l19, mm_l20, mm_l21, mm_l22, kdX3_empty, ct_X3_empty, flX3, sp_X1_dropAll, sp_X2_restart, sp_X0_vanish]
    have e : i = 3 := by omega
    subst e
    exact ⟨⟨by omega, by omega⟩, ⟨by omega, by omega⟩, fun _ => hq M hI, fun h => by omega⟩
  | succ k ih =>
    intro i M hi hI
    have hk : isK (8 + 2 * i) := by unfold isK; omega
    refine mm_run_at (stop := [9]) (S := rr_X3_empty Q) kkX3_empty 60 ?_ (fun _ _ _ _ _ _ _ h => h)
    simp only [mm_wp, mm_op, mm_nxt, mm_jmp, mm_at, mm_in, mm_nth, mm_set, mm_ok, mm_isL, mm_ret, mm_isRet, mm_bool, mm_call, mm_push, mm_rv, mm_cats, mm_cat, mm_look, mm_ft, mm_fv, mm_pf, mm_thr, mm_ent, mm_pad, mm_fl, beq_self_eq_true, cond_true, cond_false, Nat.reduceBEq, Nat.reduceEqDiff, List.drop_succ_cons, List.drop_zero, List.take_succ_cons, List.take_zero, List.reverse_cons, List.reverse_nil, List.nil_append, List.cons_append, List.length_cons, List.length_nil, Nat.reduceAdd, Nat.reduceSub, Nat.reduceLeDiff, Bool.not_false, Bool.and_true, Bool.true_and, Nat.zero_add, true_and, and_true, Nat.le_refl, true_or, or_true, reduceCtorEq, Nat.add_zero, Nat.reduceLT, Bool.and_self, Bool.not_true, Fin.isValue, Nat.reduceLeDiff, List.take_nil, List.drop_nil, mm_i1, mm_i2, mm_i3, mm_i4, mm_i5, mm_i6, mm_i7, mm_i16, mm_i17, mm_i18, mm_i19, mm_i20, mm_i21, mm_i22, mm_i23, mm_l3, mm_l4, mm_l5, mm_l6, mm_l7, mm_l18, mm_l19, mm_l20, mm_l21, mm_l22, kdX3_empty, ct_X3_empty, flX3, sp_X1_dropAll, sp_X2_restart, sp_X0_vanish, wk_is hk, Int.toNat_natCast]
    refine ⟨⟨by omega, by omega⟩, ⟨by omega, by omega⟩, fun h => by omega, fun _ => ⟨by omega, hk, ih (i + 1) _ (by omega) ⟨(hI.1.up ?_).up ?_, fun j hj => ?_⟩⟩⟩
    · simp; omega
    · simp; omega
    · by_cases e : j = i
      · subst e
        simp [mm_up]
      · have := hI.2 j (by omega)
        rw [mm_up_o _ (by omega), mm_up_o _ (by omega)]
        exact this
set_option maxRecDepth 20000 in
theorem rn_X3_empty : mm_RN flX3 ct_X3_empty mm_x0 [] 0 0 2 kdX3_empty sp_X3_empty := by
  intro av M d Q h
  unfold sp_X3_empty at h
  split at h
  · rename_i o
    obtain ⟨rfl, ha, hq⟩ := h
    have ht := ha.1
    refine ⟨Nat.le_of_ble_eq_true rfl, mm_run_at (stop := [9]) (S := rr_X3_empty Q) kkX3_empty 80 ?_ (fun _ _ _ _ _ _ _ h => h)⟩
    simp only [mm_wp, mm_op, mm_nxt, mm_jmp, mm_at, mm_in, mm_nth, mm_set, mm_ok, mm_isL, mm_ret, mm_isRet, mm_bool, mm_call, mm_push, mm_rv, mm_cats, mm_cat, mm_look, mm_ft, mm_fv, mm_pf, mm_thr, mm_ent, mm_pad, mm_fl, beq_self_eq_true, cond_true, cond_false, Nat.reduceBEq, Nat.reduceEqDiff, List.drop_succ_cons, List.drop_zero, List.take_succ_cons, List.take_zero, List.reverse_cons, List.reverse_nil, List.nil_append, List.cons_append, List.length_cons, List.length_nil, Nat.reduceAdd, Nat.reduceSub, Nat.reduceLeDiff, Bool.not_false, Bool.and_true, Bool.true_and, Nat.zero_add, true_and, and_true, Nat.le_refl, true_or, or_true, reduceCtorEq, Nat.add_zero, Nat.reduceLT, Bool.and_self, Bool.not_true, Fin.isValue, Nat.reduceLeDiff, List.take_nil, List.drop_nil, mm_i1, mm_i2, mm_i3, mm_i4, mm_i5, mm_i6, mm_i7, mm_i16, mm_i17, mm_i18, mm_i19, mm_i20, mm_i21, mm_i22, mm_i23, mm_l3, mm_l4, mm_l5, mm_l6, mm_l7, mm_l18, mm_l19, mm_l20, mm_l21, mm_l22, kdX3_empty, ct_X3_empty, flX3, sp_X1_dropAll, sp_X2_restart, sp_X0_vanish]
    refine lp_X3_empty (fun M' hI => ?_) 3 0 _ (by omega) ⟨fr.rf, fun j hj => by omega⟩
    obtain ⟨hf, h0⟩ := hI
    have hfr : fr [2, 8, 10, 12, 16] M (mm_up M' 16 1 0) := (((((fr.rf.up (by simp)).up (by simp)).up (by simp)).up (by simp)).tr (hf.mono (by simp))).up (by simp)
    have e2 : (mm_up M' 16 1 0) 2 = (mm_up (mm_up (mm_up (mm_up M 2 4 0) 2 5 0) 2 6 0) 2 7 0) 2 := by
      rw [mm_up_o _ (by omega)]
      exact hf 2 (by simp)
    have e3 : (mm_up M' 16 1 0) 3 = M 3 := hfr 3 (by simp)
    have e4 : (mm_up M' 16 1 0) 4 = M 4 := hfr 4 (by simp)
    have ht2 : tW (mm_up M' 16 1 0) := by
      have := d_empty M ht
      unfold tW at this ⊢
      rw [e2, e3, e4]
      simpa [mm_up] using this
    have h24 : (mm_up M' 16 1 0) 2 4 = 0 := by
      rw [e2]
      simp [mm_up]
    refine hq _ ⟨⟨⟨ht2, fun w hw => ?_, ?_⟩, cF.of hfr (by simp), by rw [hfr 1 (by simp)]⟩, h24, .of (hfr 1 (by simp)), h24, by rw [e2]; simp [mm_up], by rw [e2]; simp [mm_up], by rw [e2]; simp [mm_up], fun w hw => ?_, by simp [mm_up]⟩
    · have h5 : M' w 2 = 0 ∧ M' w 3 = 0 := by
        rcases hw with rfl | rfl | rfl
        · exact h0 0 (by omega)
        · exact h0 1 (by omega)
        · exact h0 2 (by omega)
      have hl := isK_le hw.k
      have ew : (mm_up M' 16 1 0) w = M' w := mm_up_o _ (by omega)
      refine ⟨⟨by rw [ew]; omega, by rw [ew]; omega, fun i hi => ?_⟩, wD_0 (by rw [ew]; exact h5.1)⟩
      rw [ew] at hi
      omega
    · refine ⟨Or.inl (by simp [mm_up]), ?_, fun h => absurd (by simp [mm_up]) h⟩
      have e : (mm_up M' 16 1 0) 16 4 = M 16 4 := by
        have := hf 16 (by simp)
        rw [mm_up_o2, this]
        simp [mm_up]
      rw [e]
      exact ha.2.2.2.1
    · have hl := isK_le hw.k
      rw [mm_up_o _ (by omega)]
      rcases hw with rfl | rfl | rfl
      · exact h0 0 (by omega)
      · exact h0 1 (by omega)
      · exact h0 2 (by omega)
  · exact h.elim
theorem me_X3_empty {l : Launch} (hl : l.stackTraces = false) : mm_Met l yX3_empty cX3_empty 2 none [] 8 140 0 sp_X3_empty := mm_mt hl rn_X3_empty ⟨plX3, rfl⟩ kkX3_empty rfl ⟨Nat.le_of_ble_eq_true rfl, Nat.le_of_ble_eq_true rfl⟩ flkX3 (fun _ h => nomatch h) (⟨mm_pe (me_X1_dropAll hl) mwX1_dropAll (mm_t1 139 rfl rfl) (Nat.le_of_ble_eq_true rfl) (Nat.le_of_ble_eq_true rfl), mm_pe (me_X2_restart hl) mwX2_restart (mm_t1 147 rfl rfl) (Nat.le_of_ble_eq_true rfl) (Nat.le_of_ble_eq_true rfl), mm_pe (me_X0_vanish hl) mwX0_vanish (mm_t1 151 rfl rfl) (Nat.le_of_ble_eq_true rfl) (Nat.le_of_ble_eq_true rfl), trivial⟩) (mm_xe0 _) n9X3
def sp_X3_clear : mm_S := fun av M d Q => match av with
  | [.inr (.inr (.inl o))] =>  o = 1 ∧ wA M ∧ (∀ M' r, cP M M' ∧ InI r ∧ C_clear M M' 0 r → Q (.inl (some (mm_I r))) M' d)
  | _ => False
def ct_X3_clear : List (Nat × mm_Ca) := [(55, (0, 1, 11, sp_X1_size, 0)), (70, (0, 1, 10, sp_X3_empty, 0)), (44, (0, 2, 10, sp_X3_counted, 0))]
abbrev rr_X3_clear (Q : mm_Q) := mm_run (mm_look flX3) (mm_look ct_X3_clear) mm_x0 (mm_look ([] : List (Nat × Int))) (fun _ => none) 1 0 (fun _ _ => none) Q kdX3_clear
set_option maxRecDepth 20000 in
theorem rn_X3_clear : mm_RN flX3 ct_X3_clear mm_x0 [] 1 0 2 kdX3_clear sp_X3_clear := by
  intro av M d Q h
  unfold sp_X3_clear at h
  split at h
  · rename_i o
    obtain ⟨rfl, ha, hq⟩ := h
    have t1 := ha.1.1
    refine ⟨Nat.le_of_ble_eq_true rfl, mm_run_at (stop := []) (S := mm_F0) kkX3_clear 80 ?_ mm_F0h⟩
    simp only [mm_wp, mm_op, mm_nxt, mm_jmp, mm_at, mm_in, mm_nth, mm_set, mm_ok, mm_isL, mm_ret, mm_isRet, mm_bool, mm_call, mm_push, mm_rv, mm_cats, mm_cat, mm_look, mm_ft, mm_fv, mm_pf, mm_thr, mm_ent, mm_pad, mm_fl, beq_self_eq_true, cond_true, cond_false, Nat.reduceBEq, Nat.reduceEqDiff, List.drop_succ_cons, List.drop_zero, List.take_succ_cons, List.take_zero, List.reverse_cons, List.reverse_nil, List.nil_append, List.cons_append, List.length_cons, List.length_nil, Nat.reduceAdd, Nat.reduceSub, Nat.reduceLeDiff, Bool.not_false, Bool.and_true, Bool.true_and, Nat.zero_add, true_and, and_true, Nat.le_refl, true_or, or_true, reduceCtorEq, Nat.add_zero, Nat.reduceLT, Bool.and_self, Bool.not_true, Fin.isValue, Nat.reduceLeDiff, List.take_nil, List.drop_nil, mm_i1, mm_i2, mm_i3, mm_i4, mm_i5, mm_i6, mm_i7, mm_i16, mm_i17, mm_i18, mm_i19, mm_i20, mm_i21, mm_i22, mm_i23, mm_l3, mm_l4, mm_l5, mm_l6, mm_l7, mm_l18, mm_l19, mm_l20, mm_l21, mm_l22, kdX3_clear, ct_X3_clear, flX3, sp_X1_size, sp_X3_empty, sp_X3_counted]
    exact ⟨ha, fun M' h => ⟨h.1.1, ⟨by omega, by omega⟩, fun M2 h2 => hq M2 _ ⟨h.1.tr h2.1, ⟨by omega, by omega⟩, rfl, rfl, M', h.2.2, SE.eq h2.2⟩⟩⟩
  · exact h.elim
theorem me_X3_clear {l : Launch} (hl : l.stackTraces = false) : mm_Met l yX3_clear cX3_clear 2 (some .int) [] 9 161 0 sp_X3_clear := mm_mt hl rn_X3_clear ⟨plX3, rfl⟩ kkX3_clear rfl ⟨Nat.le_of_ble_eq_true rfl, Nat.le_of_ble_eq_true rfl⟩ flkX3 (fun _ h => nomatch h) (⟨mm_pe (me_X1_size hl) mwX1_size (mm_t1 131 rfl rfl) (Nat.le_of_ble_eq_true rfl) (Nat.le_of_ble_eq_true rfl), mm_pe (me_X3_empty hl) mwX3_empty (mm_t1 135 rfl rfl) (Nat.le_of_ble_eq_true rfl) (Nat.le_of_ble_eq_true rfl), mm_pe (me_X3_counted hl) mwX3_counted (mm_t1 155 rfl rfl) (Nat.le_of_ble_eq_true rfl) (Nat.le_of_ble_eq_true rfl), trivial⟩) (mm_xe0 _) n9X3
def sp_X3_words : mm_S := fun av M d Q => match av with
  | [.inr (.inr (.inl o)), .inl a, .inl b] =>  o = 1 ∧ wA M ∧ InI a ∧ InI b ∧ (∀ M' r, cP M M' ∧ InI r ∧ C_words a b M M' 0 r → Q (.inl (some (mm_I r))) M' d) ∧ (∀ k, k = 1 ∧ C_words a b M M 1 0 → Q (.inr k) M d)
  | _ => False
def ct_X3_words : List (Nat × mm_Ca) := [(59, (1, 3, 0, sp_X3_checkRange, 1)), (66, (1, 2, 0, sp_X3_powerOf, 0)), (44, (0, 2, 10, sp_X3_counted, 0)), (70, (0, 1, 10, sp_X3_empty, 0)), (73, (0, 3, 11, sp_X1_becomeWords, 0)), (55, (0, 1, 11, sp_X1_size, 0))]
abbrev rr_X3_words (Q : mm_Q) := mm_run (mm_look flX3) (mm_look ct_X3_words) mm_x0 (mm_look ([] : List (Nat × Int))) (fun _ => none) 1 2 (fun _ _ => none) Q kdX3_words
set_option maxRecDepth 20000 in
theorem rn_X3_words : mm_RN flX3 ct_X3_words mm_x0 [] 1 2 3 kdX3_words sp_X3_words := by
  intro av M d Q h
  unfold sp_X3_words at h
  split at h
  · rename_i o a b
    obtain ⟨rfl, ha, h1, h2, hq, hx⟩ := h
    have hn9 : InI (-9 : Int) := ⟨by omega, by omega⟩
    have i1 : InI (1 : Int) := ⟨by omega, by omega⟩
    have i2 : InI (2 : Int) := ⟨by omega, by omega⟩
    have i4 : InI (4 : Int) := ⟨by omega, by omega⟩
    have i5 : InI (5 : Int) := ⟨by omega, by omega⟩
    refine ⟨Nat.le_of_ble_eq_true rfl, mm_run_at (stop := []) (S := mm_F0) kkX3_words 80 ?_ mm_F0h⟩
    simp only [mm_wp, mm_op, mm_nxt, mm_jmp, mm_at, mm_in, mm_nth, mm_set, mm_ok, mm_isL, mm_ret, mm_isRet, mm_bool, mm_call, mm_push, mm_rv, mm_cats, mm_cat, mm_look, mm_ft, mm_fv, mm_pf, mm_thr, mm_ent, mm_pad, mm_fl, beq_self_eq_true, cond_true, cond_false, Nat.reduceBEq, Nat.reduceEqDiff, List.drop_succ_cons, List.drop_zero, List.take_succ_cons, List.take_zero, List.reverse_cons, List.reverse_nil, List.nil_append, List.cons_append, List.length_cons, List.length_nil, Nat.reduceAdd, Nat.reduceSub, Nat.reduceLeDiff, Bool.not_false, Bool.and_true, Bool.true_and, Nat.zero_add, true_and, and_true, Nat.le_refl, true_or, or_true, reduceCtorEq, Nat.add_zero, Nat.reduceLT, Bool.and_self, Bool.not_true, Fin.isValue, Nat.reduceLeDiff, List.take_nil, List.drop_nil, mm_i1, mm_i2, mm_i3, mm_i4, mm_i5, mm_i6, mm_i7, mm_i16, mm_i17, mm_i18, mm_i19, mm_i20, mm_i21, mm_i22, mm_i23, mm_l3, mm_l4, mm_l5, mm_l6, mm_l7, mm_l18, mm_l19, mm_l20, mm_l21, mm_l22, kdX3_words, ct_X3_words, flX3, sp_X3_checkRange, sp_X3_powerOf, sp_X3_counted, sp_X3_empty, sp_X1_becomeWords, sp_X1_size]
    refine ⟨h1, i2, i5, fun c1 => ⟨h2, i1, i4, fun c2 => ⟨c1, by omega, ?_⟩, fun h => hx _ ⟨rfl, ok1.n (fun h2 => h h2.2)⟩⟩, fun h => hx _ ⟨rfl, ok1.n (fun h2 => h h2.1)⟩⟩
    have hp := pw_5 c1 c2
    refine ⟨by omega, ⟨by omega, by omega⟩, ⟨by omega, by omega⟩, fun h => ⟨ha, fun M' h3 => ?_⟩, fun h => ⟨by omega, ha, hn9, fun M' h3 => hq M' _ ⟨h3.1, hn9, ok1.y ⟨c1, c2⟩ (no9.n (by omega) h3.2)⟩⟩⟩
    refine ⟨h3.1.1.1, h3.2.1, c1, c2, h, fun M2 hR => ?_⟩
    obtain ⟨g1, g2, g3, g4, g5⟩ := hR
    obtain ⟨k1, k2, k3, k4, k5, k6, k7⟩ := h3.2.2
    have e24 : M2 2 4 = a ^ b.toNat := by omega
    have hP := h3.1.1.t g1 ((((fr.rf.up (by simp)).up (by simp)).up (by simp)).tr (g2.mono (by simp))) (by omega)
    have hfr : fr [2, 3, 4] M' M2 := ((((fr.rf.up (by simp)).up (by simp)).up (by simp)).tr g2)
    rw [e24]
    refine ⟨hP.1, ⟨by omega, by omega⟩, fun M3 h4 => hq M3 _ ⟨(h3.1.tr hP).tr h4.1, ⟨by omega, by omega⟩, ok1.y ⟨c1, c2⟩ (no9.y h ⟨rfl, M2, ⟨?_, e24, by rw [g3 5 (by omega)]; simp [mm_up], by rw [g3 6 (by omega)]; simp [mm_up], by rw [g3 7 (by omega)]; simp [mm_up], fun k hk => g5 k (by omega), fun w hw => ?_, by rw [hfr 16 (by simp)]; exact k7⟩, SE.eq h4.2⟩)⟩⟩
    · have := k1
      unfold NE at this ⊢
      rw [hfr 1 (by simp)]
      exact this
    · have hl := isK_le hw.k
      rw [hfr w (by simp; omega)]
      exact k6 w hw
  · exact h.elim
theorem me_X3_words {l : Launch} (hl : l.stackTraces = false) : mm_Met l yX3_words cX3_words 3 (some .int) [] 9 166 2 sp_X3_words := mm_mt hl rn_X3_words ⟨plX3, rfl⟩ kkX3_words rfl ⟨Nat.le_of_ble_eq_true rfl, Nat.le_of_ble_eq_true rfl⟩ flkX3 (fun _ h => nomatch h) (⟨mm_pe (me_X3_checkRange hl) mwX3_checkRange (mm_t3 102 rfl rfl) (Nat.le_of_ble_eq_true rfl) (Nat.le_of_ble_eq_true rfl), mm_pe (me_X3_powerOf hl) mwX3_powerOf (mm_t3 133 rfl rfl) (Nat.le_of_ble_eq_true rfl) (Nat.le_of_ble_eq_true rfl), mm_pe (me_X3_counted hl) mwX3_counted (mm_t1 155 rfl rfl) (Nat.le_of_ble_eq_true rfl) (Nat.le_of_ble_eq_true rfl), mm_pe (me_X3_empty hl) mwX3_empty (mm_t1 135 rfl rfl) (Nat.le_of_ble_eq_true rfl) (Nat.le_of_ble_eq_true rfl), mm_pe (me_X1_becomeWords hl) mwX1_becomeWords (mm_t3 136 rfl rfl) (Nat.le_of_ble_eq_true rfl) (Nat.le_of_ble_eq_true rfl), mm_pe (me_X1_size hl) mwX1_size (mm_t1 131 rfl rfl) (Nat.le_of_ble_eq_true rfl) (Nat.le_of_ble_eq_true rfl), trivial⟩) (mm_xe0 _) n9X3
def sp_X3_anyIsBackward : mm_S := fun av M d Q => match av with
  | [.inr (.inr (.inl o))] =>  o = 1 ∧ wA M ∧ (∀ r, (bkP M → r = 1) ∧ (¬ bkP M → r = 0) → Q (.inl (some (mm_I r))) M d)
  | _ => False
def ct_X3_anyIsBackward : List (Nat × mm_Ca) := [(339, (0, 1, 12, sp_X2_hasBackward, 0))]
abbrev rr_X3_anyIsBackward (Q : mm_Q) := mm_run (mm_look flX3) (mm_look ct_X3_anyIsBackward) mm_x0 (mm_look ([] : List (Nat × Int))) (fun _ => none) 2 0 (fun _ _ => none) Q kdX3_anyIsBackward
set_option maxRecDepth 20000 in
theorem lp_X3_anyIsBackward {M : mm_M} {d : List Nat} {Q : mm_Q} (ha : wA M) (hq : ∀ r, (bkP M → r = 1) ∧ (¬ bkP M → r = 0) → Q (.inl (some (mm_I r))) M d) : ∀ (k i : Nat), i + k = 3 → (∀ k : Nat, k < i → ¬ ∃ x : Nat, x < M (8 + 2 * k) 2 ∧ M (8 + 2 * k + 1) x % 2 = 1) → rr_X3_anyIsBackward Q 2 [some (mm_R 1), some (mm_I i)] [] M d 0 := by
  intro k
  induction k with
  | zero =>
    intro i hi hI
    refine mm_run_at (stop := [2]) (S := rr_X3_anyIsBackward Q) kkX3_anyIsBackward 60 ?_ (fun _ _ _ _ _ _ _ h => h)
    simp only [mm_wp, mm_op, mm_nxt, mm_jmp, mm_at, mm_in, mm_nth, mm_set, mm_ok, mm_isL, mm_ret, mm_isRet, mm_bool, mm_call, mm_push, mm_rv, mm_cats, mm_cat, mm_look, mm_ft, mm_fv, mm_pf, mm_thr, mm_ent, mm_pad, mm_fl, beq_self_eq_true, cond_true, cond_false, Nat.reduceBEq, Nat.reduceEqDiff, List.drop_succ_cons, List.drop_zero, List.take_succ_cons, List.take_zero, List.reverse_cons, List.reverse_nil, List.nil_append, List.cons_append, List.length_cons, List.length_nil, Nat.reduceAdd, Nat.reduceSub, Nat.reduceLeDiff, Bool.not_false, Bool.and_true, Bool.true_and, Nat.zero_add, true_and, and_true, Nat.le_refl, true_or, or_true, reduceCtorEq, Nat.add_zero, Nat.reduceLT, Bool.and_self, Bool.not_true, Fin.isValue, Nat.reduceLeDiff, List.take_nil, List.drop_nil, mm_i1, mm_i2, mm_i3, mm_i4, mm_i5, mm_i6, mm_i7, mm_i16, mm_i17, mm_i18, mm_i19, mm_i20, mm_i21, mm_i22, mm_i23, mm_l3, mm_l4, mm_l5, mm_l6, mm_l7, mm_l18, mm_l19, mm_l20, mm_l21, mm_l22, kdX3_anyIsBackward, ct_X3_anyIsBackward, flX3, sp_X2_hasBackward]
    refine ⟨⟨by omega, by omega⟩, ⟨by omega, by omega⟩, fun _ => hq _ ⟨fun h => ?_, fun _ => rfl⟩, fun h => by omega⟩
    obtain ⟨w, hw, hx⟩ := h
    rcases hw with rfl | rfl | rfl
    · exact absurd hx (hI 0 (by omega))
    · exact absurd hx (hI 1 (by omega))
    · exact absurd hx (hI 2 (by omega))
  | succ k ih =>
    intro i hi hI
    have hk3 : isW3 (8 + 2 * i) := by unfold isW3; omega
    have hk := hk3.k
    refine mm_run_at (stop := [2]) (S := rr_X3_anyIsBackward Q) kkX3_anyIsBackward 60 ?_ (fun _ _ _ _ _ _ _ h => h)
    simp only [mm_wp, mm_op, mm_nxt, mm_jmp, mm_at, mm_in, mm_nth, mm_set, mm_ok, mm_isL, mm_ret, mm_isRet, mm_bool, mm_call, mm_push, mm_rv, mm_cats, mm_cat, mm_look, mm_ft, mm_fv, mm_pf, mm_thr, mm_ent, mm_pad, mm_fl, beq_self_eq_true, cond_true, cond_false, Nat.reduceBEq, Nat.reduceEqDiff, List.drop_succ_cons, List.drop_zero, List.take_succ_cons, List.take_zero, List.reverse_cons, List.reverse_nil, List.nil_append, List.cons_append, List.length_cons, List.length_nil, Nat.reduceAdd, Nat.reduceSub, Nat.reduceLeDiff, Bool.not_false, Bool.and_true, Bool.true_and, Nat.zero_add, true_and, and_true, Nat.le_refl, true_or, or_true, reduceCtorEq, Nat.add_zero, Nat.reduceLT, Bool.and_self, Bool.not_true, Fin.isValue, Nat.reduceLeDiff, List.take_nil, List.drop_nil, mm_i1, mm_i2, mm_i3, mm_i4, mm_i5, mm_i6, mm_i7, mm_i16, mm_i17, mm_i18, mm_i19, mm_i20, mm_i21, mm_i22, mm_i23, mm_l3, mm_l4, mm_l5, mm_l6, mm_l7, mm_l18, mm_l19, mm_l20, mm_l21, mm_l22, kdX3_anyIsBackward, ct_X3_anyIsBackward, flX3, sp_X2_hasBackward, wk_is hk, Int.toNat_natCast]
    refine ⟨⟨by omega, by omega⟩, ⟨by omega, by omega⟩, fun h => by omega, fun _ => ⟨by omega, hk, ha.1, (ha.2.1 _ hk3).1, fun r hr => ⟨inI2 hr, fun h0 => ih (i + 1) (by omega) (fun k hk3 => ?_), fun h1 => hq _ ⟨fun _ => rfl, fun h => absurd ⟨_, hk3, inI_y hr (by omega)⟩ h⟩⟩⟩⟩
    by_cases e : k = i
    · subst e
      exact inI_n hr (by omega)
    · exact hI k (by omega)
set_option maxRecDepth 20000 in
theorem rn_X3_anyIsBackward : mm_RN flX3 ct_X3_anyIsBackward mm_x0 [] 2 0 2 kdX3_anyIsBackward sp_X3_anyIsBackward := by
  intro av M d Q h
  unfold sp_X3_anyIsBackward at h
  split at h
  · rename_i o
    obtain ⟨rfl, ha, hq⟩ := h
    refine ⟨Nat.le_of_ble_eq_true rfl, mm_run_at (stop := [2]) (S := rr_X3_anyIsBackward Q) kkX3_anyIsBackward 80 ?_ (fun _ _ _ _ _ _ _ h => h)⟩
    simp only [mm_wp, mm_op, mm_nxt, mm_jmp, mm_at, mm_in, mm_nth, mm_set, mm_ok, mm_isL, mm_ret, mm_isRet, mm_bool, mm_call, mm_push, mm_rv, mm_cats, mm_cat, mm_look, mm_ft, mm_fv, mm_pf, mm_thr, mm_ent, mm_pad, mm_fl, beq_self_eq_true, cond_true, cond_false, Nat.reduceBEq, Nat.reduceEqDiff, List.drop_succ_cons, List.drop_zero, List.take_succ_cons, List.take_zero, List.reverse_cons, List.reverse_nil, List.nil_append, List.cons_append, List.length_cons, List.length_nil, Nat.reduceAdd, Nat.reduceSub, Nat.reduceLeDiff, Bool.not_false, Bool.and_true, Bool.true_and, Nat.zero_add, true_and, and_true, Nat.le_refl, true_or, or_true, reduceCtorEq, Nat.add_zero, Nat.reduceLT, Bool.and_self, Bool.not_true, Fin.isValue, Nat.reduceLeDiff, List.take_nil, List.drop_nil, mm_i1, mm_i2, mm_i3, mm_i4, mm_i5, mm_i6, mm_i7, mm_i16, mm_i17, mm_i18, mm_i19, mm_i20, mm_i21, mm_i22, mm_i23, mm_l3, mm_l4, mm_l5, mm_l6, mm_l7, mm_l18, mm_l19, mm_l20, mm_l21, mm_l22, kdX3_anyIsBackward, ct_X3_anyIsBackward, flX3, sp_X2_hasBackward]
    exact lp_X3_anyIsBackward ha hq 3 0 (by omega) (fun k hk => by omega)
  · exact h.elim
theorem me_X3_anyIsBackward {l : Launch} (hl : l.stackTraces = false) : mm_Met l yX3_anyIsBackward cX3_anyIsBackward 2 (some .boolean) [] 7 121 0 sp_X3_anyIsBackward := mm_mt hl rn_X3_anyIsBackward ⟨plX3, rfl⟩ kkX3_anyIsBackward rfl ⟨Nat.le_of_ble_eq_true rfl, Nat.le_of_ble_eq_true rfl⟩ flkX3 (fun _ h => nomatch h) (⟨mm_pe (me_X2_hasBackward hl) mwX2_hasBackward (mm_t1 167 rfl rfl) (Nat.le_of_ble_eq_true rfl) (Nat.le_of_ble_eq_true rfl), trivial⟩) (mm_xe0 _) n9X3
def sp_X3_oneWay : mm_S := fun av M d Q => match av with
  | [.inr (.inr (.inl o)), .inl b] =>  o = 1 ∧ wA M ∧ (b = 0 ∨ b = 1) ∧ (∀ M' r, cP M M' ∧ InI r ∧ C_oneWay b M M' 0 r → Q (.inl (some (mm_I r))) M' d)
  | _ => False
def ct_X3_oneWay : List (Nat × mm_Ca) := [(88, (0, 1, 10, sp_X3_anyIsBackward, 0)), (44, (0, 2, 10, sp_X3_counted, 0)), (92, (0, 1, 11, sp_X1_isOneWay, 0)), (95, (0, 2, 11, sp_X1_setOneWay, 0))]
abbrev rr_X3_oneWay (Q : mm_Q) := mm_run (mm_look flX3) (mm_look ct_X3_oneWay) mm_x0 (mm_look ([] : List (Nat × Int))) (fun _ => none) 1 0 (fun _ _ => none) Q kdX3_oneWay
set_option maxRecDepth 20000 in
theorem rn_X3_oneWay : mm_RN flX3 ct_X3_oneWay mm_x0 [] 1 0 3 kdX3_oneWay sp_X3_oneWay := by
  intro av M d Q h
  unfold sp_X3_oneWay at h
  split at h
  · rename_i o b
    obtain ⟨rfl, ha, hb, hq⟩ := h
    have ht := ha.1
    have t3 := ht.2.2.1
    have hn9 : InI (-9 : Int) := ⟨by omega, by omega⟩
    have i0 : InI (0 : Int) := ⟨by omega, by omega⟩
    have i1 : InI (1 : Int) := ⟨by omega, by omega⟩
    have hT : cP M (mm_up M 2 5 b) := by
      refine ha.t ?_ (fr.rf.up (by simp)) (by simp [mm_up])
      obtain ⟨p1, p2, p3, p4, p5⟩ := ht
      exact ⟨by simpa [mm_up] using p1, by simpa [mm_up] using p2, by simpa [mm_up] using hb, by simpa [mm_up] using p4, by simpa [mm_up] using p5⟩
    have hR0 : M 2 5 = b → (b = 0 ∨ ¬ bkP M) → ∀ M', (cP (mm_up M 2 5 b) M' ∧ M' = cnF (mm_up M 2 5 b) 0) → Q (.inl (some (mm_I 0))) M' d := fun e hb M' h => hq M' 0 ⟨hT.tr h.1, i0, rfl, no9.y (fun h2 => by rcases hb with hb | hb; exact h2.1 hb; exact hb h2.2) ⟨by rw [if_pos e], SE.eq h.2⟩⟩
    have hR1 : M 2 5 ≠ b → (b = 0 ∨ ¬ bkP M) → ∀ M', (cP (mm_up M 2 5 b) M' ∧ M' = cnF (mm_up M 2 5 b) 1) → Q (.inl (some (mm_I 1))) M' d := fun e hb M' h => hq M' 1 ⟨hT.tr h.1, i1, rfl, no9.y (fun h2 => by rcases hb with hb | hb; exact h2.1 hb; exact hb h2.2) ⟨by rw [if_neg e], SE.eq h.2⟩⟩
    have h9 : b ≠ 0 → bkP M → ∀ M', (cP M M' ∧ M' = cnF M (-9)) → Q (.inl (some (mm_I (-9)))) M' d := fun e hb M' h => hq M' _ ⟨h.1, hn9, rfl, no9.n (fun h2 => h2 ⟨e, hb⟩) h.2⟩
    have hA := hT.1
    have hbb : InI b := ⟨by omega, by omega⟩
    have hm5 : InI (M 2 5) := ⟨by omega, by omega⟩
    refine ⟨Nat.le_of_ble_eq_true rfl, mm_run_at (stop := []) (S := mm_F0) kkX3_oneWay 80 ?_ mm_F0h⟩
    simp only [mm_wp, mm_op, mm_nxt, mm_jmp, mm_at, mm_in, mm_nth, mm_set, mm_ok, mm_isL, mm_ret, mm_isRet, mm_bool, mm_call, mm_push, mm_rv, mm_cats, mm_cat, mm_look, mm_ft, mm_fv, mm_pf, mm_thr, mm_ent, mm_pad, mm_fl, beq_self_eq_true, cond_true, cond_false, Nat.reduceBEq, Nat.reduceEqDiff, List.drop_succ_cons, List.drop_zero, List.take_succ_cons, List.take_zero, List.reverse_cons, List.reverse_nil, List.nil_append, List.cons_append, List.length_cons, List.length_nil, Nat.reduceAdd, Nat.reduceSub, Nat.reduceLeDiff, Bool.not_false, Bool.and_true, Bool.true_and, Nat.zero_add, true_and, and_true, Nat.le_refl, true_or, or_true, reduceCtorEq, Nat.add_zero, Nat.reduceLT, Bool.and_self, Bool.not_true, Fin.isValue, Nat.reduceLeDiff, List.take_nil, List.drop_nil, mm_i1, mm_i2, mm_i3, mm_i4, mm_i5, mm_i6, mm_i7, mm_i16, mm_i17, mm_i18, mm_i19, mm_i20, mm_i21, mm_i22, mm_i23, mm_l3, mm_l4, mm_l5, mm_l6, mm_l7, mm_l18, mm_l19, mm_l20, mm_l21, mm_l22, kdX3_oneWay, ct_X3_oneWay, flX3, sp_X3_anyIsBackward, sp_X3_counted, sp_X1_isOneWay, sp_X1_setOneWay]
    repeat' (first | assumption | exact hR0 (by omega) (Or.inl (by omega)) _ (by assumption) | exact hR1 (by omega) (Or.inl (by omega)) _ (by assumption) | exact hR0 (by omega) (Or.inr (inI_n (by assumption) (by omega))) _ (by assumption) | exact hR1 (by omega) (Or.inr (inI_n (by assumption) (by omega))) _ (by assumption) | exact h9 (by omega) (inI_y (by assumption) (by omega)) _ (by assumption) | exact inI2 (by assumption) | apply And.intro | (intro _))
    all_goals omega
  · exact h.elim
theorem me_X3_oneWay {l : Launch} (hl : l.stackTraces = false) : mm_Met l yX3_oneWay cX3_oneWay 3 (some .int) [] 8 142 0 sp_X3_oneWay := mm_mt hl rn_X3_oneWay ⟨plX3, rfl⟩ kkX3_oneWay rfl ⟨Nat.le_of_ble_eq_true rfl, Nat.le_of_ble_eq_true rfl⟩ flkX3 (fun _ h => nomatch h) (⟨mm_pe (me_X3_anyIsBackward hl) mwX3_anyIsBackward (mm_t1 163 rfl rfl) (Nat.le_of_ble_eq_true rfl) (Nat.le_of_ble_eq_true rfl), mm_pe (me_X3_counted hl) mwX3_counted (mm_t1 155 rfl rfl) (Nat.le_of_ble_eq_true rfl) (Nat.le_of_ble_eq_true rfl), mm_pe (me_X1_isOneWay hl) mwX1_isOneWay (mm_t1 171 rfl rfl) (Nat.le_of_ble_eq_true rfl) (Nat.le_of_ble_eq_true rfl), mm_pe (me_X1_setOneWay hl) mwX1_setOneWay (mm_t1 175 rfl rfl) (Nat.le_of_ble_eq_true rfl) (Nat.le_of_ble_eq_true rfl), trivial⟩) (mm_xe0 _) n9X3
def sp_X3_turnTown : mm_S := fun av M d Q => match av with
  | [.inr (.inr (.inl o))] =>  o = 1 ∧ wA M ∧ (∀ M' r, cP M M' ∧ InI r ∧ C_turnTown M M' 0 r → Q (.inl (some (mm_I r))) M' d)
  | _ => False
def ct_X3_turnTown : List (Nat × mm_Ca) := [(99, (0, 1, 12, sp_X2_turnOrder, 0)), (48, (0, 1, 11, sp_X1_endWords, 0)), (102, (0, 1, 11, sp_X1_swapEnds, 0)), (55, (0, 1, 11, sp_X1_size, 0)), (44, (0, 2, 10, sp_X3_counted, 0))]
abbrev rr_X3_turnTown (Q : mm_Q) := mm_run (mm_look flX3) (mm_look ct_X3_turnTown) mm_x0 (mm_look ([] : List (Nat × Int))) (fun _ => none) 1 0 (fun _ _ => none) Q kdX3_turnTown
set_option maxRecDepth 20000 in
theorem revR.of {M0 M M' : mm_M} {w : Nat} (h : revR M M' w) (h1 : M w = M0 w) (h2 : M (w + 1) = M0 (w + 1)) (h3 : M 3 = M0 3) (h4 : M 4 = M0 4) : revR M0 M' w := by
  have e : cor M0 w (M0 w 2) = cor M w (M w 2) := by unfold cor gl; rw [h1, h2, h3, h4]
  unfold revR
  rw [e, ← h1, ← h2]
  exact h
/-- the first i walks are turned -/
def trnI (M0 M : mm_M) (i : Nat) : Prop := fr [8, 9, 10, 11, 12, 13] M0 M ∧ (∀ j : Nat, j < i → revR M0 M (8 + 2 * j)) ∧ ∀ j : Nat, i ≤ j → j < 3 → M (8 + 2 * j) = M0 (8 + 2 * j) ∧ M (8 + 2 * j + 1) = M0 (8 + 2 * j + 1)
set_option maxRecDepth 20000 in
theorem lp_X3_turnTown {M0 : mm_M} {d : List Nat} {Q : mm_Q} (hq : ∀ M' r, cP M0 M' ∧ InI r ∧ C_turnTown M0 M' 0 r → Q (.inl (some (mm_I r))) M' d) : ∀ (k i : Nat) (M : mm_M), i + k = 3 → cP M0 M → trnI M0 M i → rr_X3_turnTown Q 2 [some (mm_R 1), some (mm_I i)] [] M d 0 := by
  intro k
  induction k with
  | zero =>
    intro i M hi hP hI
    have ei : i = 3 := by omega
    subst ei
    obtain ⟨q1, q2, q3⟩ := hI
    refine mm_run_at (stop := [2]) (S := rr_X3_turnTown Q) kkX3_turnTown 60 ?_ (fun _ _ _ _ _ _ _ h => h)
    simp only [mm_wp, mm_op, mm_nxt, mm_jmp, mm_at, mm_in, mm_nth, mm_set, mm_ok, mm_isL, mm_ret, mm_isRet, mm_bool, mm_call, mm_push, mm_rv, mm_cats, mm_cat, mm_look, mm_ft, mm_fv, mm_pf, mm_thr, mm_ent, mm_pad, mm_fl, beq_self_eq_true, cond_true, cond_false, Nat.reduceBEq, Nat.reduceEqDiff, List.drop_succ_cons, List.drop_zero, List.take_succ_cons, List.take_zero, List.reverse_cons, List.reverse_nil, List.nil_append, List.cons_append, List.length_cons, List.length_nil, Nat.reduceAdd, Nat.reduceSub, Nat.reduceLeDiff, Bool.not_false, Bool.and_true, Bool.true_and, Nat.zero_add, true_and, and_true, Nat.le_refl, true_or, or_true, reduceCtorEq, Nat.add_zero, Nat.reduceLT, Bool.and_self, Bool.not_true, Fin.isValue, Nat.reduceLeDiff, List.take_nil, List.drop_nil, mm_i1, mm_i2, mm_i3, mm_i4, mm_i5, mm_i6, mm_i7, mm_i16, mm_i17, mm_i18, mm_i19, mm_i20, mm_i21, mm_i22, mm_i23, mm_l3, mm_l4, mm_l5, mm_l6, mm_l7, mm_l18, mm_l19, mm_l20, mm_l21, mm_l22, kdX3_turnTown, ct_X3_turnTown, flX3, sp_X2_turnOrder, sp_X1_endWords, sp_X1_swapEnds, sp_X1_size, sp_X3_counted]
    refine ⟨⟨by omega, by omega⟩, ⟨by omega, by omega⟩, fun _ => ?_, fun h => by omega⟩
    have ht := hP.1.1
    have t1 := ht.1
    refine ⟨ht.q, fun M' hR => ?_⟩
    have e22 : M' 2 = (mm_up (mm_up M 2 6 0) 2 7 0) 2 := hR.2.1 2 (by simp)
    have e2 : M' 2 4 = M 2 4 := by
      rw [e22]
      simp [mm_up]
    have hf : fr [2, 3, 4] M M' := ((fr.rf.up (o := 2) (by simp)).up (o := 2) (by simp)).tr (hR.2.1.mono (by simp))
    have hP2 := hP.1.t hR.1 (hf.mono (by simp)) (by omega)
    have hI : InI (M' 2 4) := ⟨by omega, by omega⟩
    have hm2 : M 2 = M0 2 := q1 2 (by simp)
    refine ⟨hP2.1, hI, fun M2 h => hq M2 _ ⟨(hP.tr hP2).tr h.1, hI, rfl, by rw [e2, hm2], M', ⟨.of ?_, .of ?_, by rw [e2, hm2], by rw [e22]; simp [mm_up]; rw [hm2], by rw [e22]; simp [mm_up], by rw [e22]; simp [mm_up], fun x hx => ?_, fun w hw => ?_⟩, SE.eq h.2⟩⟩
    · rw [hf 1 (by simp), q1 1 (by simp)]
    · rw [hf 16 (by simp), q1 16 (by simp)]
    · have := hR.2.2 x (by simp [mm_up]; rw [hm2]; exact hx)
      rw [mm_up_o _ (by omega), mm_up_o _ (by omega), mm_up_o _ (by omega), mm_up_o _ (by omega), q1 3 (by simp), q1 4 (by simp)] at this
      exact this
    · have hl := isK_le hw.k
      have h9 : revR M0 M w := by
        rcases hw with rfl | rfl | rfl
        · exact q2 0 (by omega)
        · exact q2 1 (by omega)
        · exact q2 2 (by omega)
      unfold revR at h9 ⊢
      rw [hf w (by simp; omega), hf (w + 1) (by simp; omega)]
      exact h9
  | succ k ih =>
    intro i M hi hP hI
    obtain ⟨q1, q2, q3⟩ := hI
    have hk3 : isW3 (8 + 2 * i) := by unfold isW3; omega
    have hk := hk3.k
    have hl := isK_le hk
    refine mm_run_at (stop := [2]) (S := rr_X3_turnTown Q) kkX3_turnTown 60 ?_ (fun _ _ _ _ _ _ _ h => h)
    simp only [mm_wp, mm_op, mm_nxt, mm_jmp, mm_at, mm_in, mm_nth, mm_set, mm_ok, mm_isL, mm_ret, mm_isRet, mm_bool, mm_call, mm_push, mm_rv, mm_cats, mm_cat, mm_look, mm_ft, mm_fv, mm_pf, mm_thr, mm_ent, mm_pad, mm_fl, beq_self_eq_true, cond_true, cond_false, Nat.reduceBEq, Nat.reduceEqDiff, List.drop_succ_cons, List.drop_zero, List.take_succ_cons, List.take_zero, List.reverse_cons, List.reverse_nil, List.nil_append, List.cons_append, List.length_cons, List.length_nil, Nat.reduceAdd, Nat.reduceSub, Nat.reduceLeDiff, Bool.not_false, Bool.and_true, Bool.true_and, Nat.zero_add, true_and, and_true, Nat.le_refl, true_or, or_true, reduceCtorEq, Nat.add_zero, Nat.reduceLT, Bool.and_self, Bool.not_true, Fin.isValue, Nat.reduceLeDiff, List.take_nil, List.drop_nil, mm_i1, mm_i2, mm_i3, mm_i4, mm_i5, mm_i6, mm_i7, mm_i16, mm_i17, mm_i18, mm_i19, mm_i20, mm_i21, mm_i22, mm_i23, mm_l3, mm_l4, mm_l5, mm_l6, mm_l7, mm_l18, mm_l19, mm_l20, mm_l21, mm_l22, kdX3_turnTown, ct_X3_turnTown, flX3, sp_X2_turnOrder, sp_X1_endWords, sp_X1_swapEnds, sp_X1_size, sp_X3_counted, wk_is hk, Int.toNat_natCast]
    refine ⟨⟨by omega, by omega⟩, ⟨by omega, by omega⟩, fun h => by omega, fun _ => ⟨by omega, hk, hP.1.1, (hP.1.2.1 _ hk3).1, (hP.1.2.1 _ hk3).2, fun M' h2 => ih (i + 1) M' (by omega) (hP.tr (hP.1.w hk (h2.1.mono (by simp)) h2.2.1 h2.2.2.1 (hP.1.2.2.to (h2.1 16 (by simp; omega)) (fun h3 h4 => ?_)))) ⟨q1.tr (h2.1.mono (by simp; omega)), fun j hj => ?_, fun j hj hj2 => ?_⟩⟩⟩
    · have hk4 := (hP.1.2.2.1.resolve_left h3).k
      have := isK_le hk4
      by_cases e : (M 16 1).toNat = 8 + 2 * i
      · rw [e, h2.2.2.2.1]
        exact Int.le_refl _
      · have := wk_ap hk4 hk e
        rw [h2.1 _ (by simp; omega)]
        exact Int.le_refl _
    · by_cases e : j = i
      · subst e
        have q4 := q3 j (by omega) (by omega)
        exact h2.2.2.2.2.of q4.1 q4.2 (q1 3 (by simp)) (q1 4 (by simp))
      · have h9 := q2 j (by omega)
        unfold revR at h9 ⊢
        rw [h2.1 (8 + 2 * j) (by simp; omega), h2.1 (8 + 2 * j + 1) (by simp; omega)]
        exact h9
    · rw [h2.1 (8 + 2 * j) (by simp; omega), h2.1 (8 + 2 * j + 1) (by simp; omega)]
      exact q3 j (by omega) hj2
set_option maxRecDepth 20000 in
theorem rn_X3_turnTown : mm_RN flX3 ct_X3_turnTown mm_x0 [] 1 0 2 kdX3_turnTown sp_X3_turnTown := by
  intro av M d Q h
  unfold sp_X3_turnTown at h
  split at h
  · rename_i o
    obtain ⟨rfl, ha, hq⟩ := h
    refine ⟨Nat.le_of_ble_eq_true rfl, mm_run_at (stop := [2]) (S := rr_X3_turnTown Q) kkX3_turnTown 80 ?_ (fun _ _ _ _ _ _ _ h => h)⟩
    simp only [mm_wp, mm_op, mm_nxt, mm_jmp, mm_at, mm_in, mm_nth, mm_set, mm_ok, mm_isL, mm_ret, mm_isRet, mm_bool, mm_call, mm_push, mm_rv, mm_cats, mm_cat, mm_look, mm_ft, mm_fv, mm_pf, mm_thr, mm_ent, mm_pad, mm_fl, beq_self_eq_true, cond_true, cond_false, Nat.reduceBEq, Nat.reduceEqDiff, List.drop_succ_cons, List.drop_zero, List.take_succ_cons, List.take_zero, List.reverse_cons, List.reverse_nil, List.nil_append, List.cons_append, List.length_cons, List.length_nil, Nat.reduceAdd, Nat.reduceSub, Nat.reduceLeDiff, Bool.not_false, Bool.and_true, Bool.true_and, Nat.zero_add, true_and, and_true, Nat.le_refl, true_or, or_true, reduceCtorEq, Nat.add_zero, Nat.reduceLT, Bool.and_self, Bool.not_true, Fin.isValue, Nat.reduceLeDiff, List.take_nil, List.drop_nil, mm_i1, mm_i2, mm_i3, mm_i4, mm_i5, mm_i6, mm_i7, mm_i16, mm_i17, mm_i18, mm_i19, mm_i20, mm_i21, mm_i22, mm_i23, mm_l3, mm_l4, mm_l5, mm_l6, mm_l7, mm_l18, mm_l19, mm_l20, mm_l21, mm_l22, kdX3_turnTown, ct_X3_turnTown, flX3, sp_X2_turnOrder, sp_X1_endWords, sp_X1_swapEnds, sp_X1_size, sp_X3_counted]
    exact lp_X3_turnTown hq 3 0 M (by omega) ha.rf ⟨fr.rf, fun j hj => by omega, fun _ _ _ => ⟨rfl, rfl⟩⟩
  · exact h.elim
theorem me_X3_turnTown {l : Launch} (hl : l.stackTraces = false) : mm_Met l yX3_turnTown cX3_turnTown 2 (some .int) [] 11 207 0 sp_X3_turnTown := mm_mt hl rn_X3_turnTown ⟨plX3, rfl⟩ kkX3_turnTown rfl ⟨Nat.le_of_ble_eq_true rfl, Nat.le_of_ble_eq_true rfl⟩ flkX3 (fun _ h => nomatch h) (⟨mm_pe (me_X2_turnOrder hl) mwX2_turnOrder (mm_t1 183 rfl rfl) (Nat.le_of_ble_eq_true rfl) (Nat.le_of_ble_eq_true rfl), mm_pe (me_X1_endWords hl) mwX1_endWords (mm_t1 207 rfl rfl) (Nat.le_of_ble_eq_true rfl) (Nat.le_of_ble_eq_true rfl), mm_pe (me_X1_swapEnds hl) mwX1_swapEnds (mm_t1 208 rfl rfl) (Nat.le_of_ble_eq_true rfl) (Nat.le_of_ble_eq_true rfl), mm_pe (me_X1_size hl) mwX1_size (mm_t1 131 rfl rfl) (Nat.le_of_ble_eq_true rfl) (Nat.le_of_ble_eq_true rfl), mm_pe (me_X3_counted hl) mwX3_counted (mm_t1 155 rfl rfl) (Nat.le_of_ble_eq_true rfl) (Nat.le_of_ble_eq_true rfl), trivial⟩) (mm_xe0 _) n9X3

