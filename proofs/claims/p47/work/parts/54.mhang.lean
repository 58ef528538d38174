/-! the model's town: what hangs together, starts -/
def hgJ (F T : Nat → Int) (n : Nat) (S w : Int) (i : Nat) (sn C : Int) : Prop :=
  (0 ≤ sn ∧ sn < 1073741824) ∧ (0 ≤ C ∧ C < 1024) ∧ (∀ k, bt sn k = 1 → bt S k = 1) ∧ (∀ k, bt w k = 1 → bt sn k = 1) ∧ (∀ k, k < n → fst S k → bt sn k = 1) ∧
  (∀ P, clo F T n S P → (∀ k, k < n → fst S k → P (F k)) → (∀ c : Nat, bt C c = 1 → P c) ∧ ∀ k, k < n → bt sn k = 1 → P (F k)) ∧
  (∀ k, k < i → bt sn k = 1 → bt C (F k).toNat = 1 ∧ bt C (T k).toNat = 1) ∧
  (sn = w → ∀ k, k < i → bt S k = 1 → (bt C (F k).toNat = 1 ∨ bt C (T k).toNat = 1) → bt sn k = 1) ∧
  (∀ k, k < n → bt w k = 1 → (bt C (F k).toNat = 1 ∧ bt C (T k).toNat = 1) ∨ ∀ j, j < k → bt S j = 0)
theorem hgJ_n {F T : Nat → Int} {n i : Nat} {S w sn C : Int} (h : hgJ F T n S w i sn C) (hs : bt S i = 0 ∨ (¬ (bt C (F i).toNat = 1 ∨ bt C (T i).toNat = 1) ∧ bt sn i = 0)) : hgJ F T n S w (i + 1) sn C := by
  obtain ⟨h1, h2, h3, h4, h5, h6, h7, h8, h9⟩ := h
  refine ⟨h1, h2, h3, h4, h5, h6, fun k hk hb => ?_, fun e k hk hb ht => ?_, h9⟩
  · by_cases e : k = i
    · subst e
      have := h3 k hb
      omega
    · exact h7 k (by omega) hb
  · by_cases e2 : k = i
    · subst e2
      rcases hs with hs | hs
      · omega
      · exact absurd ht hs.1
    · exact h8 e k (by omega) hb ht
theorem hgJ_c {F T : Nat → Int} {n i : Nat} {S w sn C : Int} (h : hgJ F T n S w i sn C) (hi : i < n) (hF : ∀ k, k < n → (0 ≤ F k ∧ F k < 10) ∧ (0 ≤ T k ∧ T k < 10)) (hb : bt sn i = 1) : hgJ F T n S w (i + 1) sn (mm_or C (ens (F i) (T i))) := by
  obtain ⟨h1, h2, h3, h4, h5, h6, h7, h8, h9⟩ := h
  obtain ⟨e1, e2⟩ := ens_spec (hF i hi).1 (hF i hi).2
  obtain ⟨o1, o2⟩ := or_spec h2 e1
  have hS := h3 i hb
  refine ⟨h1, o1, h3, h4, h5, fun P hP hf => ?_, fun k hk hk2 => ?_, fun e k hk hk2 ht => ?_, fun k hk hk2 => ?_⟩
  · obtain ⟨p1, p2⟩ := h6 P hP hf
    refine ⟨fun c hc => ?_, p2⟩
    have pi := p2 i hi hb
    rcases (o2 c).mp hc with h10 | h10
    · exact p1 c h10
    · rw [e2] at h10
      have := hF i hi
      by_cases x : c = (F i).toNat
      · rw [x, show (((F i).toNat : Nat) : Int) = F i by omega]
        exact pi
      · by_cases y : c = (T i).toNat
        · rw [y, show (((T i).toNat : Nat) : Int) = T i by omega]
          exact (hP i hi hS).mp pi
        · rw [if_neg (by omega)] at h10
          omega
  · by_cases x : k = i
    · subst x
      exact ⟨(o2 _).mpr (Or.inr (by rw [e2]; simp)), (o2 _).mpr (Or.inr (by rw [e2]; simp))⟩
    · have := h7 k (by omega) hk2
      exact ⟨(o2 _).mpr (Or.inl this.1), (o2 _).mpr (Or.inl this.2)⟩
  · by_cases x : k = i
    · subst x
      exact hb
    · rcases h9 i hi (by rw [← e]; exact hb) with h10 | h10
      · have hx : ∀ c, bt (mm_or C (ens (F i) (T i))) c = 1 → bt C c = 1 := fun c hc => by
          rcases (o2 c).mp hc with h11 | h11
          · exact h11
          · rw [e2] at h11
            by_cases x : c = (F i).toNat
            · rw [x]; exact h10.1
            · by_cases y : c = (T i).toNat
              · rw [y]; exact h10.2
              · rw [if_neg (by omega)] at h11
                omega
        exact h8 e k (by omega) hk2 (ht.imp (hx _) (hx _))
      · have := h10 k (by omega)
        omega
  · rcases h9 k hk hk2 with h10 | h10
    · exact Or.inl ⟨(o2 _).mpr (Or.inl h10.1), (o2 _).mpr (Or.inl h10.2)⟩
    · exact Or.inr h10
theorem orp_spec {a : Int} {i : Nat} (ha : 0 ≤ a ∧ a < 1073741824) (hi : i < 30) : (0 ≤ mm_or a (1 * 2 ^ i) ∧ mm_or a (1 * 2 ^ i) < 1073741824) ∧ ∀ k, bt (mm_or a (1 * 2 ^ i)) k = 1 ↔ (bt a k = 1 ∨ k = i) := by
  have hp := pw_lt (k := i) (by omega)
  rw [Int.one_mul]
  obtain ⟨h1, h2⟩ := mm_or_bt (a := a) (b := 2 ^ i) ⟨ha.1, by omega⟩ ⟨by omega, by omega⟩
  have h3 : ∀ k, bt (mm_or a (2 ^ i)) k = 1 ↔ (bt a k = 1 ∨ k = i) := by
    intro k
    rw [h2 k, bt_pow]
    rcases bt_01 a k with e | e <;> rw [e] <;> split <;> simp_all
  refine ⟨⟨h1.1, ?_⟩, h3⟩
  have := bt_lt (n := 30) h1 (fun k hk _ => by
    have e1 := bt_hi30 ha hk
    have e2 := h3 k
    have e3 := bt_01 (mm_or a (2 ^ i)) k
    omega)
  simpa using this
theorem hgJ_t {F T : Nat → Int} {n i : Nat} {S w sn C : Int} (h : hgJ F T n S w i sn C) (hi : i < n) (h30 : n ≤ 30) (hF : ∀ k, k < n → (0 ≤ F k ∧ F k < 10) ∧ (0 ≤ T k ∧ T k < 10)) (hS : bt S i = 1) (ht : bt C (F i).toNat = 1 ∨ bt C (T i).toNat = 1) : hgJ F T n S w i (mm_or sn (1 * 2 ^ i)) C := by
  obtain ⟨h1, h2, h3, h4, h5, h6, h7, h8, h9⟩ := h
  obtain ⟨o1, o2⟩ := orp_spec (i := i) h1 (by omega)
  refine ⟨o1, h2, fun k hk => ?_, fun k hk => (o2 k).mpr (Or.inl (h4 k hk)), fun k hk hf => (o2 k).mpr (Or.inl (h5 k hk hf)), fun P hP hf => ?_, fun k hk hk2 => ?_, fun e k hk hk2 ht2 => ?_, h9⟩
  · rcases (o2 k).mp hk with h | h
    · exact h3 k h
    · rw [h]; exact hS
  · obtain ⟨p1, p2⟩ := h6 P hP hf
    refine ⟨p1, fun k hk hk2 => ?_⟩
    rcases (o2 k).mp hk2 with h | h
    · exact p2 k hk h
    · subst h
      have := hF k hi
      rcases ht with ht | ht
      · have := p1 _ ht
        rw [show (((F k).toNat : Nat) : Int) = F k by omega] at this
        exact this
      · have := p1 _ ht
        rw [show (((T k).toNat : Nat) : Int) = T k by omega] at this
        exact (hP k hi hS).mpr this
  · rcases (o2 k).mp hk2 with h | h
    · exact h7 k hk h
    · omega
  · have hb : bt sn i = 1 := h4 i (by rw [← e]; exact (o2 i).mpr (Or.inr rfl))
    have he : sn = mm_or sn (1 * 2 ^ i) := bt_ext h1 o1 (fun j _ => by
      have h10 := o2 j
      have h11 := bt_01 sn j
      have h12 := bt_01 (mm_or sn (1 * 2 ^ i)) j
      by_cases x : j = i
      · subst x
        have := h10.mpr (Or.inr rfl)
        omega
      · by_cases y : bt sn j = 1
        · have := h10.mpr (Or.inl y)
          omega
        · have : ¬ bt (mm_or sn (1 * 2 ^ i)) j = 1 := fun z => (h10.mp z).elim y x
          omega)
    exact (o2 k).mpr (Or.inl (h8 (by rw [he]; exact e) k hk hk2 ht2))
theorem hgJ_0 {F T : Nat → Int} {n : Nat} {S w sn C : Int} (h : hgJ F T n S w n sn C) : hgJ F T n S sn 0 sn C := by
  obtain ⟨h1, h2, h3, h4, h5, h6, h7, h8, h9⟩ := h
  exact ⟨h1, h2, h3, fun _ h => h, h5, h6, fun k hk => by omega, fun _ k hk => by omega, fun k hk hb => Or.inl (h7 k hk hb)⟩
theorem hgJ_s {F T : Nat → Int} {n : Nat} {S : Int} (hS : 0 ≤ S ∧ S < 1073741824) (h30 : n ≤ 30) : hgJ F T n S (mm_and S (-S)) 0 (mm_and S (-S)) 0 := by
  obtain ⟨h1, h2⟩ := low_bit hS
  have h3 : ∀ k, bt (mm_and S (-S)) k = 1 → fst S k := fun k hk => by
    by_cases h : k < 32
    · exact (h2 k h).mp hk
    · rw [bt_hi30 h1 (by omega)] at hk
      omega
  exact ⟨h1, by omega, fun k hk => (h3 k hk).1, fun _ h => h, fun k hk hf => (h2 k (by omega)).mpr hf, fun P hP hf => ⟨fun c hc => by rw [bt_0] at hc; omega, fun k hk hb => hf k hk (h3 k hb)⟩, fun k hk => by omega, fun _ k hk => by omega, fun k hk hb => Or.inr (h3 k hb).2⟩
theorem hgJ_e {F T : Nat → Int} {n : Nat} {S sn C : Int} (hS : 0 ≤ S ∧ S < 1073741824) (hsub : ∀ k, bt S k = 1 → k < n) (h : hgJ F T n S sn n sn C) : sn = S ↔ HG F T n S := by
  obtain ⟨h1, h2, h3, h4, h5, h6, h7, h8, h9⟩ := h
  constructor
  · intro e P hP ⟨k1, hk1, hS1, hp1⟩ k hk hSk
    obtain ⟨k0, hk0, hf⟩ := fst_ex ⟨k, hk, hSk⟩
    by_cases h0 : P (F k0)
    · exact (h6 P hP (fun j hj hfj => by rw [fst_un hfj hf]; exact h0)).2 k hk (by rw [e]; exact hSk)
    · exfalso
      have := (h6 (fun c => ¬ P c) (fun j hj hSj => not_congr (hP j hj hSj)) (fun j hj hfj => by rw [fst_un hfj hf]; exact h0)).2 k1 hk1 (by rw [e]; exact hS1)
      exact this hp1
  · intro hH
    refine bt_ext h1 hS (fun k _ => ?_)
    have b1 := bt_01 sn k
    have b2 := bt_01 S k
    have h10 := h3 k
    have h11 : bt S k = 1 → bt sn k = 1 := fun hSk => by
      have hk := hsub k hSk
      obtain ⟨k0, hk0, hf⟩ := fst_ex ⟨k, hk, hSk⟩
      have cl : clo F T n S (fun c => bt C c.toNat = 1) := fun j hj hSj => ⟨fun h => (h7 j hj (h8 rfl j hj hSj (Or.inl h))).2, fun h => (h7 j hj (h8 rfl j hj hSj (Or.inr h))).1⟩
      have := hH (fun c => bt C c.toNat = 1) cl ⟨k0, hk0, hf.1, (h7 k0 hk0 (h5 k0 hk0 hf)).1⟩ k hk hSk
      exact h8 rfl k hk hSk (Or.inl this)
    omega
def sp_X5_hang : mm_S := fun av M d Q => match av with
  | [.inr (.inr (.inl o)), .inl S] =>  o = 17 ∧ tX M ∧ (0 ≤ S ∧ S < 1073741824) ∧ (∀ k, bt S k = 1 → k < (M 17 1).toNat) ∧ ∀ r, (HG (M 18) (M 19) (M 17 1).toNat S → r = 1) ∧ (¬ HG (M 18) (M 19) (M 17 1).toNat S → r = 0) → Q (.inl (some (mm_I r))) M d
  | _ => False
def ct_X5_hang : List (Nat × mm_Ca) := [(52, (1, 2, 0, sp_X5_has, 0))]
abbrev rr_X5_hang (Q : mm_Q) := mm_run (mm_look flX5) (mm_look ct_X5_hang) mm_x0 (mm_look ([] : List (Nat × Int))) (fun _ => none) 2 0 (fun _ _ => none) Q kdX5_hang
set_option maxRecDepth 20000 in
theorem lp2_X5_hang {M : mm_M} {d : List Nat} {Q : mm_Q} {S w : Int} {n : Nat} (ht : tX M) (hS : 0 ≤ S ∧ S < 1073741824) (hn : M 17 1 = n) (hw : InI w) (hq : ∀ sn C x5, hgJ (M 18) (M 19) n S w n sn C → rr_X5_hang Q 10 [some (mm_R 17), some (mm_I S), some (mm_I sn), some (mm_I C), some (mm_I w), x5] [] M d 0) : ∀ (k i : Nat) (sn C : Int), i + k = n → hgJ (M 18) (M 19) n S w i sn C → rr_X5_hang Q 22 [some (mm_R 17), some (mm_I S), some (mm_I sn), some (mm_I C), some (mm_I w), some (mm_I i)] [] M d 0 := by
  obtain ⟨t1, t2, t3, t4, t5⟩ := id ht
  intro k
  induction k with
  | zero =>
    intro i sn C hi hJ
    refine mm_run_at (stop := [22, 10, 71, 78]) (S := rr_X5_hang Q) kkX5_hang 80 ?_ (fun _ _ _ _ _ _ _ h => h)
    simp (config := { maxSteps := 4000000 }) only [mm_wp, mm_op, mm_nxt, mm_jmp, mm_at, mm_in, mm_nth, mm_set, mm_ok, mm_isL, mm_ret, mm_isRet, mm_bool, mm_call, mm_push, mm_rv, mm_cats, mm_cat, mm_look, mm_ft, mm_fv, mm_pf, mm_thr, mm_ent, mm_pad, mm_fl, beq_self_eq_true, cond_true, cond_false, Nat.reduceBEq, Nat.reduceEqDiff, List.drop_succ_cons, List.drop_zero, List.take_succ_cons, List.take_zero, List.reverse_cons, List.reverse_nil, List.nil_append, List.cons_append, List.length_cons, List.length_nil, Nat.reduceAdd, Nat.reduceSub, Nat.reduceLeDiff, Bool.not_false, Bool.and_true, Bool.true_and, Nat.zero_add, true_and, and_true, Nat.le_refl, true_or, or_true, reduceCtorEq, Nat.add_zero, Nat.reduceLT, Bool.and_self, Bool.not_true, Fin.isValue, Nat.reduceLeDiff, List.take_nil, List.drop_nil, mm_i1, mm_i2, mm_i3, mm_i4, mm_i5, mm_i6, mm_i7, mm_i16, mm_i17, mm_i18, mm_i19, mm_i20, mm_i21, mm_i22, mm_i23, mm_l3, mm_l4, mm_l5, mm_l6, mm_l7, mm_l18, mm_l19, mm_l20, mm_l21, mm_l22, kdX5_hang, ct_X5_hang, flX5, sp_X5_has]
    rw [hn]
    have e : i = n := by omega
    subst e
    exact ⟨⟨by omega, by omega⟩, ⟨by omega, by omega⟩, fun _ => hq sn C _ hJ, fun h => by omega⟩
  | succ k ih =>
    intro i sn C hi hJ
    have b1 := t2 i (by omega)
    have hb := bt_01 S i
    have j1 := hJ.1
    have j2 := hJ.2.1
    have hF : ∀ k, k < n → (0 ≤ M 18 k ∧ M 18 k < 10) ∧ (0 ≤ M 19 k ∧ M 19 k < 10) := fun k hk => t2 k (by omega)
    have hstep : ∀ sn C, hgJ (M 18) (M 19) n S w (i + 1) sn C → rr_X5_hang Q 22 [some (mm_R 17), some (mm_I S), some (mm_I sn), some (mm_I C), some (mm_I w), some (mm_I ((i : Int) + 1))] [] M d 0 := fun sn C h => ih (i + 1) sn C (by omega) h
    obtain ⟨o1, o2⟩ := orp_spec (i := i) j1 (by omega)
    have bs := bt_01 sn i
    have cf := bt_01 C (M 18 i).toNat
    have ct := bt_01 C (M 19 i).toNat
    have tail : ∀ sn2, hgJ (M 18) (M 19) n S w i sn2 C → bt S i = 1 → (bt sn2 i = 1 ∨ ¬ (bt C (M 18 i).toNat = 1 ∨ bt C (M 19 i).toNat = 1)) → rr_X5_hang Q 78 [some (mm_R 17), some (mm_I S), some (mm_I sn2), some (mm_I C), some (mm_I w), some (mm_I i)] [] M d 0 := by
      intro sn2 h2 hs hor
      have q1 := h2.1
      have b9 := bt_01 sn2 i
      refine mm_run_at (stop := [22, 10, 71, 78]) (S := rr_X5_hang Q) kkX5_hang 80 ?_ (fun _ _ _ _ _ _ _ h => h)
      simp (config := { maxSteps := 4000000 }) only [mm_wp, mm_op, mm_nxt, mm_jmp, mm_at, mm_in, mm_nth, mm_set, mm_ok, mm_isL, mm_ret, mm_isRet, mm_bool, mm_call, mm_push, mm_rv, mm_cats, mm_cat, mm_look, mm_ft, mm_fv, mm_pf, mm_thr, mm_ent, mm_pad, mm_fl, beq_self_eq_true, cond_true, cond_false, Nat.reduceBEq, Nat.reduceEqDiff, List.drop_succ_cons, List.drop_zero, List.take_succ_cons, List.take_zero, List.reverse_cons, List.reverse_nil, List.nil_append, List.cons_append, List.length_cons, List.length_nil, Nat.reduceAdd, Nat.reduceSub, Nat.reduceLeDiff, Bool.not_false, Bool.and_true, Bool.true_and, Nat.zero_add, true_and, and_true, Nat.le_refl, true_or, or_true, reduceCtorEq, Nat.add_zero, Nat.reduceLT, Bool.and_self, Bool.not_true, Fin.isValue, Nat.reduceLeDiff, List.take_nil, List.drop_nil, mm_i1, mm_i2, mm_i3, mm_i4, mm_i5, mm_i6, mm_i7, mm_i16, mm_i17, mm_i18, mm_i19, mm_i20, mm_i21, mm_i22, mm_i23, mm_l3, mm_l4, mm_l5, mm_l6, mm_l7, mm_l18, mm_l19, mm_l20, mm_l21, mm_l22, kdX5_hang, ct_X5_hang, flX5, sp_X5_has]
      simp only [Int.toNat_natCast]
      refine ⟨⟨by omega, by omega⟩, ⟨by omega, by omega⟩, fun r hr => ⟨?_, fun h0 => hstep _ _ (hgJ_n h2 (Or.inr ⟨?_, by omega⟩)), fun h0 => ⟨⟨by omega, by omega⟩, ⟨by omega, by omega⟩, ⟨by omega, by omega⟩, ⟨by omega, by omega⟩, hstep _ _ (hgJ_c h2 (by omega) hF (by omega))⟩⟩⟩
      · rcases b9 with e | e
        · rw [hr.2 e]; exact ⟨by omega, by omega⟩
        · rw [hr.1 e]; exact ⟨by omega, by omega⟩
      · rcases hor with h | h
        · omega
        · exact h
    have t71 : bt S i = 1 → (bt C (M 18 i).toNat = 1 ∨ bt C (M 19 i).toNat = 1) → rr_X5_hang Q 71 [some (mm_R 17), some (mm_I S), some (mm_I sn), some (mm_I C), some (mm_I w), some (mm_I i)] [] M d 0 := by
      intro hs ht2
      refine mm_run_at (stop := [22, 10, 78]) (S := rr_X5_hang Q) kkX5_hang 80 ?_ (fun _ _ _ _ _ _ _ h => h)
      simp (config := { maxSteps := 4000000 }) only [mm_wp, mm_op, mm_nxt, mm_jmp, mm_at, mm_in, mm_nth, mm_set, mm_ok, mm_isL, mm_ret, mm_isRet, mm_bool, mm_call, mm_push, mm_rv, mm_cats, mm_cat, mm_look, mm_ft, mm_fv, mm_pf, mm_thr, mm_ent, mm_pad, mm_fl, beq_self_eq_true, cond_true, cond_false, Nat.reduceBEq, Nat.reduceEqDiff, List.drop_succ_cons, List.drop_zero, List.take_succ_cons, List.take_zero, List.reverse_cons, List.reverse_nil, List.nil_append, List.cons_append, List.length_cons, List.length_nil, Nat.reduceAdd, Nat.reduceSub, Nat.reduceLeDiff, Bool.not_false, Bool.and_true, Bool.true_and, Nat.zero_add, true_and, and_true, Nat.le_refl, true_or, or_true, reduceCtorEq, Nat.add_zero, Nat.reduceLT, Bool.and_self, Bool.not_true, Fin.isValue, Nat.reduceLeDiff, List.take_nil, List.drop_nil, mm_i1, mm_i2, mm_i3, mm_i4, mm_i5, mm_i6, mm_i7, mm_i16, mm_i17, mm_i18, mm_i19, mm_i20, mm_i21, mm_i22, mm_i23, mm_l3, mm_l4, mm_l5, mm_l6, mm_l7, mm_l18, mm_l19, mm_l20, mm_l21, mm_l22, kdX5_hang, ct_X5_hang, flX5, sp_X5_has]
      simp only [Int.toNat_natCast]
      exact ⟨⟨by omega, by omega⟩, tail _ (hgJ_t hJ (by omega) (by omega) hF hs ht2) hs (Or.inl ((o2 i).mpr (Or.inr rfl)))⟩
    refine mm_run_at (stop := [22, 10, 71, 78]) (S := rr_X5_hang Q) kkX5_hang 80 ?_ (fun _ _ _ _ _ _ _ h => h)
    simp (config := { maxSteps := 4000000 }) only [mm_wp, mm_op, mm_nxt, mm_jmp, mm_at, mm_in, mm_nth, mm_set, mm_ok, mm_isL, mm_ret, mm_isRet, mm_bool, mm_call, mm_push, mm_rv, mm_cats, mm_cat, mm_look, mm_ft, mm_fv, mm_pf, mm_thr, mm_ent, mm_pad, mm_fl, beq_self_eq_true, cond_true, cond_false, Nat.reduceBEq, Nat.reduceEqDiff, List.drop_succ_cons, List.drop_zero, List.take_succ_cons, List.take_zero, List.reverse_cons, List.reverse_nil, List.nil_append, List.cons_append, List.length_cons, List.length_nil, Nat.reduceAdd, Nat.reduceSub, Nat.reduceLeDiff, Bool.not_false, Bool.and_true, Bool.true_and, Nat.zero_add, true_and, and_true, Nat.le_refl, true_or, or_true, reduceCtorEq, Nat.add_zero, Nat.reduceLT, Bool.and_self, Bool.not_true, Fin.isValue, Nat.reduceLeDiff, List.take_nil, List.drop_nil, mm_i1, mm_i2, mm_i3, mm_i4, mm_i5, mm_i6, mm_i7, mm_i16, mm_i17, mm_i18, mm_i19, mm_i20, mm_i21, mm_i22, mm_i23, mm_l3, mm_l4, mm_l5, mm_l6, mm_l7, mm_l18, mm_l19, mm_l20, mm_l21, mm_l22, kdX5_hang, ct_X5_hang, flX5, sp_X5_has]
    rw [hn]
    simp only [Int.toNat_natCast]
    refine ⟨⟨by omega, by omega⟩, ⟨by omega, by omega⟩, fun h => by omega, fun _ => ⟨⟨by omega, by omega⟩, ⟨by omega, by omega⟩, fun r hr => ⟨?_, fun h0 => ⟨by omega, ⟨by omega, by omega⟩, ⟨by omega, by omega⟩, fun r2 hr2 => ⟨?_, fun h2 => t71 (by omega) (Or.inl (by omega)), fun h2 => ⟨by omega, ⟨by omega, by omega⟩, ⟨by omega, by omega⟩, fun r3 hr3 => ⟨?_, fun h3 => tail sn hJ (by omega) (Or.inr (by omega)), fun h3 => t71 (by omega) (Or.inr (by omega))⟩⟩⟩⟩, fun h0 => hstep _ _ (hgJ_n hJ (Or.inl (by omega)))⟩⟩⟩
    · rcases hb with e | e
      · rw [hr.2 e]; exact ⟨by omega, by omega⟩
      · rw [hr.1 e]; exact ⟨by omega, by omega⟩
    · rcases cf with e | e
      · rw [hr2.2 e]; exact ⟨by omega, by omega⟩
      · rw [hr2.1 e]; exact ⟨by omega, by omega⟩
    · rcases ct with e | e
      · rw [hr3.2 e]; exact ⟨by omega, by omega⟩
      · rw [hr3.1 e]; exact ⟨by omega, by omega⟩
set_option maxRecDepth 20000 in
theorem lp_X5_hang {M : mm_M} {d : List Nat} {Q : mm_Q} {S : Int} {n : Nat} (ht : tX M) (hS : 0 ≤ S ∧ S < 1073741824) (hsub : ∀ k, bt S k = 1 → k < n) (hn : M 17 1 = n) (hq : ∀ r, (HG (M 18) (M 19) n S → r = 1) ∧ (¬ HG (M 18) (M 19) n S → r = 0) → Q (.inl (some (mm_I r))) M d) : ∀ (k : Nat) (sn C w : Int) (x5 : Option mm_V), 1073741824 - sn ≤ k → InI w → (0 ≤ sn ∧ sn < 1073741824) → hgJ (M 18) (M 19) n S sn 0 sn C → (sn = w → hgJ (M 18) (M 19) n S sn n sn C) → rr_X5_hang Q 10 [some (mm_R 17), some (mm_I S), some (mm_I sn), some (mm_I C), some (mm_I w), x5] [] M d 0 := by
  have t1 := ht.1
  intro k
  induction k with
  | zero =>
    intro sn C w x5 hk hw hs hJ hE
    omega
  | succ k ih =>
    intro sn C w x5 hk hw hs hJ hE
    refine mm_run_at (stop := [10, 22]) (S := rr_X5_hang Q) kkX5_hang 80 ?_ (fun _ _ _ _ _ _ _ h => h)
    simp (config := { maxSteps := 4000000 }) only [mm_wp, mm_op, mm_nxt, mm_jmp, mm_at, mm_in, mm_nth, mm_set, mm_ok, mm_isL, mm_ret, mm_isRet, mm_bool, mm_call, mm_push, mm_rv, mm_cats, mm_cat, mm_look, mm_ft, mm_fv, mm_pf, mm_thr, mm_ent, mm_pad, mm_fl, beq_self_eq_true, cond_true, cond_false, Nat.reduceBEq, Nat.reduceEqDiff, List.drop_succ_cons, List.drop_zero, List.take_succ_cons, List.take_zero, List.reverse_cons, List.reverse_nil, List.nil_append, List.cons_append, List.length_cons, List.length_nil, Nat.reduceAdd, Nat.reduceSub, Nat.reduceLeDiff, Bool.not_false, Bool.and_true, Bool.true_and, Nat.zero_add, true_and, and_true, Nat.le_refl, true_or, or_true, reduceCtorEq, Nat.add_zero, Nat.reduceLT, Bool.and_self, Bool.not_true, Fin.isValue, Nat.reduceLeDiff, List.take_nil, List.drop_nil, mm_i1, mm_i2, mm_i3, mm_i4, mm_i5, mm_i6, mm_i7, mm_i16, mm_i17, mm_i18, mm_i19, mm_i20, mm_i21, mm_i22, mm_i23, mm_l3, mm_l4, mm_l5, mm_l6, mm_l7, mm_l18, mm_l19, mm_l20, mm_l21, mm_l22, kdX5_hang, ct_X5_hang, flX5, sp_X5_has]
    refine ⟨⟨by omega, by omega⟩, hw, fun h => ⟨⟨by omega, by omega⟩, ⟨by omega, by omega⟩, fun h2 => ?_, fun h2 => ?_⟩, fun h => ?_⟩
    · exact hq 0 ⟨fun h3 => absurd ((hgJ_e hS hsub (hE h)).mpr h3) h2, fun _ => rfl⟩
    · exact hq 1 ⟨fun _ => rfl, fun h3 => absurd ((hgJ_e hS hsub (hE h)).mp h2) h3⟩
    · refine lp2_X5_hang ht hS hn ⟨by omega, by omega⟩ (fun sn2 C2 x5 h2 => ?_) n 0 sn C (by omega) hJ
      have q1 := h2.1
      have hle := bt_sub_le hs.1 q1.1 h2.2.2.2.1
      by_cases e : sn2 = sn
      · subst e
        refine mm_run_at (stop := [10, 22]) (S := rr_X5_hang Q) kkX5_hang 80 ?_ (fun _ _ _ _ _ _ _ h => h)
        simp (config := { maxSteps := 4000000 }) only [mm_wp, mm_op, mm_nxt, mm_jmp, mm_at, mm_in, mm_nth, mm_set, mm_ok, mm_isL, mm_ret, mm_isRet, mm_bool, mm_call, mm_push, mm_rv, mm_cats, mm_cat, mm_look, mm_ft, mm_fv, mm_pf, mm_thr, mm_ent, mm_pad, mm_fl, beq_self_eq_true, cond_true, cond_false, Nat.reduceBEq, Nat.reduceEqDiff, List.drop_succ_cons, List.drop_zero, List.take_succ_cons, List.take_zero, List.reverse_cons, List.reverse_nil, List.nil_append, List.cons_append, List.length_cons, List.length_nil, Nat.reduceAdd, Nat.reduceSub, Nat.reduceLeDiff, Bool.not_false, Bool.and_true, Bool.true_and, Nat.zero_add, true_and, and_true, Nat.le_refl, true_or, or_true, reduceCtorEq, Nat.add_zero, Nat.reduceLT, Bool.and_self, Bool.not_true, Fin.isValue, Nat.reduceLeDiff, List.take_nil, List.drop_nil, mm_i1, mm_i2, mm_i3, mm_i4, mm_i5, mm_i6, mm_i7, mm_i16, mm_i17, mm_i18, mm_i19, mm_i20, mm_i21, mm_i22, mm_i23, mm_l3, mm_l4, mm_l5, mm_l6, mm_l7, mm_l18, mm_l19, mm_l20, mm_l21, mm_l22, kdX5_hang, ct_X5_hang, flX5, sp_X5_has]
        refine ⟨⟨by omega, by omega⟩, ⟨by omega, by omega⟩, fun _ => ⟨⟨by omega, by omega⟩, ⟨by omega, by omega⟩, fun h5 => ?_, fun h5 => ?_⟩, fun h9 => absurd rfl h9⟩
        · exact hq 0 ⟨fun h3 => absurd ((hgJ_e hS hsub h2).mpr h3) h5, fun _ => rfl⟩
        · exact hq 1 ⟨fun _ => rfl, fun h3 => absurd ((hgJ_e hS hsub h2).mp h5) h3⟩
      · exact ih sn2 C2 sn x5 (by omega) ⟨by omega, by omega⟩ q1 (hgJ_0 h2) (fun h3 => absurd h3 e)
set_option maxRecDepth 20000 in
theorem rn_X5_hang : mm_RN flX5 ct_X5_hang mm_x0 [] 2 0 6 kdX5_hang sp_X5_hang := by
  intro av M d Q h
  unfold sp_X5_hang at h
  split at h
  · rename_i o S
    obtain ⟨rfl, ht, hS, hsub, hq⟩ := h
    have h1 := ht.1
    obtain ⟨n, hn⟩ := Int.eq_ofNat_of_zero_le h1.1
    rw [hn] at hsub
    have hl := low_bit hS
    refine ⟨Nat.le_of_ble_eq_true rfl, mm_run_at (stop := [10]) (S := rr_X5_hang Q) kkX5_hang 80 ?_ (fun _ _ _ _ _ _ _ h => h)⟩
    simp (config := { maxSteps := 4000000 }) only [mm_wp, mm_op, mm_nxt, mm_jmp, mm_at, mm_in, mm_nth, mm_set, mm_ok, mm_isL, mm_ret, mm_isRet, mm_bool, mm_call, mm_push, mm_rv, mm_cats, mm_cat, mm_look, mm_ft, mm_fv, mm_pf, mm_thr, mm_ent, mm_pad, mm_fl, beq_self_eq_true, cond_true, cond_false, Nat.reduceBEq, Nat.reduceEqDiff, List.drop_succ_cons, List.drop_zero, List.take_succ_cons, List.take_zero, List.reverse_cons, List.reverse_nil, List.nil_append, List.cons_append, List.length_cons, List.length_nil, Nat.reduceAdd, Nat.reduceSub, Nat.reduceLeDiff, Bool.not_false, Bool.and_true, Bool.true_and, Nat.zero_add, true_and, and_true, Nat.le_refl, true_or, or_true, reduceCtorEq, Nat.add_zero, Nat.reduceLT, Bool.and_self, Bool.not_true, Fin.isValue, Nat.reduceLeDiff, List.take_nil, List.drop_nil, mm_i1, mm_i2, mm_i3, mm_i4, mm_i5, mm_i6, mm_i7, mm_i16, mm_i17, mm_i18, mm_i19, mm_i20, mm_i21, mm_i22, mm_i23, mm_l3, mm_l4, mm_l5, mm_l6, mm_l7, mm_l18, mm_l19, mm_l20, mm_l21, mm_l22, kdX5_hang, ct_X5_hang, flX5, sp_X5_has]
    refine lp_X5_hang ht hS hsub hn (fun r h => hq r (by rw [hn]; exact h)) 1073741824 _ 0 (-1) none (by omega) ⟨by omega, by omega⟩ hl.1 (hgJ_s hS (by omega)) (fun h => by omega)
  · exact h.elim
theorem me_X5_hang {l : Launch} (hl : l.stackTraces = false) : mm_Met l yX5_hang cX5_hang 6 (some .boolean) [] 7 121 0 sp_X5_hang := mm_mt hl rn_X5_hang ⟨by decide, rfl⟩ kkX5_hang rfl ⟨by decide, by decide⟩ flkX5 (fun _ h => nomatch h) (⟨mm_pe (me_X5_has hl) mwX5_has (mm_t6 221 rfl rfl) (Nat.le_of_ble_eq_true rfl) (Nat.le_of_ble_eq_true rfl), trivial⟩) (mm_xe0 _)

