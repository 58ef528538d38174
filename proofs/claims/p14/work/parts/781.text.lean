/-! the two texts: they make objects and forget them -/
/-- each side's order looks at its own objects alone -/
theorem vX_kp {M M' : mm_M} (e : ∀ o, 17 ≤ o → o ≤ 22 → M' o = M o) : vX M' = vX M := by
  funext o k
  unfold vX vX1 vX2 vXw vXs vXc
  rw [e 17 (by omega) (by omega), e 18 (by omega) (by omega), e 19 (by omega) (by omega), e 20 (by omega) (by omega), e 21 (by omega) (by omega), e 22 (by omega) (by omega)]
theorem xA.kp {M M' : mm_M} (h : xA M) (e : ∀ o, 17 ≤ o → o ≤ 22 → M' o = M o) : xA M' := by
  unfold xA
  rw [vX_kp e, e 17 (by omega) (by omega)]
  exact h
theorem wA.kp {M M' : mm_M} (h : wA M) (e : ∀ o, 1 ≤ o → o ≤ 16 → M' o = M o) : wA M' := by
  refine ⟨?_, fun w hw => ?_, h.2.2.to (e 16 (by omega) (by omega)) (fun h1 _ => ?_)⟩
  · have ht := h.1
    unfold tW at *
    rw [e 2 (by omega) (by omega), e 3 (by omega) (by omega), e 4 (by omega) (by omega)]
    exact ht
  · have := isK_le hw.k
    exact wV.me (h.2.1 w hw) (e _ (by omega) (by omega)) (e _ (by omega) (by omega)) (e _ (by omega) (by omega))
  · have := isK_le (h.2.2.1.resolve_left h1).k
    rw [e _ (by omega) (by omega)]
    exact Int.le_refl _
/-- what an answer that is a new object is, forgotten -/
def fg (Q : mm_Q) : mm_Q := fun o M' d' => Q o M' d' ∨ ∃ (q : Nat) (M0 : mm_M) (d0 : List Nat), o = .inl (some (mm_R (q + 100))) ∧ bX M0 d0 M' d' ∧ Q (.inl (some (mm_X q))) M0 d0
theorem bX_ws {E : mm_En} {Ad : Nat → Nat} {M0 M : mm_M} {d0 d : List Nat} (h : bX M0 d0 M d) : ∃ r, mm_ws E Ad M d = mm_ws E Ad M0 d0 ++ r := by
  obtain ⟨⟨d1, rfl⟩, h2⟩ := h
  refine ⟨d1.map (fun o => (mm_ad Ad o, mm_el E Ad M o)), ?_⟩
  unfold mm_ws
  rw [show mm_ids (d0 ++ d1) = mm_ids d0 ++ d1 by simp [mm_ids], List.map_append]
  congr 1
  refine List.map_congr_left (fun x hx => ?_)
  congr 1
  by_cases h0 : x = 0
  · subst h0
    rfl
  · obtain ⟨e1, e2, e3⟩ := h2 x hx h0
    simp only [mm_el, e2, e3, mm_fs, e1]
theorem va_P_pre {D : va_G} {cl : List vw_C} {ws r : va_W} {H : Heap} (h : va_P D cl (ws ++ r) H) : va_P D cl ws H := fun k q hk => h k q (by
  rw [List.getElem?_append_left (List.getElem?_eq_some_iff.mp hk).1]
  exact hk)
theorem va_D_pre {A : Nat → Prop} {ws r : va_W} (h : va_D A (ws ++ r)) : va_D A ws := by
  have e : ∀ (k : Nat) (q : Nat × va_E), ws[k]? = some q → (ws ++ r)[k]? = some q := fun k q hk => by
    rw [List.getElem?_append_left (List.getElem?_eq_some_iff.mp hk).1]
    exact hk
  exact ⟨fun i j p q hp hq => h.1 i j p q (e i p hp) (e j q hq), fun k q hk => h.2 k q (e k q hk)⟩
theorem mm_fgt {l : Launch} {y : MethodName} {b : ByteArray} {maxL : Nat} {ret : Option FieldType} {hh : List (Nat × Nat × Nat × Nat)} {fr lo mu : Nat} {sp : mm_S} (h : mm_Met l y b maxL ret hh fr lo mu sp) : mm_Met l y b maxL ret hh fr lo mu (fun av M d Q => sp av M d (fg Q)) := by
  intro D E Ad sz av M d Q hsp p e h1 h2 h3 s m args below hf ha hp hk
  obtain ⟨n, o, a, b, c, q⟩ := h D E Ad sz av M d (fg Q) hsp p e h1 h2 h3 s m args below hf ha hp hk
  refine ⟨n, o, a, b, c, ?_⟩
  rcases q with ⟨⟨⟨r, M', d', hq, he, hP, hD⟩, hF⟩, hL⟩ | ⟨q, he, En, ce, L, ⟨⟨k, M', d', hq, hE, hP, hD⟩, hF⟩, hr⟩
  · refine Or.inl ⟨?_, hL⟩
    rcases hq with hq | ⟨q, M0, d0, hr, hX, hq⟩
    · exact ⟨⟨r, M', d', hq, he, hP, hD⟩, hF⟩
    · cases hr
      obtain ⟨r9, e9⟩ := bX_ws (E := E) (Ad := Ad) hX
      rw [e9] at hP hD
      refine ⟨⟨some (mm_X q), M0, d0, hq, ?_, va_P_pre hP, va_D_pre hD⟩, hF⟩
      have e1 : mm_cc Ad (mm_R (q + 100)) = mm_cc Ad (mm_X q) := by
        rw [mm_ref (by omega)]
        unfold mm_ad
        rw [if_neg (by omega), Nat.add_sub_cancel]
        rfl
      rw [he, Option.map_some, Option.map_some, e1]
  · refine Or.inr ⟨q, he, En, ce, L, ⟨?_, hF⟩, hr⟩
    rcases hq with hq | ⟨q, M0, d0, hr, hX, hq⟩
    · exact ⟨k, M', d', hq, hE, hP, hD⟩
    · cases hr
theorem bX.st {M0 M : mm_M} {d0 d : List Nat} (h : bX M0 d0 M d) {o : Nat} (ho : 1 ≤ o ∧ o ≤ 23) : M o = M0 o := (h.2 o (List.mem_append_left _ (by simp only [mm_st, List.mem_cons, List.not_mem_nil, or_false]; omega)) (by omega)).1
theorem bX.wA {M0 M : mm_M} {d0 d : List Nat} (h : bX M0 d0 M d) (ha : wA M0) : wA M := ha.kp (fun o h1 h2 => h.st ⟨h1, by omega⟩)
theorem bX.xA {M0 M : mm_M} {d0 d : List Nat} (h : bX M0 d0 M d) (ha : xA M0) : xA M := ha.kp (fun o h1 h2 => h.st ⟨by omega, by omega⟩)
theorem isW3_le {w : Nat} (h : isW3 w) : w = 8 ∨ w = 10 ∨ w = 12 := by
  unfold isW3 at h
  omega
def flJ_X3_text : List (Nat × Nat × Nat) := [(242, 16, 99), (240, 0, 97)]
theorem flJ_X3_text_k : ∀ q ∈ flJ_X3_text, mm_lj RX3 mm_U q.2.1 q.2.2 q.1 := by
  intro q hq
  simp only [flJ_X3_text, List.mem_cons, List.not_mem_nil, or_false] at hq
  rcases hq with rfl | rfl
  · exact Or.inr ⟨by decide, (List.forall_mem_cons.mpr ⟨mm_T_U _ (mm_t4 188 rfl rfl), (List.forall_mem_cons.mpr ⟨mm_T_U _ (mm_t4 189 rfl rfl), (List.forall_mem_cons.mpr ⟨mm_T_U _ (mm_t1 13 rfl rfl), (fun _ h => nomatch h)⟩)⟩)⟩), (fun h => absurd h (by decide)), (fun h => absurd h (by decide))⟩
  · exact Or.inr ⟨by decide, (fun _ h => nomatch h), (fun _ => Or.inl ⟨rfl, Or.inl ⟨rfl, rfl⟩⟩), (fun h => absurd h (by decide))⟩
def flX3_text : List (Nat × Nat × Nat) := flJ_X3_text ++ flX3
theorem flX3_text_k : ∀ q ∈ flX3_text, mm_lj RX3 mm_U q.2.1 q.2.2 q.1 := fun q hq => (List.mem_append.mp hq).elim (flJ_X3_text_k q) (fun h => Or.inl ⟨(by decide : ∀ q ∈ flX3, q.2.2 < 90) q h, flkX3 q h⟩)
def sp_X3_text : mm_S := fun av M d Q => match av with
  | [.inr (.inr (.inl o)), .inl a, .inl b] =>  o = 1 ∧ wA M ∧ InI a ∧ InI b ∧ (∀ q, Q (.inl (some (mm_X q))) M d) ∧ (∀ M' d' o', bX M d M' d' → 100 ≤ o' → Q (.inl (some (mm_R o'))) M' d') ∧ (∀ k, k = 0 ∨ k = 1 → Q (.inr k) M d)
  | _ => False
def ct_X3_text : List (Nat × mm_Ca) := [(145, (0, 2, 10, sp_X3_walkOf, 1)), (59, (1, 3, 0, sp_X3_checkRange, 1)), (237, (0, 1, 11, sp_X1_isOfWords, 0)), (149, (0, 1, 12, sp_X2_size, 0)), (249, (0, 4, 10, sp_X3_numberAt, 0)), (244, (2, 1, 16, sp_J_binit, 2)), (245, (0, 2, 16, sp_J_bappC, 19)), (253, (0, 2, 16, sp_J_bappI, 19)), (256, (0, 1, 16, sp_J_toString, 20))]
abbrev rr_X3_text (Q : mm_Q) := mm_run (mm_look flX3_text) (mm_look ct_X3_text) mm_x0 (mm_look ([] : List (Nat × Int))) (fun _ => none) 4 1215 (fun _ _ => none) Q kdX3_text
set_option maxRecDepth 20000 in
theorem rn_X3_text : mm_RN flX3_text ct_X3_text mm_x0 [] 4 1215 7 kdX3_text sp_X3_text := by
  intro av M d Q h
  unfold sp_X3_text at h
  split at h
  · rename_i o a b
    obtain ⟨rfl, ha, h1, h2, hq0, hq1, hx⟩ := h
    obtain ⟨K, hK, hK2⟩ : ∃ K : Nat → mm_K, (∀ t ls st M d u, K t ls st M d u → rr_X3_text Q t ls st M d u) ∧ (∀ t ls st M d u, rr_X3_text Q t ls st M d u → K t ls st M d u) := ⟨rr_X3_text Q, fun _ _ _ _ _ _ h => h, fun _ _ _ _ _ _ h => h⟩
    have k106 : ∀ M' d' o' u ls, bX M d M' d' → 100 ≤ o' → u ≤ 1215 → K 106 ls [mm_R o'] M' d' u := by
      intro M' d' o' u ls h ho hu
      have fin := hq1 _ _ o' h ho
      refine hK2 _ _ _ _ _ _ ?_
      refine mm_run_at (stop := []) (S := K) kkX3_text 90 ?_ (fun _ _ _ _ _ _ _ h => hK _ _ _ _ _ _ h)
      repeat' (first | with_reducible assumption | ((with_reducible show mm_rv _ _ _ _ _); first | exact True.intro) | ((with_reducible show mm_bool _ _); first | exact True.intro | exact Or.inl rfl | exact Or.inr rfl | (show (_ : Int) = 0 ∨ _ = 1)) | refine And.intro ?_ ?_ | intro _ | with_reducible exact True.intro | exact rfl | with_reducible exact Or.inl rfl | with_reducible exact Or.inr rfl | exact Nat.le_of_ble_eq_true rfl)
      all_goals (try simp (disch := omega) only [InI, Int.toNat_natCast, Int.tmod_eq_emod_of_nonneg, Int.tdiv_eq_ediv_of_nonneg, true_implies, true_or, or_true, mm_l18, mm_l19, mm_l20, mm_l21, mm_l22] at *)
      all_goals first | omega | skip
    have k101 : ∀ M' d' bo cnt u w n i, sC M d M' d' bo cnt 0 → u ≤ 1195 → K 101 [some (mm_R 1), some (mm_I a), some (mm_I b), some (mm_R w), some (mm_I n), some (mm_R bo), some (mm_I i)] [] M' d' u := by
      intro M' d' bo cnt u w n i hs hu
      have hb := hs.2.1.1
      refine hK2 _ _ _ _ _ _ ?_
      refine mm_run_at (stop := [106]) (S := K) kkX3_text 90 ?_ (fun _ _ _ _ _ _ _ h => hK _ _ _ _ _ _ h)
      refine mj5 rfl (Nat.le_of_ble_eq_true rfl) (by exact hb) (Nat.le_of_ble_eq_true rfl) (show u + 20 ≤ 1215 by omega) ⟨M, d, cnt, hs, fun M2 d2 o2 hX ho => k106 _ _ _ _ _ hX ho (by omega)⟩
    have loop : ∀ (j : Nat) (i n : Int) (w : Nat) M' d' bo cnt (u : Nat), isW3 w → i + j = 32 → (0 ≤ i ∧ i ≤ n) → (0 ≤ b ∧ b ≤ 2) → (0 ≤ n ∧ n ≤ M w 2 + 1) → (b ≠ 0 → n ≤ M w 2) → sC M d M' d' bo cnt 0 → cnt ≤ 3 * i → (u : Int) ≤ 5 + 38 * i → K 61 [some (mm_R 1), some (mm_I a), some (mm_I b), some (mm_R w), some (mm_I n), some (mm_R bo), some (mm_I i)] [] M' d' u := by
      intro j
      induction j with
      | zero =>
        intro i n w M' d' bo cnt u hw hj hi hb2 hn hn2 hs hc hu
        have hv := (ha.2.1 w hw).1.1
        refine hK2 _ _ _ _ _ _ ?_
        refine mm_run_at (stop := [101, 68]) (S := K) kkX3_text 90 ?_ (fun _ _ _ _ _ _ _ h => hK _ _ _ _ _ _ h)
        repeat' (first | with_reducible assumption | ((with_reducible show mm_rv _ _ _ _ _); first | exact True.intro) | ((with_reducible show mm_bool _ _); first | exact True.intro | exact Or.inl rfl | exact Or.inr rfl | (show (_ : Int) = 0 ∨ _ = 1)) | refine And.intro ?_ ?_ | intro _ | with_reducible exact True.intro | exact rfl | with_reducible exact Or.inl rfl | with_reducible exact Or.inr rfl | exact Nat.le_of_ble_eq_true rfl)
        all_goals (try simp (disch := omega) only [InI, Int.toNat_natCast, Int.tmod_eq_emod_of_nonneg, Int.tdiv_eq_ediv_of_nonneg, true_implies, true_or, or_true, mm_l18, mm_l19, mm_l20, mm_l21, mm_l22] at *)
        all_goals first | omega | exact k101 _ _ _ cnt _ _ _ _ hs (by omega) | skip
      | succ j ih =>
        intro i n w M' d' bo cnt u hw hj hi hb2 hn hn2 hs hc hu
        have hv := (ha.2.1 w hw).1.1
        have hb := hs.2.1.1
        have k94 : ∀ M2 d2 cnt2 (u2 : Nat), sC M d M2 d2 bo cnt2 0 → cnt2 ≤ 3 * i + 3 → (u2 : Int) ≤ 43 + 38 * i → i < n → K 94 [some (mm_R 1), some (mm_I a), some (mm_I b), some (mm_R w), some (mm_I n), some (mm_R bo), some (mm_I i)] [mm_R bo] M2 d2 u2 := by
          intro M2 d2 cnt2 u2 hs2 hc2 hu2 hlt
          have st := ih (i + 1) n w M2 d2 bo cnt2 u2 hw (by omega) ⟨by omega, by omega⟩ hb2 hn hn2 hs2 (by omega) (by omega)
          refine hK2 _ _ _ _ _ _ ?_
          refine mm_run_at (stop := [61]) (S := K) kkX3_text 90 ?_ (fun _ _ _ _ _ _ _ h => hK _ _ _ _ _ _ h)
          repeat' (first | with_reducible assumption | ((with_reducible show mm_rv _ _ _ _ _); first | exact True.intro) | ((with_reducible show mm_bool _ _); first | exact True.intro | exact Or.inl rfl | exact Or.inr rfl | (show (_ : Int) = 0 ∨ _ = 1)) | refine And.intro ?_ ?_ | intro _ | with_reducible exact True.intro | exact rfl | with_reducible exact Or.inl rfl | with_reducible exact Or.inr rfl | exact Nat.le_of_ble_eq_true rfl)
          all_goals (try simp (disch := omega) only [InI, Int.toNat_natCast, Int.tmod_eq_emod_of_nonneg, Int.tdiv_eq_ediv_of_nonneg, true_implies, true_or, or_true, mm_l18, mm_l19, mm_l20, mm_l21, mm_l22] at *)
          all_goals first | omega | exact st | skip
        have k81 : ∀ M2 d2 cnt2 (u2 : Nat), sC M d M2 d2 bo cnt2 0 → cnt2 ≤ 3 * i + 1 → (u2 : Int) ≤ 24 + 38 * i → i < n → K 81 [some (mm_R 1), some (mm_I a), some (mm_I b), some (mm_R w), some (mm_I n), some (mm_R bo), some (mm_I i)] [] M2 d2 u2 := by
          intro M2 d2 cnt2 u2 hs2 hc2 hu2 hlt
          have hb' := hs2.2.1.1
          have ha2 := hs2.1.wA ha
          have ew : M2 w = M w := hs2.1.st (by have := isW3_le hw; omega)
          have w0 : w ≠ 0 := by have := isW3_le hw; omega
          have e2 : M2 w 2 = M w 2 := by rw [ew]
          have k91 : ∀ r, (0 ≤ r ∧ r ≤ 60) → K 91 [some (mm_R 1), some (mm_I a), some (mm_I b), some (mm_R w), some (mm_I n), some (mm_R bo), some (mm_I i)] [mm_I r, mm_R bo] M2 d2 (u2 + 0) := by
            intro r hr
            refine hK2 _ _ _ _ _ _ ?_
            refine mm_run_at (stop := [94]) (S := K) kkX3_text 90 ?_ (fun _ _ _ _ _ _ _ h => hK _ _ _ _ _ _ h)
            refine mj5 rfl (Nat.le_of_ble_eq_true rfl) (by exact hb') (Nat.le_of_ble_eq_true rfl) (show u2 + 0 + 19 ≤ 1215 by omega) ⟨M, d, cnt2, hs2, by omega, ⟨by omega, by omega⟩, fun M3 d3 n3 h9 h => k94 _ _ _ _ h (by omega) (by omega) hlt⟩
          refine hK2 _ _ _ _ _ _ ?_
          refine mm_run_at (stop := [91]) (S := K) kkX3_text 90 ?_ (fun _ _ _ _ _ _ _ h => hK _ _ _ _ _ _ h)
          repeat' (first | with_reducible assumption | ((with_reducible show mm_rv _ _ _ _ _); first | exact True.intro | exact mm_i1 | ((with_reducible show wA _); exact ha2) | ((with_reducible show isW3 _); exact hw)) | exact mm_i1 | ((with_reducible show wA _); exact ha2) | ((with_reducible show isW3 _); exact hw) | ((with_reducible show mm_bool _ _); first | exact True.intro | exact Or.inl rfl | exact Or.inr rfl | (show (_ : Int) = 0 ∨ _ = 1)) | refine And.intro ?_ ?_ | intro _ | with_reducible exact True.intro | exact rfl | with_reducible exact Or.inl rfl | with_reducible exact Or.inr rfl | exact Nat.le_of_ble_eq_true rfl)
          all_goals (try simp (disch := omega) only [InI, Int.toNat_natCast, Int.tmod_eq_emod_of_nonneg, Int.tdiv_eq_ediv_of_nonneg, true_implies, true_or, or_true, mm_l18, mm_l19, mm_l20, mm_l21, mm_l22] at *)
          all_goals first | omega | exact k91 _ (by assumption) | exact k91 _ ⟨by assumption, by assumption⟩ | skip
        have k80 : ∀ M2 d2, sC M d M2 d2 bo (cnt + 1) 0 → i < n → K 80 [some (mm_R 1), some (mm_I a), some (mm_I b), some (mm_R w), some (mm_I n), some (mm_R bo), some (mm_I i)] [mm_R bo] M2 d2 (u + 19) := by
          intro M2 d2 hs2 hlt
          have k81 := k81 M2 d2 (cnt + 1) (u + 19) hs2 (by omega) (by omega) hlt
          refine hK2 _ _ _ _ _ _ ?_
          refine mm_run_at (stop := [81]) (S := K) kkX3_text 90 ?_ (fun _ _ _ _ _ _ _ h => hK _ _ _ _ _ _ h)
          repeat' (first | with_reducible assumption | ((with_reducible show mm_rv _ _ _ _ _); first | exact True.intro) | ((with_reducible show mm_bool _ _); first | exact True.intro | exact Or.inl rfl | exact Or.inr rfl | (show (_ : Int) = 0 ∨ _ = 1)) | refine And.intro ?_ ?_ | intro _ | with_reducible exact True.intro | exact rfl | with_reducible exact Or.inl rfl | with_reducible exact Or.inr rfl | exact Nat.le_of_ble_eq_true rfl)
          all_goals (try simp (disch := omega) only [InI, Int.toNat_natCast, Int.tmod_eq_emod_of_nonneg, Int.tdiv_eq_ediv_of_nonneg, true_implies, true_or, or_true, mm_l18, mm_l19, mm_l20, mm_l21, mm_l22] at *)
          all_goals first | omega | exact k81 | skip
        refine hK2 _ _ _ _ _ _ ?_
        refine mm_run_at (stop := [101, 81, 80]) (S := K) kkX3_text 90 ?_ (fun _ _ _ _ _ _ _ h => hK _ _ _ _ _ _ h)
        repeat' (first | with_reducible assumption | ((with_reducible show mm_rv _ _ _ _ _); first | exact True.intro | exact hb) | exact hb | ((with_reducible show mm_bool _ _); first | exact True.intro | exact Or.inl rfl | exact Or.inr rfl | (show (_ : Int) = 0 ∨ _ = 1)) | refine And.intro ?_ ?_ | intro _ | with_reducible exact True.intro | exact rfl | with_reducible exact Or.inl rfl | with_reducible exact Or.inr rfl | exact Nat.le_of_ble_eq_true rfl)
        all_goals (try simp (disch := omega) only [InI, Int.toNat_natCast, Int.tmod_eq_emod_of_nonneg, Int.tdiv_eq_ediv_of_nonneg, true_implies, true_or, or_true, mm_l18, mm_l19, mm_l20, mm_l21, mm_l22] at *)
        all_goals first | omega | exact k101 _ _ _ cnt _ _ _ _ hs (by omega) | exact k81 _ _ _ _ hs (by omega) (by omega) (by omega) | exact ⟨M, d, cnt, hs, by omega, ⟨by omega, by omega⟩, fun M2 d2 h => k80 _ _ h (by omega)⟩ | skip
    have k49 : ∀ w n, isW3 w → (0 ≤ b ∧ b ≤ 2) → (0 ≤ n ∧ n ≤ M w 2 + 1) → (b ≠ 0 → n ≤ M w 2) → K 49 [some (mm_R 1), some (mm_I a), some (mm_I b), some (mm_R w), some (mm_I n), none, none] [] M d 2 := by
      intro w n hw hb2 hn hn2
      have k52 : ∀ o, 100 ≤ o → o ∉ d → K 52 [some (mm_R 1), some (mm_I a), some (mm_I b), some (mm_R w), some (mm_I n), none, none] [mm_R o] (mm_nob M o 16 0) (d ++ [o]) 3 := by
        intro o ho hd
        have g1 := (bX.rf (M := M) (d := d)).new (k := 16) (n := 0) ho hd
        have g2 := bO.mk' (k := 16) (n := 0) (bX.rf (M := M) (d := d)) ho hd (by omega)
        have g3 := g2.1
        have e0 : ∀ j, mm_nob M o 16 0 o j = 0 := fun j => by simp [mm_nob]
        have k56 : ∀ M' d', sC M d M' d' o 0 0 → K 56 [some (mm_R 1), some (mm_I a), some (mm_I b), some (mm_R w), some (mm_I n), none, none] [mm_R o] M' d' 5 := by
          intro M' d' hs
          have st := loop 32 0 n w M' d' o 0 5 hw (by omega) ⟨by omega, by omega⟩ hb2 hn hn2 hs (by omega) (by omega)
          refine hK2 _ _ _ _ _ _ ?_
          refine mm_run_at (stop := [61]) (S := K) kkX3_text 90 ?_ (fun _ _ _ _ _ _ _ h => hK _ _ _ _ _ _ h)
          repeat' (first | with_reducible assumption | ((with_reducible show mm_rv _ _ _ _ _); first | exact True.intro) | ((with_reducible show mm_bool _ _); first | exact True.intro | exact Or.inl rfl | exact Or.inr rfl | (show (_ : Int) = 0 ∨ _ = 1)) | refine And.intro ?_ ?_ | intro _ | with_reducible exact True.intro | exact rfl | with_reducible exact Or.inl rfl | with_reducible exact Or.inr rfl | exact Nat.le_of_ble_eq_true rfl)
          all_goals (try simp (disch := omega) only [InI, Int.toNat_natCast, Int.tmod_eq_emod_of_nonneg, Int.tdiv_eq_ediv_of_nonneg, true_implies, true_or, or_true, mm_l18, mm_l19, mm_l20, mm_l21, mm_l22] at *)
          all_goals first | omega | exact st | skip
        refine hK2 _ _ _ _ _ _ ?_
        refine mm_run_at (stop := [56]) (S := K) kkX3_text 90 ?_ (fun _ _ _ _ _ _ _ h => hK _ _ _ _ _ _ h)
        refine mj5 rfl (Nat.le_of_ble_eq_true rfl) (by exact g3) (Nat.le_of_ble_eq_true rfl) (Nat.le_of_ble_eq_true rfl) ⟨M, d, g1, g2, e0 1, e0 3, fun M' d' hs => k56 M' d' hs⟩
      refine hK2 _ _ _ _ _ _ ?_
      refine mm_run_at (stop := [52]) (S := K) kkX3_text 90 ?_ (fun _ _ _ _ _ _ _ h => hK _ _ _ _ _ _ h)
      refine ⟨Or.inl rfl, Nat.le_of_ble_eq_true rfl, fun o ho hd => k52 o ho hd⟩
    have k5 : ∀ w, (0 ≤ a ∧ a < 3) → isW3 w → K 5 [some (mm_R 1), some (mm_I a), some (mm_I b), none, none, none, none] [mm_R w] M d 1 := by
      intro w ca hw
      have hv := (ha.2.1 w hw).1.1
      have hk := hw.k
      have hks := wk_is hk M d
      refine hK2 _ _ _ _ _ _ ?_
      refine mm_run_at (stop := [49]) (S := K) kkX3_text 90 ?_ (fun _ _ _ _ _ _ _ h => hK _ _ _ _ _ _ h)
      repeat' (first | with_reducible assumption | ((with_reducible show mm_rv _ _ _ _ _); first | exact True.intro | exact hks | exact mm_i1 | exact mm_i2 | ((with_reducible show tW _); exact ha.1)) | exact hks | exact mm_i1 | exact mm_i2 | ((with_reducible show tW _); exact ha.1) | ((with_reducible show mm_bool _ _); first | exact True.intro | exact Or.inl rfl | exact Or.inr rfl | (show (_ : Int) = 0 ∨ _ = 1)) | refine And.intro ?_ ?_ | intro _ | with_reducible exact True.intro | exact rfl | with_reducible exact Or.inl rfl | with_reducible exact Or.inr rfl | exact Nat.le_of_ble_eq_true rfl)
      all_goals (try simp (disch := omega) only [InI, Int.toNat_natCast, Int.tmod_eq_emod_of_nonneg, Int.tdiv_eq_ediv_of_nonneg, true_implies, true_or, or_true, mm_l18, mm_l19, mm_l20, mm_l21, mm_l22] at *)
      all_goals first | omega | exact hx _ (Or.inr rfl) | exact k49 _ _ hw ⟨by omega, by omega⟩ ⟨by omega, by omega⟩ (by omega) | exact hq0 _ | skip
    refine ⟨Nat.le_of_ble_eq_true rfl, ?_⟩
    refine mm_run_at (stop := [5]) (S := K) kkX3_text 90 ?_ (fun _ _ _ _ _ _ _ h => hK _ _ _ _ _ _ h)
    repeat' (first | with_reducible assumption | ((with_reducible show mm_rv _ _ _ _ _); first | exact True.intro | exact mm_i1) | exact mm_i1 | ((with_reducible show mm_bool _ _); first | exact True.intro | exact Or.inl rfl | exact Or.inr rfl | (show (_ : Int) = 0 ∨ _ = 1)) | refine And.intro ?_ ?_ | intro _ | with_reducible exact True.intro | exact rfl | with_reducible exact Or.inl rfl | with_reducible exact Or.inr rfl | exact Nat.le_of_ble_eq_true rfl)
    all_goals (try simp (disch := omega) only [InI, Int.toNat_natCast, Int.tmod_eq_emod_of_nonneg, Int.tdiv_eq_ediv_of_nonneg, true_implies, true_or, or_true, mm_l18, mm_l19, mm_l20, mm_l21, mm_l22] at *)
    all_goals first | omega | exact k5 _ (by assumption) (by assumption) | exact hx _ (Or.inl rfl) | skip
  · exact h.elim
theorem me_X3_text {l : Launch} (hl : l.stackTraces = false) : mm_Met l yX3_text cX3_text 7 (some (.object "java/lang/String")) [] 12 232 1215 sp_X3_text := mm_mtX hl rn_X3_text ⟨by decide, rfl⟩ kkX3_text rfl ⟨by decide, by decide⟩ flX3_text_k (fun _ h => nomatch h) (⟨mm_pe (me_X3_walkOf hl) mwX3_walkOf (mm_t2 209 rfl rfl) (Nat.le_of_ble_eq_true rfl) (Nat.le_of_ble_eq_true rfl), mm_pe (me_X3_checkRange hl) mwX3_checkRange (mm_t3 102 rfl rfl) (Nat.le_of_ble_eq_true rfl) (Nat.le_of_ble_eq_true rfl), mm_pe (me_X1_isOfWords hl) mwX1_isOfWords (mm_t2 151 rfl rfl) (Nat.le_of_ble_eq_true rfl) (Nat.le_of_ble_eq_true rfl), mm_pe (me_X2_size hl) mwX2_size (mm_t3 40 rfl rfl) (Nat.le_of_ble_eq_true rfl) (Nat.le_of_ble_eq_true rfl), mm_pe (me_X3_numberAt hl) mwX3_numberAt (mm_t5 74 rfl rfl) (Nat.le_of_ble_eq_true rfl) (Nat.le_of_ble_eq_true rfl), Or.inl ⟨rfl, mm_semV (C := RXB) (T := TXB) (N := 4) (x := ⟨"java/lang/StringBuilder", "<init>", "()V"⟩) (je_binit (l := l)) jw_binit (mm_t4 190 rfl rfl) (mm_t4 191 rfl rfl) (Or.inr ⟨by decide, rfl⟩) (by decide +kernel) (Nat.le_of_ble_eq_true rfl) (Nat.le_of_ble_eq_true rfl) (Or.inr (Or.inr (Or.inl ⟨rfl, rfl, rfl, rfl⟩)))⟩, Or.inl ⟨rfl, mm_semV (C := RXB) (T := TXB) (N := 4) (x := ⟨"java/lang/StringBuilder", "append", "(C)Ljava/lang/StringBuilder;"⟩) (je_bappC (l := l)) jw_bappC (mm_t4 219 rfl rfl) (mm_t4 220 rfl rfl) (Or.inr ⟨by decide, rfl⟩) (by decide +kernel) (Nat.le_of_ble_eq_true rfl) (Nat.le_of_ble_eq_true rfl) (Or.inl ⟨rfl, rfl, fun _ _ h => h _ (mm_T_U _ (mm_t4 221 rfl rfl))⟩)⟩, Or.inl ⟨rfl, mm_semV (C := RXB) (T := TXB) (N := 4) (x := ⟨"java/lang/StringBuilder", "append", "(I)Ljava/lang/StringBuilder;"⟩) (je_bappI (l := l)) jw_bappI (mm_t5 79 rfl rfl) (mm_t5 80 rfl rfl) (Or.inr ⟨by decide, rfl⟩) (by decide +kernel) (Nat.le_of_ble_eq_true rfl) (Nat.le_of_ble_eq_true rfl) (Or.inl ⟨rfl, rfl, fun _ _ h => h _ (mm_T_U _ (mm_t5 81 rfl rfl))⟩)⟩, Or.inl ⟨rfl, mm_semV (C := RXB) (T := TXB) (N := 4) (x := ⟨"java/lang/StringBuilder", "toString", "()Ljava/lang/String;"⟩) (je_toString (l := l)) jw_toString (mm_t5 113 rfl rfl) (mm_t5 114 rfl rfl) (Or.inr ⟨by decide, rfl⟩) (by decide +kernel) (Nat.le_of_ble_eq_true rfl) (Nat.le_of_ble_eq_true rfl) (Or.inl ⟨rfl, rfl, fun _ _ h => h _ (mm_T_U _ (mm_t5 115 rfl rfl))⟩)⟩, trivial⟩) (mm_xe0 _) (by decide)
/-- the class's text, its objects forgotten -/
def sp_X3_textF : mm_S := fun av M d Q => match av with
  | [.inr (.inr (.inl o)), .inl a, .inl b] => o = 1 ∧ wA M ∧ InI a ∧ InI b ∧ (∀ q, Q (.inl (some (mm_X q))) M d) ∧ (∀ k, k = 0 ∨ k = 1 → Q (.inr k) M d)
  | _ => False
theorem mm_Met.sub {l : Launch} {y : MethodName} {b : ByteArray} {maxL : Nat} {ret : Option FieldType} {hh : List (Nat × Nat × Nat × Nat)} {fr lo mu : Nat} {sp sp' : mm_S} (h : mm_Met l y b maxL ret hh fr lo mu sp) (hs : ∀ av M d Q, sp' av M d Q → sp av M d Q) : mm_Met l y b maxL ret hh fr lo mu sp' := fun D E Ad sz av M d Q hsp => h D E Ad sz av M d Q (hs _ _ _ _ hsp)
theorem me_X3_textF {l : Launch} (hl : l.stackTraces = false) : mm_Met l yX3_text cX3_text 7 (some (.object "java/lang/String")) [] 12 232 1215 sp_X3_textF := (mm_fgt (me_X3_text hl)).sub (fun av M d Q h => by
  unfold sp_X3_textF at h
  split at h
  · obtain ⟨h0, h1, h2, h3, h4, h5⟩ := h
    exact ⟨h0, h1, h2, h3, fun q => Or.inl (h4 q), fun M' d' o' hX ho => Or.inr ⟨o' - 100, M, d, by rw [Nat.sub_add_cancel ho], hX, h4 _⟩, fun k hk => Or.inl (h5 k hk)⟩
  · exact h.elim)
/-- asked, and nothing changed but what was thrown -/
def xT (M M' : mm_M) : Prop := xP M M' ∧ vX M' = vX M
theorem xT.a {M M' : mm_M} (h : xT M M') : xA M' := h.1.a
def flJ_X5_text : List (Nat × Nat × Nat) := [(218, 16, 99), (216, 0, 97), (221, 28, 97)]
theorem flJ_X5_text_k : ∀ q ∈ flJ_X5_text, mm_lj RX5 mm_U q.2.1 q.2.2 q.1 := by
  intro q hq
  simp only [flJ_X5_text, List.mem_cons, List.not_mem_nil, or_false] at hq
  rcases hq with rfl | rfl | rfl
  · exact Or.inr ⟨by decide, (List.forall_mem_cons.mpr ⟨mm_T_U _ (mm_t7 193 rfl rfl), (List.forall_mem_cons.mpr ⟨mm_T_U _ (mm_t4 189 rfl rfl), (List.forall_mem_cons.mpr ⟨mm_T_U _ (mm_t1 13 rfl rfl), (fun _ h => nomatch h)⟩)⟩)⟩), (fun h => absurd h (by decide)), (fun h => absurd h (by decide))⟩
  · exact Or.inr ⟨by decide, (fun _ h => nomatch h), (fun _ => Or.inl ⟨rfl, Or.inr ⟨rfl, rfl⟩⟩), (fun h => absurd h (by decide))⟩
  · exact Or.inr ⟨by decide, (fun _ h => nomatch h), (fun _ => Or.inr ⟨rfl, rfl, rfl⟩), (fun h => absurd h (by decide))⟩
def flX5_text : List (Nat × Nat × Nat) := flJ_X5_text ++ flX5
theorem flX5_text_k : ∀ q ∈ flX5_text, mm_lj RX5 mm_U q.2.1 q.2.2 q.1 := fun q hq => (List.mem_append.mp hq).elim (flJ_X5_text_k q) (fun h => Or.inl ⟨(by decide : ∀ q ∈ flX5, q.2.2 < 90) q h, flkX5 q h⟩)
theorem at_X5_text_0 : mm_at 0 kdX5_text = [(0, .aload_n 0, 0), (1, .aload_n 0, 0), (2, .iload_n 1, 0), (3, .invokevirtual 178, 0), (6, .iconst 1, 0), (7, .invokevirtual 146, 0), (10, .ifCond .ne 37, 47), (13, .aload_n 0, 0), (14, .iload_n 2, 0), (15, .iconst 0, 0), (16, .iconst 2, 0), (17, .invokestatic 45, 0), (20, .ifCond .ne 7, 27), (23, .iconst 1, 0), (24, .goto 4, 28), (27, .iconst 0, 0), (28, .iconst 2, 0), (29, .invokevirtual 35, 0), (32, .ifCond .ne 15, 47), (35, .iload_n 2, 0), (36, .iconst 2, 0), (37, .if_icmp .ne 13, 50), (40, .aload_n 0, 0), (41, .getfield 89, 0), (44, .ifCond .ne 6, 50), (47, .ldc 216, 0), (49, .areturn, 0), (50, .new 218, 0), (53, .dup, 0), (54, .invokespecial 220, 0), (57, .astore_n 3, 0), (58, .iconst 0, 0), (59, .istore 4, 0), (61, .iload 4, 0), (63, .aload_n 0, 0), (64, .getfield 19, 0), (67, .iload_n 1, 0), (68, .iaload, 0), (69, .iload_n 2, 0), (70, .ifCond .ne 7, 77), (73, .iconst 1, 0), (74, .goto 4, 78), (77, .iconst 0, 0), (78, .invokestatic 56, 0), (81, .iadd, 0), (82, .if_icmp .ge 71, 153), (85, .iload 4, 0), (87, .ifCond .le 10, 97), (90, .aload_n 3, 0), (91, .ldc 221, 0), (93, .invokevirtual 223, 0), (96, .pop, 0), (97, .aload_n 3, 0), (98, .iload_n 2, 0), (99, .ifCond .ne 13, 112), (102, .aload_n 0, 0), (103, .iload_n 1, 0), (104, .iload 4, 0), (106, .invokevirtual 105, 0), (109, .goto 34, 143), (112, .iload_n 2, 0), (113, .iconst 1, 0), (114, .if_icmp .ne 15, 129), (117, .aload_n 0, 0), (118, .iload_n 1, 0), (119, .iload 4, 0), (121, .invokevirtual 98, 0), (124, .iconst 2, 0), (125, .idiv, 0), (126, .goto 17, 143), (129, .aload_n 0, 0), (130, .iload_n 1, 0), (131, .iload 4, 0), (133, .invokevirtual 98, 0), (136, .iconst 2, 0), (137, .idiv, 0), (138, .aload_n 0, 0), (139, .getfield 89, 0), (142, .irem, 0), (143, .invokevirtual 227, 0), (146, .pop, 0), (147, .iinc 4 1, 0), (150, .goto (-89), 61), (153, .aload_n 3, 0), (154, .invokevirtual 230, 0), (157, .areturn, 0)] := rfl
theorem at_X5_text_27 : mm_at 27 kdX5_text = [(27, .iconst 0, 0), (28, .iconst 2, 0), (29, .invokevirtual 35, 0), (32, .ifCond .ne 15, 47), (35, .iload_n 2, 0), (36, .iconst 2, 0), (37, .if_icmp .ne 13, 50), (40, .aload_n 0, 0), (41, .getfield 89, 0), (44, .ifCond .ne 6, 50), (47, .ldc 216, 0), (49, .areturn, 0), (50, .new 218, 0), (53, .dup, 0), (54, .invokespecial 220, 0), (57, .astore_n 3, 0), (58, .iconst 0, 0), (59, .istore 4, 0), (61, .iload 4, 0), (63, .aload_n 0, 0), (64, .getfield 19, 0), (67, .iload_n 1, 0), (68, .iaload, 0), (69, .iload_n 2, 0), (70, .ifCond .ne 7, 77), (73, .iconst 1, 0), (74, .goto 4, 78), (77, .iconst 0, 0), (78, .invokestatic 56, 0), (81, .iadd, 0), (82, .if_icmp .ge 71, 153), (85, .iload 4, 0), (87, .ifCond .le 10, 97), (90, .aload_n 3, 0), (91, .ldc 221, 0), (93, .invokevirtual 223, 0), (96, .pop, 0), (97, .aload_n 3, 0), (98, .iload_n 2, 0), (99, .ifCond .ne 13, 112), (102, .aload_n 0, 0), (103, .iload_n 1, 0), (104, .iload 4, 0), (106, .invokevirtual 105, 0), (109, .goto 34, 143), (112, .iload_n 2, 0), (113, .iconst 1, 0), (114, .if_icmp .ne 15, 129), (117, .aload_n 0, 0), (118, .iload_n 1, 0), (119, .iload 4, 0), (121, .invokevirtual 98, 0), (124, .iconst 2, 0), (125, .idiv, 0), (126, .goto 17, 143), (129, .aload_n 0, 0), (130, .iload_n 1, 0), (131, .iload 4, 0), (133, .invokevirtual 98, 0), (136, .iconst 2, 0), (137, .idiv, 0), (138, .aload_n 0, 0), (139, .getfield 89, 0), (142, .irem, 0), (143, .invokevirtual 227, 0), (146, .pop, 0), (147, .iinc 4 1, 0), (150, .goto (-89), 61), (153, .aload_n 3, 0), (154, .invokevirtual 230, 0), (157, .areturn, 0)] := rfl
theorem at_X5_text_28 : mm_at 28 kdX5_text = [(28, .iconst 2, 0), (29, .invokevirtual 35, 0), (32, .ifCond .ne 15, 47), (35, .iload_n 2, 0), (36, .iconst 2, 0), (37, .if_icmp .ne 13, 50), (40, .aload_n 0, 0), (41, .getfield 89, 0), (44, .ifCond .ne 6, 50), (47, .ldc 216, 0), (49, .areturn, 0), (50, .new 218, 0), (53, .dup, 0), (54, .invokespecial 220, 0), (57, .astore_n 3, 0), (58, .iconst 0, 0), (59, .istore 4, 0), (61, .iload 4, 0), (63, .aload_n 0, 0), (64, .getfield 19, 0), (67, .iload_n 1, 0), (68, .iaload, 0), (69, .iload_n 2, 0), (70, .ifCond .ne 7, 77), (73, .iconst 1, 0), (74, .goto 4, 78), (77, .iconst 0, 0), (78, .invokestatic 56, 0), (81, .iadd, 0), (82, .if_icmp .ge 71, 153), (85, .iload 4, 0), (87, .ifCond .le 10, 97), (90, .aload_n 3, 0), (91, .ldc 221, 0), (93, .invokevirtual 223, 0), (96, .pop, 0), (97, .aload_n 3, 0), (98, .iload_n 2, 0), (99, .ifCond .ne 13, 112), (102, .aload_n 0, 0), (103, .iload_n 1, 0), (104, .iload 4, 0), (106, .invokevirtual 105, 0), (109, .goto 34, 143), (112, .iload_n 2, 0), (113, .iconst 1, 0), (114, .if_icmp .ne 15, 129), (117, .aload_n 0, 0), (118, .iload_n 1, 0), (119, .iload 4, 0), (121, .invokevirtual 98, 0), (124, .iconst 2, 0), (125, .idiv, 0), (126, .goto 17, 143), (129, .aload_n 0, 0), (130, .iload_n 1, 0), (131, .iload 4, 0), (133, .invokevirtual 98, 0), (136, .iconst 2, 0), (137, .idiv, 0), (138, .aload_n 0, 0), (139, .getfield 89, 0), (142, .irem, 0), (143, .invokevirtual 227, 0), (146, .pop, 0), (147, .iinc 4 1, 0), (150, .goto (-89), 61), (153, .aload_n 3, 0), (154, .invokevirtual 230, 0), (157, .areturn, 0)] := rfl
theorem at_X5_text_47 : mm_at 47 kdX5_text = [(47, .ldc 216, 0), (49, .areturn, 0), (50, .new 218, 0), (53, .dup, 0), (54, .invokespecial 220, 0), (57, .astore_n 3, 0), (58, .iconst 0, 0), (59, .istore 4, 0), (61, .iload 4, 0), (63, .aload_n 0, 0), (64, .getfield 19, 0), (67, .iload_n 1, 0), (68, .iaload, 0), (69, .iload_n 2, 0), (70, .ifCond .ne 7, 77), (73, .iconst 1, 0), (74, .goto 4, 78), (77, .iconst 0, 0), (78, .invokestatic 56, 0), (81, .iadd, 0), (82, .if_icmp .ge 71, 153), (85, .iload 4, 0), (87, .ifCond .le 10, 97), (90, .aload_n 3, 0), (91, .ldc 221, 0), (93, .invokevirtual 223, 0), (96, .pop, 0), (97, .aload_n 3, 0), (98, .iload_n 2, 0), (99, .ifCond .ne 13, 112), (102, .aload_n 0, 0), (103, .iload_n 1, 0), (104, .iload 4, 0), (106, .invokevirtual 105, 0), (109, .goto 34, 143), (112, .iload_n 2, 0), (113, .iconst 1, 0), (114, .if_icmp .ne 15, 129), (117, .aload_n 0, 0), (118, .iload_n 1, 0), (119, .iload 4, 0), (121, .invokevirtual 98, 0), (124, .iconst 2, 0), (125, .idiv, 0), (126, .goto 17, 143), (129, .aload_n 0, 0), (130, .iload_n 1, 0), (131, .iload 4, 0), (133, .invokevirtual 98, 0), (136, .iconst 2, 0), (137, .idiv, 0), (138, .aload_n 0, 0), (139, .getfield 89, 0), (142, .irem, 0), (143, .invokevirtual 227, 0), (146, .pop, 0), (147, .iinc 4 1, 0), (150, .goto (-89), 61), (153, .aload_n 3, 0), (154, .invokevirtual 230, 0), (157, .areturn, 0)] := rfl
theorem at_X5_text_50 : mm_at 50 kdX5_text = [(50, .new 218, 0), (53, .dup, 0), (54, .invokespecial 220, 0), (57, .astore_n 3, 0), (58, .iconst 0, 0), (59, .istore 4, 0), (61, .iload 4, 0), (63, .aload_n 0, 0), (64, .getfield 19, 0), (67, .iload_n 1, 0), (68, .iaload, 0), (69, .iload_n 2, 0), (70, .ifCond .ne 7, 77), (73, .iconst 1, 0), (74, .goto 4, 78), (77, .iconst 0, 0), (78, .invokestatic 56, 0), (81, .iadd, 0), (82, .if_icmp .ge 71, 153), (85, .iload 4, 0), (87, .ifCond .le 10, 97), (90, .aload_n 3, 0), (91, .ldc 221, 0), (93, .invokevirtual 223, 0), (96, .pop, 0), (97, .aload_n 3, 0), (98, .iload_n 2, 0), (99, .ifCond .ne 13, 112), (102, .aload_n 0, 0), (103, .iload_n 1, 0), (104, .iload 4, 0), (106, .invokevirtual 105, 0), (109, .goto 34, 143), (112, .iload_n 2, 0), (113, .iconst 1, 0), (114, .if_icmp .ne 15, 129), (117, .aload_n 0, 0), (118, .iload_n 1, 0), (119, .iload 4, 0), (121, .invokevirtual 98, 0), (124, .iconst 2, 0), (125, .idiv, 0), (126, .goto 17, 143), (129, .aload_n 0, 0), (130, .iload_n 1, 0), (131, .iload 4, 0), (133, .invokevirtual 98, 0), (136, .iconst 2, 0), (137, .idiv, 0), (138, .aload_n 0, 0), (139, .getfield 89, 0), (142, .irem, 0), (143, .invokevirtual 227, 0), (146, .pop, 0), (147, .iinc 4 1, 0), (150, .goto (-89), 61), (153, .aload_n 3, 0), (154, .invokevirtual 230, 0), (157, .areturn, 0)] := rfl
theorem at_X5_text_61 : mm_at 61 kdX5_text = [(61, .iload 4, 0), (63, .aload_n 0, 0), (64, .getfield 19, 0), (67, .iload_n 1, 0), (68, .iaload, 0), (69, .iload_n 2, 0), (70, .ifCond .ne 7, 77), (73, .iconst 1, 0), (74, .goto 4, 78), (77, .iconst 0, 0), (78, .invokestatic 56, 0), (81, .iadd, 0), (82, .if_icmp .ge 71, 153), (85, .iload 4, 0), (87, .ifCond .le 10, 97), (90, .aload_n 3, 0), (91, .ldc 221, 0), (93, .invokevirtual 223, 0), (96, .pop, 0), (97, .aload_n 3, 0), (98, .iload_n 2, 0), (99, .ifCond .ne 13, 112), (102, .aload_n 0, 0), (103, .iload_n 1, 0), (104, .iload 4, 0), (106, .invokevirtual 105, 0), (109, .goto 34, 143), (112, .iload_n 2, 0), (113, .iconst 1, 0), (114, .if_icmp .ne 15, 129), (117, .aload_n 0, 0), (118, .iload_n 1, 0), (119, .iload 4, 0), (121, .invokevirtual 98, 0), (124, .iconst 2, 0), (125, .idiv, 0), (126, .goto 17, 143), (129, .aload_n 0, 0), (130, .iload_n 1, 0), (131, .iload 4, 0), (133, .invokevirtual 98, 0), (136, .iconst 2, 0), (137, .idiv, 0), (138, .aload_n 0, 0), (139, .getfield 89, 0), (142, .irem, 0), (143, .invokevirtual 227, 0), (146, .pop, 0), (147, .iinc 4 1, 0), (150, .goto (-89), 61), (153, .aload_n 3, 0), (154, .invokevirtual 230, 0), (157, .areturn, 0)] := rfl
theorem at_X5_text_77 : mm_at 77 kdX5_text = [(77, .iconst 0, 0), (78, .invokestatic 56, 0), (81, .iadd, 0), (82, .if_icmp .ge 71, 153), (85, .iload 4, 0), (87, .ifCond .le 10, 97), (90, .aload_n 3, 0), (91, .ldc 221, 0), (93, .invokevirtual 223, 0), (96, .pop, 0), (97, .aload_n 3, 0), (98, .iload_n 2, 0), (99, .ifCond .ne 13, 112), (102, .aload_n 0, 0), (103, .iload_n 1, 0), (104, .iload 4, 0), (106, .invokevirtual 105, 0), (109, .goto 34, 143), (112, .iload_n 2, 0), (113, .iconst 1, 0), (114, .if_icmp .ne 15, 129), (117, .aload_n 0, 0), (118, .iload_n 1, 0), (119, .iload 4, 0), (121, .invokevirtual 98, 0), (124, .iconst 2, 0), (125, .idiv, 0), (126, .goto 17, 143), (129, .aload_n 0, 0), (130, .iload_n 1, 0), (131, .iload 4, 0), (133, .invokevirtual 98, 0), (136, .iconst 2, 0), (137, .idiv, 0), (138, .aload_n 0, 0), (139, .getfield 89, 0), (142, .irem, 0), (143, .invokevirtual 227, 0), (146, .pop, 0), (147, .iinc 4 1, 0), (150, .goto (-89), 61), (153, .aload_n 3, 0), (154, .invokevirtual 230, 0), (157, .areturn, 0)] := rfl
theorem at_X5_text_78 : mm_at 78 kdX5_text = [(78, .invokestatic 56, 0), (81, .iadd, 0), (82, .if_icmp .ge 71, 153), (85, .iload 4, 0), (87, .ifCond .le 10, 97), (90, .aload_n 3, 0), (91, .ldc 221, 0), (93, .invokevirtual 223, 0), (96, .pop, 0), (97, .aload_n 3, 0), (98, .iload_n 2, 0), (99, .ifCond .ne 13, 112), (102, .aload_n 0, 0), (103, .iload_n 1, 0), (104, .iload 4, 0), (106, .invokevirtual 105, 0), (109, .goto 34, 143), (112, .iload_n 2, 0), (113, .iconst 1, 0), (114, .if_icmp .ne 15, 129), (117, .aload_n 0, 0), (118, .iload_n 1, 0), (119, .iload 4, 0), (121, .invokevirtual 98, 0), (124, .iconst 2, 0), (125, .idiv, 0), (126, .goto 17, 143), (129, .aload_n 0, 0), (130, .iload_n 1, 0), (131, .iload 4, 0), (133, .invokevirtual 98, 0), (136, .iconst 2, 0), (137, .idiv, 0), (138, .aload_n 0, 0), (139, .getfield 89, 0), (142, .irem, 0), (143, .invokevirtual 227, 0), (146, .pop, 0), (147, .iinc 4 1, 0), (150, .goto (-89), 61), (153, .aload_n 3, 0), (154, .invokevirtual 230, 0), (157, .areturn, 0)] := rfl
theorem at_X5_text_97 : mm_at 97 kdX5_text = [(97, .aload_n 3, 0), (98, .iload_n 2, 0), (99, .ifCond .ne 13, 112), (102, .aload_n 0, 0), (103, .iload_n 1, 0), (104, .iload 4, 0), (106, .invokevirtual 105, 0), (109, .goto 34, 143), (112, .iload_n 2, 0), (113, .iconst 1, 0), (114, .if_icmp .ne 15, 129), (117, .aload_n 0, 0), (118, .iload_n 1, 0), (119, .iload 4, 0), (121, .invokevirtual 98, 0), (124, .iconst 2, 0), (125, .idiv, 0), (126, .goto 17, 143), (129, .aload_n 0, 0), (130, .iload_n 1, 0), (131, .iload 4, 0), (133, .invokevirtual 98, 0), (136, .iconst 2, 0), (137, .idiv, 0), (138, .aload_n 0, 0), (139, .getfield 89, 0), (142, .irem, 0), (143, .invokevirtual 227, 0), (146, .pop, 0), (147, .iinc 4 1, 0), (150, .goto (-89), 61), (153, .aload_n 3, 0), (154, .invokevirtual 230, 0), (157, .areturn, 0)] := rfl
theorem at_X5_text_112 : mm_at 112 kdX5_text = [(112, .iload_n 2, 0), (113, .iconst 1, 0), (114, .if_icmp .ne 15, 129), (117, .aload_n 0, 0), (118, .iload_n 1, 0), (119, .iload 4, 0), (121, .invokevirtual 98, 0), (124, .iconst 2, 0), (125, .idiv, 0), (126, .goto 17, 143), (129, .aload_n 0, 0), (130, .iload_n 1, 0), (131, .iload 4, 0), (133, .invokevirtual 98, 0), (136, .iconst 2, 0), (137, .idiv, 0), (138, .aload_n 0, 0), (139, .getfield 89, 0), (142, .irem, 0), (143, .invokevirtual 227, 0), (146, .pop, 0), (147, .iinc 4 1, 0), (150, .goto (-89), 61), (153, .aload_n 3, 0), (154, .invokevirtual 230, 0), (157, .areturn, 0)] := rfl
theorem at_X5_text_129 : mm_at 129 kdX5_text = [(129, .aload_n 0, 0), (130, .iload_n 1, 0), (131, .iload 4, 0), (133, .invokevirtual 98, 0), (136, .iconst 2, 0), (137, .idiv, 0), (138, .aload_n 0, 0), (139, .getfield 89, 0), (142, .irem, 0), (143, .invokevirtual 227, 0), (146, .pop, 0), (147, .iinc 4 1, 0), (150, .goto (-89), 61), (153, .aload_n 3, 0), (154, .invokevirtual 230, 0), (157, .areturn, 0)] := rfl
theorem at_X5_text_143 : mm_at 143 kdX5_text = [(143, .invokevirtual 227, 0), (146, .pop, 0), (147, .iinc 4 1, 0), (150, .goto (-89), 61), (153, .aload_n 3, 0), (154, .invokevirtual 230, 0), (157, .areturn, 0)] := rfl
theorem at_X5_text_153 : mm_at 153 kdX5_text = [(153, .aload_n 3, 0), (154, .invokevirtual 230, 0), (157, .areturn, 0)] := rfl
def sp_X5_text : mm_S := fun av M d Q => match av with
  | [.inr (.inr (.inl o)), .inl a, .inl b] =>  o = 17 ∧ xA M ∧ InI a ∧ InI b ∧ (∀ M' q, xT M M' → Q (.inl (some (mm_X q))) M' d) ∧ (∀ M1 M' d' o', xT M M1 → bX M1 d M' d' → 100 ≤ o' → Q (.inl (some (mm_R o'))) M' d')
  | _ => False
def ct_X5_text : List (Nat × mm_Ca) := [(178, (0, 2, 14, sp_X5_isNoWalk, 0)), (146, (0, 3, 14, sp_X5_start, 0)), (45, (1, 3, 0, sp_X5_isIn, 0)), (35, (0, 3, 14, sp_X5_refuse, 0)), (56, (1, 1, 0, sp_X5_one, 0)), (105, (0, 3, 14, sp_X5_cornerOf, 0)), (98, (0, 3, 14, sp_X5_stepOf, 0)), (220, (2, 1, 16, sp_J_binit, 2)), (223, (0, 2, 16, sp_J_bappS, 19)), (227, (0, 2, 16, sp_J_bappI, 19)), (230, (0, 1, 16, sp_J_toString, 20))]
abbrev rr_X5_text (Q : mm_Q) := mm_run (mm_look flX5_text) (mm_look ct_X5_text) mm_x0 (mm_look ([] : List (Nat × Int))) (fun _ => none) 4 1215 (fun _ _ => none) Q kdX5_text
set_option maxRecDepth 20000 in
theorem rn_X5_text : mm_RN flX5_text ct_X5_text mm_x0 [] 4 1215 5 kdX5_text sp_X5_text := by
  intro av M d Q h
  unfold sp_X5_text at h
  split at h
  · rename_i o a b
    obtain ⟨rfl, ha, h1, h2, hq0, hq1⟩ := h
    obtain ⟨K, hK, hK2⟩ : ∃ K : Nat → mm_K, (∀ t ls st M d u, K t ls st M d u → rr_X5_text Q t ls st M d u) ∧ (∀ t ls st M d u, rr_X5_text Q t ls st M d u → K t ls st M d u) := ⟨rr_X5_text Q, fun _ _ _ _ _ _ h => h, fun _ _ _ _ _ _ h => h⟩
    have k157 : ∀ M1 M' d' o' u ls, xT M M1 → bX M1 d M' d' → 100 ≤ o' → u ≤ 1215 → K 157 ls [mm_R o'] M' d' u := by
      intro M1 M' d' o' u ls hP h ho hu
      have fin := hq1 _ _ _ o' hP h ho
      refine hK2 _ _ _ _ _ _ ?_
      refine mm_run_at (stop := []) (S := K) kkX5_text 90 ?_ (fun _ _ _ _ _ _ _ h => hK _ _ _ _ _ _ h)
      repeat' (first | with_reducible assumption | with_reducible exact mm_i17 | with_reducible exact mm_i18 | with_reducible exact mm_i19 | with_reducible exact mm_i20 | with_reducible exact mm_i21 | with_reducible exact mm_i22 | ((with_reducible show mm_rv _ _ _ _ _); first | exact True.intro | exact mm_i17 | exact mm_i18 | exact mm_i19 | exact mm_i20 | exact mm_i21 | exact mm_i22) | ((with_reducible show mm_bool _ _); first | exact True.intro | exact Or.inl rfl | exact Or.inr rfl | (show (_ : Int) = 0 ∨ _ = 1)) | refine And.intro ?_ ?_ | intro _ | with_reducible exact True.intro | exact rfl | with_reducible exact Or.inl rfl | with_reducible exact Or.inr rfl | exact Nat.le_of_ble_eq_true rfl)
      all_goals (try simp (disch := omega) only [InI, Int.toNat_natCast, Int.tmod_eq_emod_of_nonneg, Int.tdiv_eq_ediv_of_nonneg, true_implies, true_or, or_true, mm_l18, mm_l19, mm_l20, mm_l21, mm_l22] at *)
      all_goals first | omega | skip
    have k153 : ∀ M1 M' d' bo cnt u i, xT M M1 → sC M1 d M' d' bo cnt 0 → u ≤ 1195 → K 153 [some (mm_R 17), some (mm_I a), some (mm_I b), some (mm_R bo), some (mm_I i)] [] M' d' u := by
      intro M1 M' d' bo cnt u i hP hs hu
      have hb := hs.2.1.1
      refine hK2 _ _ _ _ _ _ ?_
      refine mm_run_at (stop := [157]) (S := K) kkX5_text 90 ?_ (fun _ _ _ _ _ _ _ h => hK _ _ _ _ _ _ h)
      refine mj5 rfl (Nat.le_of_ble_eq_true rfl) (by exact hb) (Nat.le_of_ble_eq_true rfl) (show u + 20 ≤ 1215 by omega) ⟨M1, d, cnt, hs, fun M2 d2 o2 hX ho => k157 _ _ _ _ _ _ hP hX ho (by omega)⟩
    have loop : ∀ M1, xT M M1 → (0 ≤ a ∧ a ≤ 2) → (0 ≤ b ∧ b ≤ 2) → (b = 2 → M1 17 5 ≠ 0) → ∀ (j : Nat) (i : Int) M' d' bo cnt (u : Nat), i + j = 32 → (0 ≤ i ∧ i ≤ 31) → sC M1 d M' d' bo cnt 0 → cnt ≤ 3 * i → (u : Int) ≤ 5 + 38 * i → K 61 [some (mm_R 17), some (mm_I a), some (mm_I b), some (mm_R bo), some (mm_I i)] [] M' d' u := by
      intro M1 hP hca hcb hsg j
      have hv := hP.a.v (k := a.toNat) (by omega)
      have hv1 := hv.1
      induction j with
      | zero =>
        intro i M' d' bo cnt u hj hi hs hc hu
        have e21 : M' 21 = M1 21 := hs.1.st (by omega)
        have ht := (hs.1.xA hP.a).t
        refine hK2 _ _ _ _ _ _ ?_
        refine mm_run_at (stop := [153, 85]) (S := K) kkX5_text 90 ?_ (fun _ _ _ _ _ _ _ h => hK _ _ _ _ _ _ h)
        repeat' (first | with_reducible assumption | with_reducible exact mm_i17 | with_reducible exact mm_i18 | with_reducible exact mm_i19 | with_reducible exact mm_i20 | with_reducible exact mm_i21 | with_reducible exact mm_i22 | ((with_reducible show mm_rv _ _ _ _ _); first | exact True.intro | exact mm_i17 | exact mm_i18 | exact mm_i19 | exact mm_i20 | exact mm_i21 | exact mm_i22) | ((with_reducible show mm_bool _ _); first | exact True.intro | exact Or.inl rfl | exact Or.inr rfl | (show (_ : Int) = 0 ∨ _ = 1)) | refine And.intro ?_ ?_ | intro _ | with_reducible exact True.intro | exact rfl | with_reducible exact Or.inl rfl | with_reducible exact Or.inr rfl | exact Nat.le_of_ble_eq_true rfl)
        all_goals (try simp (disch := omega) only [e21, InI, Int.toNat_natCast, Int.tmod_eq_emod_of_nonneg, Int.tdiv_eq_ediv_of_nonneg, true_implies, true_or, or_true, mm_l18, mm_l19, mm_l20, mm_l21, mm_l22] at *)
        all_goals first | omega | exact k153 _ _ _ _ cnt _ _ hP hs (by omega) | skip
      | succ j ih =>
        intro i M' d' bo cnt u hj hi hs hc hu
        have e21 : M' 21 = M1 21 := hs.1.st (by omega)
        have hb := hs.2.1.1
        have k146 : ∀ M2 d2 cnt2 (u2 : Nat), sC M1 d M2 d2 bo cnt2 0 → cnt2 ≤ 3 * i + 3 → (u2 : Int) ≤ 43 + 38 * i → i < 31 → K 146 [some (mm_R 17), some (mm_I a), some (mm_I b), some (mm_R bo), some (mm_I i)] [mm_R bo] M2 d2 u2 := by
          intro M2 d2 cnt2 u2 hs2 hc2 hu2 hlt
          have st := ih (i + 1) M2 d2 bo cnt2 u2 (by omega) ⟨by omega, by omega⟩ hs2 (by omega) (by omega)
          refine hK2 _ _ _ _ _ _ ?_
          refine mm_run_at (stop := [61]) (S := K) kkX5_text 90 ?_ (fun _ _ _ _ _ _ _ h => hK _ _ _ _ _ _ h)
          repeat' (first | with_reducible assumption | with_reducible exact mm_i17 | with_reducible exact mm_i18 | with_reducible exact mm_i19 | with_reducible exact mm_i20 | with_reducible exact mm_i21 | with_reducible exact mm_i22 | ((with_reducible show mm_rv _ _ _ _ _); first | exact True.intro | exact mm_i17 | exact mm_i18 | exact mm_i19 | exact mm_i20 | exact mm_i21 | exact mm_i22) | ((with_reducible show mm_bool _ _); first | exact True.intro | exact Or.inl rfl | exact Or.inr rfl | (show (_ : Int) = 0 ∨ _ = 1)) | refine And.intro ?_ ?_ | intro _ | with_reducible exact True.intro | exact rfl | with_reducible exact Or.inl rfl | with_reducible exact Or.inr rfl | exact Nat.le_of_ble_eq_true rfl)
          all_goals (try simp (disch := omega) only [InI, Int.toNat_natCast, Int.tmod_eq_emod_of_nonneg, Int.tdiv_eq_ediv_of_nonneg, true_implies, true_or, or_true, mm_l18, mm_l19, mm_l20, mm_l21, mm_l22] at *)
          all_goals first | omega | exact st | skip
        have k97 : ∀ M2 d2 cnt2 (u2 : Nat), sC M1 d M2 d2 bo cnt2 0 → cnt2 ≤ 3 * i + 1 → (u2 : Int) ≤ 24 + 38 * i → i < 31 → (i ≤ M1 21 a.toNat ∧ (b ≠ 0 → i < M1 21 a.toNat)) → K 97 [some (mm_R 17), some (mm_I a), some (mm_I b), some (mm_R bo), some (mm_I i)] [] M2 d2 u2 := by
          intro M2 d2 cnt2 u2 hs2 hc2 hu2 hlt hlen
          have hb' := hs2.2.1.1
          have hx2 := hs2.1.xA hP.a
          have ht2 := hx2.t
          have hv2 := hx2.v (k := a.toNat) (by omega)
          have e21 : M2 21 = M1 21 := hs2.1.st (by omega)
          have e17 : M2 17 = M1 17 := hs2.1.st (by omega)
          have k143 : ∀ r (u3 : Nat), (u3 : Int) ≤ 24 + 38 * i → (0 ≤ r ∧ r ≤ 60) → K 143 [some (mm_R 17), some (mm_I a), some (mm_I b), some (mm_R bo), some (mm_I i)] [mm_I r, mm_R bo] M2 d2 u3 := by
            intro r u3 hu3 hr
            refine hK2 _ _ _ _ _ _ ?_
            refine mm_run_at (stop := [146]) (S := K) kkX5_text 90 ?_ (fun _ _ _ _ _ _ _ h => hK _ _ _ _ _ _ h)
            refine mj5 rfl (Nat.le_of_ble_eq_true rfl) (by exact hb') (Nat.le_of_ble_eq_true rfl) (show u3 + 19 ≤ 1215 by omega) ⟨M1, d, cnt2, hs2, by omega, ⟨by omega, by omega⟩, fun M3 d3 n3 h9 h => k146 _ _ _ _ h (by omega) (by omega) hlt⟩
          have t1 := ht2.1
          have hst : b ≠ 0 → 0 ≤ M2 20 (30 * a.toNat + i.toNat) ∧ M2 20 (30 * a.toNat + i.toNat) < 60 := fun h0 => by
            have h1 := hv2.2.2 i.toNat (by rw [e21]; omega)
            omega
          have e5 : M2 17 5 = M1 17 5 := by rw [e17]
          have g5 := ht2.2.2.2.1
          have s5 : b = 2 → 0 < M2 17 5 := fun h => by
            have := hsg h
            omega
          have hm5 : b = 2 → ∀ x : Int, 0 ≤ x → 0 ≤ x.tmod (M2 17 5) ∧ x.tmod (M2 17 5) ≤ 60 := fun h x hx => by
            rw [Int.tmod_eq_emod_of_nonneg hx]
            have h1 := Int.emod_nonneg x (b := M2 17 5) (by have := s5 h; omega)
            have h2 := Int.emod_lt_of_pos x (s5 h)
            omega
          have hm6 : b = 2 → ∀ x : Int, 0 ≤ x % (M2 17 5) ∧ x % (M2 17 5) ≤ 60 := fun h x => by
            have h1 := Int.emod_nonneg x (b := M2 17 5) (by have := s5 h; omega)
            have h2 := Int.emod_lt_of_pos x (s5 h)
            omega
          refine hK2 _ _ _ _ _ _ ?_
          refine mm_run_at (stop := [143]) (S := K) kkX5_text 90 ?_ (fun _ _ _ _ _ _ _ h => hK _ _ _ _ _ _ h)
          repeat' (first | with_reducible assumption | with_reducible exact mm_i17 | with_reducible exact mm_i18 | with_reducible exact mm_i19 | with_reducible exact mm_i20 | with_reducible exact mm_i21 | with_reducible exact mm_i22 | ((with_reducible show mm_rv _ _ _ _ _); first | exact True.intro | exact mm_i17 | exact mm_i18 | exact mm_i19 | exact mm_i20 | exact mm_i21 | exact mm_i22 | ((with_reducible show tX _); exact ht2) | ((with_reducible show mV _ _); exact hv2)) | ((with_reducible show tX _); exact ht2) | ((with_reducible show mV _ _); exact hv2) | ((with_reducible show mm_bool _ _); first | exact True.intro | exact Or.inl rfl | exact Or.inr rfl | (show (_ : Int) = 0 ∨ _ = 1)) | refine And.intro ?_ ?_ | intro _ | with_reducible exact True.intro | exact rfl | with_reducible exact Or.inl rfl | with_reducible exact Or.inr rfl | exact Nat.le_of_ble_eq_true rfl)
          all_goals (try simp (disch := omega) only [e21, InI, Int.toNat_natCast, Int.tmod_eq_emod_of_nonneg, Int.tdiv_eq_ediv_of_nonneg, true_implies, true_or, or_true, mm_l18, mm_l19, mm_l20, mm_l21, mm_l22] at *)
          all_goals first | omega | exact k143 _ _ (by omega) (by omega) | exact k143 _ _ (by omega) (hm6 (by omega) _) | exact k143 _ _ (by omega) (hm5 (by omega) _ (by omega)) | skip
        have k96 : ∀ M2 d2, sC M1 d M2 d2 bo (cnt + 1) 0 → i < 31 → (i ≤ M1 21 a.toNat ∧ (b ≠ 0 → i < M1 21 a.toNat)) → K 96 [some (mm_R 17), some (mm_I a), some (mm_I b), some (mm_R bo), some (mm_I i)] [mm_R bo] M2 d2 (u + 19) := by
          intro M2 d2 hs2 hlt hlen
          have k97 := k97 M2 d2 (cnt + 1) (u + 19) hs2 (by omega) (by omega) hlt hlen
          refine hK2 _ _ _ _ _ _ ?_
          refine mm_run_at (stop := [97]) (S := K) kkX5_text 90 ?_ (fun _ _ _ _ _ _ _ h => hK _ _ _ _ _ _ h)
          repeat' (first | with_reducible assumption | with_reducible exact mm_i17 | with_reducible exact mm_i18 | with_reducible exact mm_i19 | with_reducible exact mm_i20 | with_reducible exact mm_i21 | with_reducible exact mm_i22 | ((with_reducible show mm_rv _ _ _ _ _); first | exact True.intro | exact mm_i17 | exact mm_i18 | exact mm_i19 | exact mm_i20 | exact mm_i21 | exact mm_i22) | ((with_reducible show mm_bool _ _); first | exact True.intro | exact Or.inl rfl | exact Or.inr rfl | (show (_ : Int) = 0 ∨ _ = 1)) | refine And.intro ?_ ?_ | intro _ | with_reducible exact True.intro | exact rfl | with_reducible exact Or.inl rfl | with_reducible exact Or.inr rfl | exact Nat.le_of_ble_eq_true rfl)
          all_goals (try simp (disch := omega) only [InI, Int.toNat_natCast, Int.tmod_eq_emod_of_nonneg, Int.tdiv_eq_ediv_of_nonneg, true_implies, true_or, or_true, mm_l18, mm_l19, mm_l20, mm_l21, mm_l22] at *)
          all_goals first | omega | exact k97 | skip
        refine hK2 _ _ _ _ _ _ ?_
        refine mm_run_at (stop := [153, 97, 96]) (S := K) kkX5_text 90 ?_ (fun _ _ _ _ _ _ _ h => hK _ _ _ _ _ _ h)
        repeat' (first | with_reducible assumption | with_reducible exact mm_i17 | with_reducible exact mm_i18 | with_reducible exact mm_i19 | with_reducible exact mm_i20 | with_reducible exact mm_i21 | with_reducible exact mm_i22 | ((with_reducible show mm_rv _ _ _ _ _); first | exact True.intro | exact mm_i17 | exact mm_i18 | exact mm_i19 | exact mm_i20 | exact mm_i21 | exact mm_i22 | exact hb) | exact hb | ((with_reducible show mm_bool _ _); first | exact True.intro | exact Or.inl rfl | exact Or.inr rfl | (show (_ : Int) = 0 ∨ _ = 1)) | refine And.intro ?_ ?_ | intro _ | with_reducible exact True.intro | exact rfl | with_reducible exact Or.inl rfl | with_reducible exact Or.inr rfl | exact Nat.le_of_ble_eq_true rfl)
        all_goals (try simp (disch := omega) only [e21, InI, Int.toNat_natCast, Int.tmod_eq_emod_of_nonneg, Int.tdiv_eq_ediv_of_nonneg, true_implies, true_or, or_true, mm_l18, mm_l19, mm_l20, mm_l21, mm_l22] at *)
        all_goals first | omega | exact k153 _ _ _ _ cnt _ _ hP hs (by omega) | exact k97 _ _ _ _ hs (by omega) (by omega) (by omega) ⟨by omega, by omega⟩ | exact ⟨M1, d, cnt, hs, by omega, fun M2 d2 h => k96 _ _ h (by omega) ⟨by omega, by omega⟩⟩ | skip
    have k50 : ∀ M1, xT M M1 → (0 ≤ a ∧ a ≤ 2) → (0 ≤ b ∧ b ≤ 2) → (b = 2 → M1 17 5 ≠ 0) → K 50 [some (mm_R 17), some (mm_I a), some (mm_I b), none, none] [] M1 d 0 := by
      intro M1 hP hca hcb hsg
      have k53 : ∀ o, 100 ≤ o → o ∉ d → K 53 [some (mm_R 17), some (mm_I a), some (mm_I b), none, none] [mm_R o] (mm_nob M1 o 16 0) (d ++ [o]) 1 := by
        intro o ho hd
        have g1 := (bX.rf (M := M1) (d := d)).new (k := 16) (n := 0) ho hd
        have g2 := bO.mk' (k := 16) (n := 0) (bX.rf (M := M1) (d := d)) ho hd (by omega)
        have g3 := g2.1
        have e0 : ∀ j, mm_nob M1 o 16 0 o j = 0 := fun j => by simp [mm_nob]
        have k57 : ∀ M' d', sC M1 d M' d' o 0 0 → K 57 [some (mm_R 17), some (mm_I a), some (mm_I b), none, none] [mm_R o] M' d' 3 := by
          intro M' d' hs
          have st := loop M1 hP hca hcb hsg 32 0 M' d' o 0 3 (by omega) ⟨by omega, by omega⟩ hs (by omega) (by omega)
          refine hK2 _ _ _ _ _ _ ?_
          refine mm_run_at (stop := [61]) (S := K) kkX5_text 90 ?_ (fun _ _ _ _ _ _ _ h => hK _ _ _ _ _ _ h)
          repeat' (first | with_reducible assumption | with_reducible exact mm_i17 | with_reducible exact mm_i18 | with_reducible exact mm_i19 | with_reducible exact mm_i20 | with_reducible exact mm_i21 | with_reducible exact mm_i22 | ((with_reducible show mm_rv _ _ _ _ _); first | exact True.intro | exact mm_i17 | exact mm_i18 | exact mm_i19 | exact mm_i20 | exact mm_i21 | exact mm_i22) | ((with_reducible show mm_bool _ _); first | exact True.intro | exact Or.inl rfl | exact Or.inr rfl | (show (_ : Int) = 0 ∨ _ = 1)) | refine And.intro ?_ ?_ | intro _ | with_reducible exact True.intro | exact rfl | with_reducible exact Or.inl rfl | with_reducible exact Or.inr rfl | exact Nat.le_of_ble_eq_true rfl)
          all_goals (try simp (disch := omega) only [InI, Int.toNat_natCast, Int.tmod_eq_emod_of_nonneg, Int.tdiv_eq_ediv_of_nonneg, true_implies, true_or, or_true, mm_l18, mm_l19, mm_l20, mm_l21, mm_l22] at *)
          all_goals first | omega | exact st | skip
        refine hK2 _ _ _ _ _ _ ?_
        refine mm_run_at (stop := [57]) (S := K) kkX5_text 90 ?_ (fun _ _ _ _ _ _ _ h => hK _ _ _ _ _ _ h)
        refine mj5 rfl (Nat.le_of_ble_eq_true rfl) (by exact g3) (Nat.le_of_ble_eq_true rfl) (Nat.le_of_ble_eq_true rfl) ⟨M1, d, g1, g2, e0 1, e0 3, fun M' d' hs => k57 M' d' hs⟩
      refine hK2 _ _ _ _ _ _ ?_
      refine mm_run_at (stop := [53]) (S := K) kkX5_text 90 ?_ (fun _ _ _ _ _ _ _ h => hK _ _ _ _ _ _ h)
      refine ⟨Or.inl rfl, Nat.le_of_ble_eq_true rfl, fun o ho hd => k53 o ho hd⟩
    have k32 : ∀ (v : Int) M' r, (v = 0 ∨ v = 1) → (v = 0 → 0 ≤ a ∧ a ≤ 2) → ∀ f : Int, (f = 0 ∨ f = 1) → (f = 0 → 0 ≤ b ∧ b ≤ 2) → v = 0 → ((M' = if f = 1 ∧ mm_up M 17 0 v 17 0 = 0 then mm_up (mm_up M 17 0 v) 17 0 2 else mm_up M 17 0 v) ∧ (0 < M' 17 0 → r = 1) ∧ (M' 17 0 ≤ 0 → r = 0)) → K 32 [some (mm_R 17), some (mm_I a), some (mm_I b), none, none] [mm_I r] M' d 0 := by
      intro v M' r hv hc f hf hf0 hv0 ⟨g1, g2, g3⟩
      have e0 : mm_up M 17 0 v 17 0 = 0 := by simp [mm_up, hv0]
      have hP : xT M M' := by
        rw [g1]
        split
        · exact ⟨(xP_s ha).tr (xP_s ha.s), by rw [vX_u0, vX_u0]⟩
        · exact ⟨xP_s ha, vX_u0⟩
      have hr : r = 0 ∨ r = 1 := by omega
      have hrf : r = 0 → f = 0 := fun h => by
        by_cases e : f = 1
        · rw [if_pos ⟨e, e0⟩] at g1
          have : M' 17 0 = 2 := by rw [g1]; simp [mm_up]
          omega
        · omega
      have k50 := fun h h5 => k50 M' hP (hc hv0) (hf0 (hrf h)) h5
      have ht := hP.a.t
      have t5 := ht.2.2.2.1
      refine hK2 _ _ _ _ _ _ ?_
      refine mm_run_at (stop := [50]) (S := K) kkX5_text 90 ?_ (fun _ _ _ _ _ _ _ h => hK _ _ _ _ _ _ h)
      repeat' (first | with_reducible assumption | with_reducible exact mm_i17 | with_reducible exact mm_i18 | with_reducible exact mm_i19 | with_reducible exact mm_i20 | with_reducible exact mm_i21 | with_reducible exact mm_i22 | ((with_reducible show mm_rv _ _ _ _ _); first | exact True.intro | exact mm_i17 | exact mm_i18 | exact mm_i19 | exact mm_i20 | exact mm_i21 | exact mm_i22) | ((with_reducible show mm_bool _ _); first | exact True.intro | exact Or.inl rfl | exact Or.inr rfl | (show (_ : Int) = 0 ∨ _ = 1)) | refine And.intro ?_ ?_ | intro _ | with_reducible exact True.intro | exact rfl | with_reducible exact Or.inl rfl | with_reducible exact Or.inr rfl | exact Nat.le_of_ble_eq_true rfl)
      all_goals (try simp (disch := omega) only [InI, Int.toNat_natCast, Int.tmod_eq_emod_of_nonneg, Int.tdiv_eq_ediv_of_nonneg, true_implies, true_or, or_true, mm_l18, mm_l19, mm_l20, mm_l21, mm_l22] at *)
      all_goals first | omega | exact hq0 _ _ hP | exact k50 (by omega) (by omega) | skip
    have k28 : ∀ v : Int, (v = 0 ∨ v = 1) → (v = 0 → 0 ≤ a ∧ a ≤ 2) → v = 0 → ∀ f : Int, (f = 0 ∨ f = 1) → (f = 0 → 0 ≤ b ∧ b ≤ 2) → K 28 [some (mm_R 17), some (mm_I a), some (mm_I b), none, none] [mm_I f, mm_R 17] (mm_up M 17 0 v) d 0 := by
      intro v hv hc hv0 f hf hf0
      have e0 : mm_up M 17 0 v 17 0 = v := by simp [mm_up]
      refine hK2 _ _ _ _ _ _ ?_
      refine mm_run_at (stop := [32]) (S := K) kkX5_text 90 ?_ (fun _ _ _ _ _ _ _ h => hK _ _ _ _ _ _ h)
      exact mm_c5 rfl (Nat.le_of_ble_eq_true rfl) (by exact mm_i17) (Nat.le_of_ble_eq_true rfl) (Nat.le_of_ble_eq_true rfl) (mm_a5 rfl hf (by rw [e0]; exact ⟨by omega, by omega⟩) ⟨by omega, by omega⟩ (fun M' r hr => k32 v M' r hv hc f hf hf0 hv0 hr))
    refine ⟨Nat.le_of_ble_eq_true rfl, ?_⟩
    refine mm_run_at (stop := [28]) (S := K) kkX5_text 90 ?_ (fun _ _ _ _ _ _ _ h => hK _ _ _ _ _ _ h)
    repeat' (first | with_reducible assumption | with_reducible exact mm_i17 | with_reducible exact mm_i18 | with_reducible exact mm_i19 | with_reducible exact mm_i20 | with_reducible exact mm_i21 | with_reducible exact mm_i22 | ((with_reducible show mm_rv _ _ _ _ _); first | exact True.intro | exact mm_i17 | exact mm_i18 | exact mm_i19 | exact mm_i20 | exact mm_i21 | exact mm_i22) | ((with_reducible show mm_bool _ _); first | exact True.intro | exact Or.inl rfl | exact Or.inr rfl | (show (_ : Int) = 0 ∨ _ = 1)) | refine And.intro ?_ ?_ | intro _ | with_reducible exact True.intro | exact rfl | with_reducible exact Or.inl rfl | with_reducible exact Or.inr rfl | exact Nat.le_of_ble_eq_true rfl)
    all_goals (try simp (disch := omega) only [InI, Int.toNat_natCast, Int.tmod_eq_emod_of_nonneg, Int.tdiv_eq_ediv_of_nonneg, true_implies, true_or, or_true, mm_l18, mm_l19, mm_l20, mm_l21, mm_l22] at *)
    all_goals first | omega | exact hq0 _ _ ⟨xP_s ha, vX_u0⟩ | exact k28 _ (by omega) (by omega) (by omega) _ (by omega) (by omega) | skip
  · exact h.elim
theorem me_X5_text {l : Launch} (hl : l.stackTraces = false) : mm_Met l yX5_text cX5_text 5 (some (.object "java/lang/String")) [] 12 232 1215 sp_X5_text := mm_mtX hl rn_X5_text ⟨by decide, rfl⟩ kkX5_text rfl ⟨by decide, by decide⟩ flX5_text_k (fun _ h => nomatch h) (⟨mm_pe (me_X5_isNoWalk hl) mwX5_isNoWalk (mm_t7 36 rfl rfl) (Nat.le_of_ble_eq_true rfl) (Nat.le_of_ble_eq_true rfl), mm_pe (me_X5_start hl) mwX5_start (mm_t6 110 rfl rfl) (Nat.le_of_ble_eq_true rfl) (Nat.le_of_ble_eq_true rfl), mm_pe (me_X5_isIn hl) mwX5_isIn (mm_t6 107 rfl rfl) (Nat.le_of_ble_eq_true rfl) (Nat.le_of_ble_eq_true rfl), mm_pe (me_X5_refuse hl) mwX5_refuse (mm_t6 114 rfl rfl) (Nat.le_of_ble_eq_true rfl) (Nat.le_of_ble_eq_true rfl), mm_pe (me_X5_one hl) mwX5_one (mm_t6 170 rfl rfl) (Nat.le_of_ble_eq_true rfl) (Nat.le_of_ble_eq_true rfl), mm_pe (me_X5_cornerOf hl) mwX5_cornerOf (mm_t6 185 rfl rfl) (Nat.le_of_ble_eq_true rfl) (Nat.le_of_ble_eq_true rfl), mm_pe (me_X5_stepOf hl) mwX5_stepOf (mm_t6 158 rfl rfl) (Nat.le_of_ble_eq_true rfl) (Nat.le_of_ble_eq_true rfl), Or.inl ⟨rfl, mm_semV (C := RXB) (T := TXB) (N := 4) (x := ⟨"java/lang/StringBuilder", "<init>", "()V"⟩) (je_binit (l := l)) jw_binit (mm_t7 194 rfl rfl) (mm_t4 191 rfl rfl) (Or.inr ⟨by decide, rfl⟩) (by decide +kernel) (Nat.le_of_ble_eq_true rfl) (Nat.le_of_ble_eq_true rfl) (Or.inr (Or.inr (Or.inl ⟨rfl, rfl, rfl, rfl⟩)))⟩, Or.inl ⟨rfl, mm_semV (C := RXB) (T := TXB) (N := 4) (x := ⟨"java/lang/StringBuilder", "append", "(Ljava/lang/String;)Ljava/lang/StringBuilder;"⟩) (je_bappS (l := l)) jw_bappS (mm_t7 196 rfl rfl) (mm_t5 155 rfl rfl) (Or.inr ⟨by decide, rfl⟩) (by decide +kernel) (Nat.le_of_ble_eq_true rfl) (Nat.le_of_ble_eq_true rfl) (Or.inl ⟨rfl, rfl, fun _ _ h => h _ (mm_T_U _ (mm_t5 156 rfl rfl))⟩)⟩, Or.inl ⟨rfl, mm_semV (C := RXB) (T := TXB) (N := 4) (x := ⟨"java/lang/StringBuilder", "append", "(I)Ljava/lang/StringBuilder;"⟩) (je_bappI (l := l)) jw_bappI (mm_t7 197 rfl rfl) (mm_t5 80 rfl rfl) (Or.inr ⟨by decide, rfl⟩) (by decide +kernel) (Nat.le_of_ble_eq_true rfl) (Nat.le_of_ble_eq_true rfl) (Or.inl ⟨rfl, rfl, fun _ _ h => h _ (mm_T_U _ (mm_t5 81 rfl rfl))⟩)⟩, Or.inl ⟨rfl, mm_semV (C := RXB) (T := TXB) (N := 4) (x := ⟨"java/lang/StringBuilder", "toString", "()Ljava/lang/String;"⟩) (je_toString (l := l)) jw_toString (mm_t7 198 rfl rfl) (mm_t5 114 rfl rfl) (Or.inr ⟨by decide, rfl⟩) (by decide +kernel) (Nat.le_of_ble_eq_true rfl) (Nat.le_of_ble_eq_true rfl) (Or.inl ⟨rfl, rfl, fun _ _ h => h _ (mm_T_U _ (mm_t5 115 rfl rfl))⟩)⟩, trivial⟩) (mm_xe0 _) (by decide)
/-- the model's text, its objects forgotten -/
def sp_X5_textF : mm_S := fun av M d Q => match av with
  | [.inr (.inr (.inl o)), .inl a, .inl b] => o = 17 ∧ xA M ∧ InI a ∧ InI b ∧ (∀ M' q, xT M M' → Q (.inl (some (mm_X q))) M' d)
  | _ => False
theorem me_X5_textF {l : Launch} (hl : l.stackTraces = false) : mm_Met l yX5_text cX5_text 5 (some (.object "java/lang/String")) [] 12 232 1215 sp_X5_textF := (mm_fgt (me_X5_text hl)).sub (fun av M d Q h => by
  unfold sp_X5_textF at h
  split at h
  · obtain ⟨h0, h1, h2, h3, h4⟩ := h
    exact ⟨h0, h1, h2, h3, fun M' q hP => Or.inl (h4 M' q hP), fun M1 M' d' o' hP hX ho => Or.inr ⟨o' - 100, M1, d, by rw [Nat.sub_add_cancel ho], hX, h4 _ _ hP⟩⟩
  · exact h.elim)

