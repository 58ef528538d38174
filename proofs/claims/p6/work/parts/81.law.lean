/-! the law: its helpers (a row of the class each, with what it throws caught) -/
theorem mm_k0 {P : Nat → Prop} {C : Prop} (h : C → P 0) : ∀ k, k = 0 ∧ C → P k := fun k e => by rw [e.1]; exact h e.2
theorem mm_k1 {P : Nat → Prop} {C : Prop} (h : C → P 1) : ∀ k, k = 1 ∧ C → P k := fun k e => by rw [e.1]; exact h e.2
theorem mm_k2 {P : Nat → Prop} {C D : Prop} (h : (C → P 0) ∧ (D → P 1)) : ∀ k, (k = 0 ∧ C) ∨ (k = 1 ∧ D) → P k := fun k e => by
  rcases e with e | e
  · rw [e.1]; exact h.1 e.2
  · rw [e.1]; exact h.2 e.2
theorem mm_k3 {P : Nat → Prop} (h : P 0 ∧ P 1) : ∀ k, k = 0 ∨ k = 1 → P k := fun k e => by
  rcases e with e | e
  · rw [e]; exact h.1
  · rw [e]; exact h.2
theorem mm_w_id {x : Int} (h : InI x) : mm_w x = x := by
  unfold mm_w
  exact Int32.toInt_ofInt_of_le h.1 h.2
theorem mm_w0 : mm_w 0 = 0 := mm_w_id ⟨by decide, by decide⟩
theorem mm_w1 : mm_w 1 = 1 := mm_w_id ⟨by decide, by decide⟩
/-- what a helper leaves: what was thrown, the answer in its box -/
def hlP (M M1 M' : mm_M) (e r : Int) : Prop := cP M M1 ∧ (e = 0 ∨ e = 1 ∨ e = 2) ∧ (∀ o, o ≠ 23 → M' o = M1 o) ∧ (e = 0 → M' 23 0 = mm_w r)
theorem hlP_0 {M M1 : mm_M} {r : Int} (h : cP M M1) : hlP M M1 (mm_up M1 23 0 (mm_w r)) 0 r := ⟨h, Or.inl rfl, fun o ho => mm_up_o _ ho, fun _ => mm_up_sm⟩
theorem hlP_1 {M : mm_M} {e : Int} (h : wA M) (he : e = 1 ∨ e = 2) : hlP M M M e 0 := ⟨h.rf, by omega, fun _ _ => rfl, fun h => by omega⟩
def sp_L_lay : mm_S := fun av M d Q => match av with
  | [.inr (.inr (.inl x)), .inl p0, .inl p1, .inr (.inr (.inl o))] =>  x = 1 ∧ o = 23 ∧ wA M ∧ InI p0 ∧ InI p1 ∧ ∀ M1 M' e r, hlP M M1 M' e r → C_lay p0 p1 M M1 e r → Q (.inl (some (mm_I e))) M' d
  | _ => False
def ct_L_lay : List (Nat × mm_Ca) := [(7, (0, 3, 10, sp_X3_lay, 2))]
abbrev rr_L_lay (Q : mm_Q) := mm_run (mm_look flL) (mm_look ct_L_lay) mm_x0 (mm_look ([] : List (Nat × Int))) (fun _ => none) 1 2 (mm_hn [(0, 11, 14, 19)]) Q kdL_lay
set_option maxRecDepth 20000 in
theorem rn_L_lay : mm_RNH flL ct_L_lay [] [(0, 11, 14, 19)] 1 2 5 kdL_lay sp_L_lay := by
  intro av M d Q h
  unfold sp_L_lay at h
  split at h
  · rename_i x p0 p1 o
    obtain ⟨rfl, rfl, ha, h0, h1, hq⟩ := h
    have q1 : C_lay p0 p1 M M 1 0 → Q (.inl (some (mm_I 1))) M d := fun hc => hq M M 1 0 (hlP_1 ha (by omega)) hc
    have q2 : C_lay p0 p1 M M 2 0 → Q (.inl (some (mm_I 2))) M d := fun hc => hq M M 2 0 (hlP_1 ha (by omega)) hc
    have qa := fun M' (r : Int) (h : cP M M' ∧ InI r ∧ C_lay p0 p1 M M' 0 r) => hq M' _ 0 r (hlP_0 (r := r) h.1) h.2.2
    clear hq
    obtain ⟨K, hK, hK2⟩ : ∃ K : Nat → mm_K, (∀ t ls st M d u, K t ls st M d u → rr_L_lay Q t ls st M d u) ∧ (∀ t ls st M d u, rr_L_lay Q t ls st M d u → K t ls st M d u) := ⟨rr_L_lay Q, fun _ _ _ _ _ _ h => h, fun _ _ _ _ _ _ h => h⟩
    refine ⟨Nat.le_of_ble_eq_true rfl, mm_run_at (stop := []) (S := K) kkL_lay 90 ?_ (fun _ _ _ _ _ _ _ h => hK _ _ _ _ _ _ h)⟩
    repeat' (first | with_reducible assumption | with_reducible exact True.intro | with_reducible exact mm_i1 | with_reducible exact mm_i17 | with_reducible exact mm_i23 | ((with_reducible show mm_rv _ _ _ _ _); first | exact True.intro | exact mm_i1 | exact mm_i17 | exact mm_i23 | refine mm_k0 ?_) | refine mm_k0 ?_ | ((with_reducible show mm_bool _ _); first | exact True.intro | exact Or.inl rfl | exact Or.inr rfl | (show (_ : Int) = 0 ∨ _ = 1)) | rfl | with_reducible exact Or.inl rfl | with_reducible exact Or.inr rfl | exact Nat.le_of_ble_eq_true rfl | refine And.intro ?_ ?_ | intro _)
    all_goals (try simp (disch := omega) only [InI, Int.toNat_natCast, Int.tmod_eq_emod_of_nonneg, Int.tdiv_eq_ediv_of_nonneg, true_implies, true_or, or_true, mm_l18, mm_l19, mm_l20, mm_l21, mm_l22] at *)
    all_goals first | omega | exact qa _ _ (by assumption) | exact q1 (by assumption) | exact q2 (by assumption) | skip
  · exact h.elim
theorem me_L_lay {l : Launch} (hl : l.stackTraces = false) : mm_Met l yL_lay cL_lay 5 (some .int) [(0, 11, 14, 19)] 9 164 2 sp_L_lay := mm_mtH rn_L_lay ⟨by decide, rfl⟩ kkL_lay rfl (by decide) (⟨mm_pe (me_X3_lay hl) mwX3_lay (mm_t3 76 rfl rfl) (Nat.le_of_ble_eq_true rfl) (Nat.le_of_ble_eq_true rfl), trivial⟩)
def sp_L_layRing : mm_S := fun av M d Q => match av with
  | [.inr (.inr (.inl x)), .inl p0, .inl p1, .inr (.inr (.inl o))] =>  x = 1 ∧ o = 23 ∧ wA M ∧ InI p0 ∧ InI p1 ∧ ∀ M1 M' e r, hlP M M1 M' e r → C_layRing p0 p1 M M1 e r → Q (.inl (some (mm_I e))) M' d
  | _ => False
def ct_L_layRing : List (Nat × mm_Ca) := [(21, (0, 3, 10, sp_X3_layRing, 2))]
abbrev rr_L_layRing (Q : mm_Q) := mm_run (mm_look flL) (mm_look ct_L_layRing) mm_x0 (mm_look ([] : List (Nat × Int))) (fun _ => none) 1 2 (mm_hn [(0, 11, 14, 24)]) Q kdL_layRing
set_option maxRecDepth 20000 in
theorem rn_L_layRing : mm_RNH flL ct_L_layRing [] [(0, 11, 14, 24)] 1 2 5 kdL_layRing sp_L_layRing := by
  intro av M d Q h
  unfold sp_L_layRing at h
  split at h
  · rename_i x p0 p1 o
    obtain ⟨rfl, rfl, ha, h0, h1, hq⟩ := h
    have q1 : C_layRing p0 p1 M M 1 0 → Q (.inl (some (mm_I 1))) M d := fun hc => hq M M 1 0 (hlP_1 ha (by omega)) hc
    have q2 : C_layRing p0 p1 M M 2 0 → Q (.inl (some (mm_I 2))) M d := fun hc => hq M M 2 0 (hlP_1 ha (by omega)) hc
    have qa := fun M' (r : Int) (h : cP M M' ∧ InI r ∧ C_layRing p0 p1 M M' 0 r) => hq M' _ 0 r (hlP_0 (r := r) h.1) h.2.2
    clear hq
    obtain ⟨K, hK, hK2⟩ : ∃ K : Nat → mm_K, (∀ t ls st M d u, K t ls st M d u → rr_L_layRing Q t ls st M d u) ∧ (∀ t ls st M d u, rr_L_layRing Q t ls st M d u → K t ls st M d u) := ⟨rr_L_layRing Q, fun _ _ _ _ _ _ h => h, fun _ _ _ _ _ _ h => h⟩
    refine ⟨Nat.le_of_ble_eq_true rfl, mm_run_at (stop := []) (S := K) kkL_layRing 90 ?_ (fun _ _ _ _ _ _ _ h => hK _ _ _ _ _ _ h)⟩
    repeat' (first | with_reducible assumption | with_reducible exact True.intro | with_reducible exact mm_i1 | with_reducible exact mm_i17 | with_reducible exact mm_i23 | ((with_reducible show mm_rv _ _ _ _ _); first | exact True.intro | exact mm_i1 | exact mm_i17 | exact mm_i23 | refine mm_k1 ?_) | refine mm_k1 ?_ | ((with_reducible show mm_bool _ _); first | exact True.intro | exact Or.inl rfl | exact Or.inr rfl | (show (_ : Int) = 0 ∨ _ = 1)) | rfl | with_reducible exact Or.inl rfl | with_reducible exact Or.inr rfl | exact Nat.le_of_ble_eq_true rfl | refine And.intro ?_ ?_ | intro _)
    all_goals (try simp (disch := omega) only [InI, Int.toNat_natCast, Int.tmod_eq_emod_of_nonneg, Int.tdiv_eq_ediv_of_nonneg, true_implies, true_or, or_true, mm_l18, mm_l19, mm_l20, mm_l21, mm_l22] at *)
    all_goals first | omega | exact qa _ _ (by assumption) | exact q1 (by assumption) | exact q2 (by assumption) | skip
  · exact h.elim
theorem me_L_layRing {l : Launch} (hl : l.stackTraces = false) : mm_Met l yL_layRing cL_layRing 5 (some .int) [(0, 11, 14, 24)] 10 187 2 sp_L_layRing := mm_mtH rn_L_layRing ⟨by decide, rfl⟩ kkL_layRing rfl (by decide) (⟨mm_pe (me_X3_layRing hl) mwX3_layRing (mm_t3 98 rfl rfl) (Nat.le_of_ble_eq_true rfl) (Nat.le_of_ble_eq_true rfl), trivial⟩)
def sp_L_words : mm_S := fun av M d Q => match av with
  | [.inr (.inr (.inl x)), .inl p0, .inl p1, .inr (.inr (.inl o))] =>  x = 1 ∧ o = 23 ∧ wA M ∧ InI p0 ∧ InI p1 ∧ ∀ M1 M' e r, hlP M M1 M' e r → C_words p0 p1 M M1 e r → Q (.inl (some (mm_I e))) M' d
  | _ => False
def ct_L_words : List (Nat × mm_Ca) := [(26, (0, 3, 10, sp_X3_words, 2))]
abbrev rr_L_words (Q : mm_Q) := mm_run (mm_look flL) (mm_look ct_L_words) mm_x0 (mm_look ([] : List (Nat × Int))) (fun _ => none) 1 2 (mm_hn [(0, 11, 14, 24)]) Q kdL_words
set_option maxRecDepth 20000 in
theorem rn_L_words : mm_RNH flL ct_L_words [] [(0, 11, 14, 24)] 1 2 5 kdL_words sp_L_words := by
  intro av M d Q h
  unfold sp_L_words at h
  split at h
  · rename_i x p0 p1 o
    obtain ⟨rfl, rfl, ha, h0, h1, hq⟩ := h
    have q1 : C_words p0 p1 M M 1 0 → Q (.inl (some (mm_I 1))) M d := fun hc => hq M M 1 0 (hlP_1 ha (by omega)) hc
    have q2 : C_words p0 p1 M M 2 0 → Q (.inl (some (mm_I 2))) M d := fun hc => hq M M 2 0 (hlP_1 ha (by omega)) hc
    have qa := fun M' (r : Int) (h : cP M M' ∧ InI r ∧ C_words p0 p1 M M' 0 r) => hq M' _ 0 r (hlP_0 (r := r) h.1) h.2.2
    clear hq
    obtain ⟨K, hK, hK2⟩ : ∃ K : Nat → mm_K, (∀ t ls st M d u, K t ls st M d u → rr_L_words Q t ls st M d u) ∧ (∀ t ls st M d u, rr_L_words Q t ls st M d u → K t ls st M d u) := ⟨rr_L_words Q, fun _ _ _ _ _ _ h => h, fun _ _ _ _ _ _ h => h⟩
    refine ⟨Nat.le_of_ble_eq_true rfl, mm_run_at (stop := []) (S := K) kkL_words 90 ?_ (fun _ _ _ _ _ _ _ h => hK _ _ _ _ _ _ h)⟩
    repeat' (first | with_reducible assumption | with_reducible exact True.intro | with_reducible exact mm_i1 | with_reducible exact mm_i17 | with_reducible exact mm_i23 | ((with_reducible show mm_rv _ _ _ _ _); first | exact True.intro | exact mm_i1 | exact mm_i17 | exact mm_i23 | refine mm_k1 ?_) | refine mm_k1 ?_ | ((with_reducible show mm_bool _ _); first | exact True.intro | exact Or.inl rfl | exact Or.inr rfl | (show (_ : Int) = 0 ∨ _ = 1)) | rfl | with_reducible exact Or.inl rfl | with_reducible exact Or.inr rfl | exact Nat.le_of_ble_eq_true rfl | refine And.intro ?_ ?_ | intro _)
    all_goals (try simp (disch := omega) only [InI, Int.toNat_natCast, Int.tmod_eq_emod_of_nonneg, Int.tdiv_eq_ediv_of_nonneg, true_implies, true_or, or_true, mm_l18, mm_l19, mm_l20, mm_l21, mm_l22] at *)
    all_goals first | omega | exact qa _ _ (by assumption) | exact q1 (by assumption) | exact q2 (by assumption) | skip
  · exact h.elim
theorem me_L_words {l : Launch} (hl : l.stackTraces = false) : mm_Met l yL_words cL_words 5 (some .int) [(0, 11, 14, 24)] 10 188 2 sp_L_words := mm_mtH rn_L_words ⟨by decide, rfl⟩ kkL_words rfl (by decide) (⟨mm_pe (me_X3_words hl) mwX3_words (mm_t3 129 rfl rfl) (Nat.le_of_ble_eq_true rfl) (Nat.le_of_ble_eq_true rfl), trivial⟩)
def sp_L_close : mm_S := fun av M d Q => match av with
  | [.inr (.inr (.inl x)), .inl p0, .inr (.inr (.inl o))] =>  x = 1 ∧ o = 23 ∧ wA M ∧ InI p0 ∧ ∀ M1 M' e r, hlP M M1 M' e r → C_close p0 M M1 e r → Q (.inl (some (mm_I e))) M' d
  | _ => False
def ct_L_close : List (Nat × mm_Ca) := [(29, (0, 2, 10, sp_X3_close, 1))]
abbrev rr_L_close (Q : mm_Q) := mm_run (mm_look flL) (mm_look ct_L_close) mm_x0 (mm_look ([] : List (Nat × Int))) (fun _ => none) 1 1 (mm_hn [(0, 10, 13, 19)]) Q kdL_close
set_option maxRecDepth 20000 in
theorem rn_L_close : mm_RNH flL ct_L_close [] [(0, 10, 13, 19)] 1 1 4 kdL_close sp_L_close := by
  intro av M d Q h
  unfold sp_L_close at h
  split at h
  · rename_i x p0 o
    obtain ⟨rfl, rfl, ha, h0, hq⟩ := h
    have q1 : C_close p0 M M 1 0 → Q (.inl (some (mm_I 1))) M d := fun hc => hq M M 1 0 (hlP_1 ha (by omega)) hc
    have q2 : C_close p0 M M 2 0 → Q (.inl (some (mm_I 2))) M d := fun hc => hq M M 2 0 (hlP_1 ha (by omega)) hc
    have qa := fun M' (r : Int) (h : cP M M' ∧ InI r ∧ C_close p0 M M' 0 r) => hq M' _ 0 r (hlP_0 (r := r) h.1) h.2.2
    clear hq
    obtain ⟨K, hK, hK2⟩ : ∃ K : Nat → mm_K, (∀ t ls st M d u, K t ls st M d u → rr_L_close Q t ls st M d u) ∧ (∀ t ls st M d u, rr_L_close Q t ls st M d u → K t ls st M d u) := ⟨rr_L_close Q, fun _ _ _ _ _ _ h => h, fun _ _ _ _ _ _ h => h⟩
    refine ⟨Nat.le_of_ble_eq_true rfl, mm_run_at (stop := []) (S := K) kkL_close 90 ?_ (fun _ _ _ _ _ _ _ h => hK _ _ _ _ _ _ h)⟩
    repeat' (first | with_reducible assumption | with_reducible exact True.intro | with_reducible exact mm_i1 | with_reducible exact mm_i17 | with_reducible exact mm_i23 | ((with_reducible show mm_rv _ _ _ _ _); first | exact True.intro | exact mm_i1 | exact mm_i17 | exact mm_i23 | refine mm_k0 ?_) | refine mm_k0 ?_ | ((with_reducible show mm_bool _ _); first | exact True.intro | exact Or.inl rfl | exact Or.inr rfl | (show (_ : Int) = 0 ∨ _ = 1)) | rfl | with_reducible exact Or.inl rfl | with_reducible exact Or.inr rfl | exact Nat.le_of_ble_eq_true rfl | refine And.intro ?_ ?_ | intro _)
    all_goals (try simp (disch := omega) only [InI, Int.toNat_natCast, Int.tmod_eq_emod_of_nonneg, Int.tdiv_eq_ediv_of_nonneg, true_implies, true_or, or_true, mm_l18, mm_l19, mm_l20, mm_l21, mm_l22] at *)
    all_goals first | omega | exact qa _ _ (by assumption) | exact q1 (by assumption) | exact q2 (by assumption) | skip
  · exact h.elim
theorem me_L_close {l : Launch} (hl : l.stackTraces = false) : mm_Met l yL_close cL_close 4 (some .int) [(0, 10, 13, 19)] 9 163 1 sp_L_close := mm_mtH rn_L_close ⟨by decide, rfl⟩ kkL_close rfl (by decide) (⟨mm_pe (me_X3_close hl) mwX3_close (mm_t3 144 rfl rfl) (Nat.le_of_ble_eq_true rfl) (Nat.le_of_ble_eq_true rfl), trivial⟩)
def sp_L_end : mm_S := fun av M d Q => match av with
  | [.inr (.inr (.inl x)), .inl p0, .inl p1, .inr (.inr (.inl o))] =>  x = 1 ∧ o = 23 ∧ wA M ∧ InI p0 ∧ (p1 = 0 ∨ p1 = 1) ∧ ∀ M1 M' e r, hlP M M1 M' e r → C_end p0 p1 M M1 e r → Q (.inl (some (mm_I e))) M' d
  | _ => False
def ct_L_end : List (Nat × mm_Ca) := [(33, (0, 3, 10, sp_X3_end, 1))]
abbrev rr_L_end (Q : mm_Q) := mm_run (mm_look flL) (mm_look ct_L_end) mm_x0 (mm_look ([] : List (Nat × Int))) (fun _ => none) 1 1 (mm_hn [(0, 11, 14, 19)]) Q kdL_end
set_option maxRecDepth 20000 in
theorem rn_L_end : mm_RNH flL ct_L_end [] [(0, 11, 14, 19)] 1 1 5 kdL_end sp_L_end := by
  intro av M d Q h
  unfold sp_L_end at h
  split at h
  · rename_i x p0 p1 o
    obtain ⟨rfl, rfl, ha, h0, h1, hq⟩ := h
    have q1 : C_end p0 p1 M M 1 0 → Q (.inl (some (mm_I 1))) M d := fun hc => hq M M 1 0 (hlP_1 ha (by omega)) hc
    have q2 : C_end p0 p1 M M 2 0 → Q (.inl (some (mm_I 2))) M d := fun hc => hq M M 2 0 (hlP_1 ha (by omega)) hc
    have qa := fun (r : Int) (h : InI r ∧ C_end p0 p1 M M 0 r) => hq M _ 0 r (hlP_0 (r := r) ha.rf) h.2
    clear hq
    obtain ⟨K, hK, hK2⟩ : ∃ K : Nat → mm_K, (∀ t ls st M d u, K t ls st M d u → rr_L_end Q t ls st M d u) ∧ (∀ t ls st M d u, rr_L_end Q t ls st M d u → K t ls st M d u) := ⟨rr_L_end Q, fun _ _ _ _ _ _ h => h, fun _ _ _ _ _ _ h => h⟩
    refine ⟨Nat.le_of_ble_eq_true rfl, mm_run_at (stop := []) (S := K) kkL_end 90 ?_ (fun _ _ _ _ _ _ _ h => hK _ _ _ _ _ _ h)⟩
    repeat' (first | with_reducible assumption | with_reducible exact True.intro | with_reducible exact mm_i1 | with_reducible exact mm_i17 | with_reducible exact mm_i23 | ((with_reducible show mm_rv _ _ _ _ _); first | exact True.intro | exact mm_i1 | exact mm_i17 | exact mm_i23 | refine mm_k0 ?_) | refine mm_k0 ?_ | ((with_reducible show mm_bool _ _); first | exact True.intro | exact Or.inl rfl | exact Or.inr rfl | (show (_ : Int) = 0 ∨ _ = 1)) | rfl | with_reducible exact Or.inl rfl | with_reducible exact Or.inr rfl | exact Nat.le_of_ble_eq_true rfl | refine And.intro ?_ ?_ | intro _)
    all_goals (try simp (disch := omega) only [InI, Int.toNat_natCast, Int.tmod_eq_emod_of_nonneg, Int.tdiv_eq_ediv_of_nonneg, true_implies, true_or, or_true, mm_l18, mm_l19, mm_l20, mm_l21, mm_l22] at *)
    all_goals first | omega | exact qa _ (by assumption) | exact q1 (by assumption) | exact q2 (by assumption) | skip
  · exact h.elim
theorem me_L_end {l : Launch} (hl : l.stackTraces = false) : mm_Met l yL_end cL_end 5 (some .int) [(0, 11, 14, 19)] 9 163 1 sp_L_end := mm_mtH rn_L_end ⟨by decide, rfl⟩ kkL_end rfl (by decide) (⟨mm_pe (me_X3_end hl) mwX3_end (mm_t3 168 rfl rfl) (Nat.le_of_ble_eq_true rfl) (Nat.le_of_ble_eq_true rfl), trivial⟩)
def sp_L_ways : mm_S := fun av M d Q => match av with
  | [.inr (.inr (.inl x)), .inl p0, .inl p1, .inr (.inr (.inl o))] =>  x = 1 ∧ o = 23 ∧ wA M ∧ InI p0 ∧ InI p1 ∧ ∀ M1 M' e r, hlP M M1 M' e r → C_ways p0 p1 M M1 e r → Q (.inl (some (mm_I e))) M' d
  | _ => False
def ct_L_ways : List (Nat × mm_Ca) := [(37, (0, 3, 10, sp_X3_ways, 2))]
abbrev rr_L_ways (Q : mm_Q) := mm_run (mm_look flL) (mm_look ct_L_ways) mm_x0 (mm_look ([] : List (Nat × Int))) (fun _ => none) 1 2 (mm_hn [(0, 11, 14, 19), (0, 11, 18, 24)]) Q kdL_ways
set_option maxRecDepth 20000 in
theorem rn_L_ways : mm_RNH flL ct_L_ways [] [(0, 11, 14, 19), (0, 11, 18, 24)] 1 2 5 kdL_ways sp_L_ways := by
  intro av M d Q h
  unfold sp_L_ways at h
  split at h
  · rename_i x p0 p1 o
    obtain ⟨rfl, rfl, ha, h0, h1, hq⟩ := h
    have q1 : C_ways p0 p1 M M 1 0 → Q (.inl (some (mm_I 1))) M d := fun hc => hq M M 1 0 (hlP_1 ha (by omega)) hc
    have q2 : C_ways p0 p1 M M 2 0 → Q (.inl (some (mm_I 2))) M d := fun hc => hq M M 2 0 (hlP_1 ha (by omega)) hc
    have qa := fun M' (r : Int) (h : cP M M' ∧ InI r ∧ C_ways p0 p1 M M' 0 r) => hq M' _ 0 r (hlP_0 (r := r) h.1) h.2.2
    clear hq
    obtain ⟨K, hK, hK2⟩ : ∃ K : Nat → mm_K, (∀ t ls st M d u, K t ls st M d u → rr_L_ways Q t ls st M d u) ∧ (∀ t ls st M d u, rr_L_ways Q t ls st M d u → K t ls st M d u) := ⟨rr_L_ways Q, fun _ _ _ _ _ _ h => h, fun _ _ _ _ _ _ h => h⟩
    refine ⟨Nat.le_of_ble_eq_true rfl, mm_run_at (stop := []) (S := K) kkL_ways 90 ?_ (fun _ _ _ _ _ _ _ h => hK _ _ _ _ _ _ h)⟩
    repeat' (first | with_reducible assumption | with_reducible exact True.intro | with_reducible exact mm_i1 | with_reducible exact mm_i17 | with_reducible exact mm_i23 | ((with_reducible show mm_rv _ _ _ _ _); first | exact True.intro | exact mm_i1 | exact mm_i17 | exact mm_i23 | refine mm_k2 ?_) | refine mm_k2 ?_ | ((with_reducible show mm_bool _ _); first | exact True.intro | exact Or.inl rfl | exact Or.inr rfl | (show (_ : Int) = 0 ∨ _ = 1)) | rfl | with_reducible exact Or.inl rfl | with_reducible exact Or.inr rfl | exact Nat.le_of_ble_eq_true rfl | refine And.intro ?_ ?_ | intro _)
    all_goals (try simp (disch := omega) only [InI, Int.toNat_natCast, Int.tmod_eq_emod_of_nonneg, Int.tdiv_eq_ediv_of_nonneg, true_implies, true_or, or_true, mm_l18, mm_l19, mm_l20, mm_l21, mm_l22] at *)
    all_goals first | omega | exact qa _ _ (by assumption) | exact q1 (by assumption) | exact q2 (by assumption) | skip
  · exact h.elim
theorem me_L_ways {l : Launch} (hl : l.stackTraces = false) : mm_Met l yL_ways cL_ways 5 (some .int) [(0, 11, 14, 19), (0, 11, 18, 24)] 9 166 2 sp_L_ways := mm_mtH rn_L_ways ⟨by decide, rfl⟩ kkL_ways rfl (by decide) (⟨mm_pe (me_X3_ways hl) mwX3_ways (mm_t3 175 rfl rfl) (Nat.le_of_ble_eq_true rfl) (Nat.le_of_ble_eq_true rfl), trivial⟩)
def sp_L_isStart : mm_S := fun av M d Q => match av with
  | [.inr (.inr (.inl x)), .inl p0, .inr (.inr (.inl o))] =>  x = 1 ∧ o = 23 ∧ wA M ∧ InI p0 ∧ ∀ M1 M' e r, hlP M M1 M' e r → C_isStart p0 M M1 e r → Q (.inl (some (mm_I e))) M' d
  | _ => False
def ct_L_isStart : List (Nat × mm_Ca) := [(40, (0, 2, 10, sp_X3_isStart, 1))]
abbrev rr_L_isStart (Q : mm_Q) := mm_run (mm_look flL) (mm_look ct_L_isStart) mm_x0 (mm_look ([] : List (Nat × Int))) (fun _ => none) 1 1 (mm_hn [(0, 17, 20, 19)]) Q kdL_isStart
set_option maxRecDepth 20000 in
theorem rn_L_isStart : mm_RNH flL ct_L_isStart [] [(0, 17, 20, 19)] 1 1 4 kdL_isStart sp_L_isStart := by
  intro av M d Q h
  unfold sp_L_isStart at h
  split at h
  · rename_i x p0 o
    obtain ⟨rfl, rfl, ha, h0, hq⟩ := h
    have q1 : C_isStart p0 M M 1 0 → Q (.inl (some (mm_I 1))) M d := fun hc => hq M M 1 0 (hlP_1 ha (by omega)) hc
    have q2 : C_isStart p0 M M 2 0 → Q (.inl (some (mm_I 2))) M d := fun hc => hq M M 2 0 (hlP_1 ha (by omega)) hc
    have qa : ∀ M' (r : Int), (cP M M' ∧ (r = 0 ∨ r = 1) ∧ C_isStart p0 M M' 0 r) → r ≠ 0 → Q (.inl (some (mm_I 0))) (mm_up M' 23 0 1) d := fun M' r h hr => by
      have e : r = 1 := by have := h.2.1; omega
      subst e
      have := hq M' _ 0 1 (hlP_0 h.1) h.2.2
      rw [mm_w1] at this
      exact this
    have qb : ∀ M' (r : Int), (cP M M' ∧ (r = 0 ∨ r = 1) ∧ C_isStart p0 M M' 0 r) → r = 0 → Q (.inl (some (mm_I 0))) (mm_up M' 23 0 0) d := fun M' r h hr => by
      subst hr
      have := hq M' _ 0 0 (hlP_0 h.1) h.2.2
      rw [mm_w0] at this
      exact this
    clear hq
    obtain ⟨K, hK, hK2⟩ : ∃ K : Nat → mm_K, (∀ t ls st M d u, K t ls st M d u → rr_L_isStart Q t ls st M d u) ∧ (∀ t ls st M d u, rr_L_isStart Q t ls st M d u → K t ls st M d u) := ⟨rr_L_isStart Q, fun _ _ _ _ _ _ h => h, fun _ _ _ _ _ _ h => h⟩
    refine ⟨Nat.le_of_ble_eq_true rfl, mm_run_at (stop := []) (S := K) kkL_isStart 90 ?_ (fun _ _ _ _ _ _ _ h => hK _ _ _ _ _ _ h)⟩
    repeat' (first | with_reducible assumption | with_reducible exact True.intro | with_reducible exact mm_i1 | with_reducible exact mm_i17 | with_reducible exact mm_i23 | ((with_reducible show mm_rv _ _ _ _ _); first | exact True.intro | exact mm_i1 | exact mm_i17 | exact mm_i23 | refine mm_k0 ?_) | refine mm_k0 ?_ | ((with_reducible show mm_bool _ _); first | exact True.intro | exact Or.inl rfl | exact Or.inr rfl | (show (_ : Int) = 0 ∨ _ = 1)) | rfl | with_reducible exact Or.inl rfl | with_reducible exact Or.inr rfl | exact Nat.le_of_ble_eq_true rfl | refine And.intro ?_ ?_ | intro _)
    all_goals (try simp (disch := omega) only [InI, Int.toNat_natCast, Int.tmod_eq_emod_of_nonneg, Int.tdiv_eq_ediv_of_nonneg, true_implies, true_or, or_true, mm_l18, mm_l19, mm_l20, mm_l21, mm_l22] at *)
    all_goals first | omega | exact qa _ _ (by assumption) (by omega) | exact qb _ _ (by assumption) (by omega) | exact q1 (by assumption) | exact q2 (by assumption) | skip
  · exact h.elim
theorem me_L_isStart {l : Launch} (hl : l.stackTraces = false) : mm_Met l yL_isStart cL_isStart 4 (some .int) [(0, 17, 20, 19)] 11 208 1 sp_L_isStart := mm_mtH rn_L_isStart ⟨by decide, rfl⟩ kkL_isStart rfl (by decide) (⟨mm_pe (me_X3_isStart hl) mwX3_isStart (mm_t3 182 rfl rfl) (Nat.le_of_ble_eq_true rfl) (Nat.le_of_ble_eq_true rfl), trivial⟩)
def sp_L_rule : mm_S := fun av M d Q => match av with
  | [.inr (.inr (.inl x)), .inl p0, .inr (.inr (.inl o))] =>  x = 1 ∧ o = 23 ∧ wA M ∧ InI p0 ∧ ∀ M1 M' e r, hlP M M1 M' e r → C_rule p0 M M1 e r → Q (.inl (some (mm_I e))) M' d
  | _ => False
def ct_L_rule : List (Nat × mm_Ca) := [(44, (0, 2, 10, sp_X3_rule, 1))]
abbrev rr_L_rule (Q : mm_Q) := mm_run (mm_look flL) (mm_look ct_L_rule) mm_x0 (mm_look ([] : List (Nat × Int))) (fun _ => none) 1 1 (mm_hn [(0, 10, 13, 24)]) Q kdL_rule
set_option maxRecDepth 20000 in
theorem rn_L_rule : mm_RNH flL ct_L_rule [] [(0, 10, 13, 24)] 1 1 4 kdL_rule sp_L_rule := by
  intro av M d Q h
  unfold sp_L_rule at h
  split at h
  · rename_i x p0 o
    obtain ⟨rfl, rfl, ha, h0, hq⟩ := h
    have q1 : C_rule p0 M M 1 0 → Q (.inl (some (mm_I 1))) M d := fun hc => hq M M 1 0 (hlP_1 ha (by omega)) hc
    have q2 : C_rule p0 M M 2 0 → Q (.inl (some (mm_I 2))) M d := fun hc => hq M M 2 0 (hlP_1 ha (by omega)) hc
    have qa := fun (r : Int) (h : InI r ∧ C_rule p0 M M 0 r) => hq M _ 0 r (hlP_0 (r := r) ha.rf) h.2
    clear hq
    obtain ⟨K, hK, hK2⟩ : ∃ K : Nat → mm_K, (∀ t ls st M d u, K t ls st M d u → rr_L_rule Q t ls st M d u) ∧ (∀ t ls st M d u, rr_L_rule Q t ls st M d u → K t ls st M d u) := ⟨rr_L_rule Q, fun _ _ _ _ _ _ h => h, fun _ _ _ _ _ _ h => h⟩
    refine ⟨Nat.le_of_ble_eq_true rfl, mm_run_at (stop := []) (S := K) kkL_rule 90 ?_ (fun _ _ _ _ _ _ _ h => hK _ _ _ _ _ _ h)⟩
    repeat' (first | with_reducible assumption | with_reducible exact True.intro | with_reducible exact mm_i1 | with_reducible exact mm_i17 | with_reducible exact mm_i23 | ((with_reducible show mm_rv _ _ _ _ _); first | exact True.intro | exact mm_i1 | exact mm_i17 | exact mm_i23 | refine mm_k1 ?_) | refine mm_k1 ?_ | ((with_reducible show mm_bool _ _); first | exact True.intro | exact Or.inl rfl | exact Or.inr rfl | (show (_ : Int) = 0 ∨ _ = 1)) | rfl | with_reducible exact Or.inl rfl | with_reducible exact Or.inr rfl | exact Nat.le_of_ble_eq_true rfl | refine And.intro ?_ ?_ | intro _)
    all_goals (try simp (disch := omega) only [InI, Int.toNat_natCast, Int.tmod_eq_emod_of_nonneg, Int.tdiv_eq_ediv_of_nonneg, true_implies, true_or, or_true, mm_l18, mm_l19, mm_l20, mm_l21, mm_l22] at *)
    all_goals first | omega | exact qa _ (by assumption) | exact q1 (by assumption) | exact q2 (by assumption) | skip
  · exact h.elim
theorem me_L_rule {l : Launch} (hl : l.stackTraces = false) : mm_Met l yL_rule cL_rule 4 (some .int) [(0, 10, 13, 24)] 8 143 1 sp_L_rule := mm_mtH rn_L_rule ⟨by decide, rfl⟩ kkL_rule rfl (by decide) (⟨mm_pe (me_X3_rule hl) mwX3_rule (mm_t3 189 rfl rfl) (Nat.le_of_ble_eq_true rfl) (Nat.le_of_ble_eq_true rfl), trivial⟩)
def sp_L_begin : mm_S := fun av M d Q => match av with
  | [.inr (.inr (.inl x)), .inl p0, .inl p1, .inr (.inr (.inl o))] =>  x = 1 ∧ o = 23 ∧ wA M ∧ InI p0 ∧ InI p1 ∧ ∀ M1 M' e r, hlP M M1 M' e r → C_begin p0 p1 M M1 e r → Q (.inl (some (mm_I e))) M' d
  | _ => False
def ct_L_begin : List (Nat × mm_Ca) := [(47, (0, 3, 10, sp_X3_begin, 2))]
abbrev rr_L_begin (Q : mm_Q) := mm_run (mm_look flL) (mm_look ct_L_begin) mm_x0 (mm_look ([] : List (Nat × Int))) (fun _ => none) 1 2 (mm_hn [(0, 11, 14, 19)]) Q kdL_begin
set_option maxRecDepth 20000 in
theorem rn_L_begin : mm_RNH flL ct_L_begin [] [(0, 11, 14, 19)] 1 2 5 kdL_begin sp_L_begin := by
  intro av M d Q h
  unfold sp_L_begin at h
  split at h
  · rename_i x p0 p1 o
    obtain ⟨rfl, rfl, ha, h0, h1, hq⟩ := h
    have q1 : C_begin p0 p1 M M 1 0 → Q (.inl (some (mm_I 1))) M d := fun hc => hq M M 1 0 (hlP_1 ha (by omega)) hc
    have q2 : C_begin p0 p1 M M 2 0 → Q (.inl (some (mm_I 2))) M d := fun hc => hq M M 2 0 (hlP_1 ha (by omega)) hc
    have qa := fun M' (r : Int) (h : cP M M' ∧ InI r ∧ C_begin p0 p1 M M' 0 r) => hq M' _ 0 r (hlP_0 (r := r) h.1) h.2.2
    clear hq
    obtain ⟨K, hK, hK2⟩ : ∃ K : Nat → mm_K, (∀ t ls st M d u, K t ls st M d u → rr_L_begin Q t ls st M d u) ∧ (∀ t ls st M d u, rr_L_begin Q t ls st M d u → K t ls st M d u) := ⟨rr_L_begin Q, fun _ _ _ _ _ _ h => h, fun _ _ _ _ _ _ h => h⟩
    refine ⟨Nat.le_of_ble_eq_true rfl, mm_run_at (stop := []) (S := K) kkL_begin 90 ?_ (fun _ _ _ _ _ _ _ h => hK _ _ _ _ _ _ h)⟩
    repeat' (first | with_reducible assumption | with_reducible exact True.intro | with_reducible exact mm_i1 | with_reducible exact mm_i17 | with_reducible exact mm_i23 | ((with_reducible show mm_rv _ _ _ _ _); first | exact True.intro | exact mm_i1 | exact mm_i17 | exact mm_i23 | refine mm_k0 ?_) | refine mm_k0 ?_ | ((with_reducible show mm_bool _ _); first | exact True.intro | exact Or.inl rfl | exact Or.inr rfl | (show (_ : Int) = 0 ∨ _ = 1)) | rfl | with_reducible exact Or.inl rfl | with_reducible exact Or.inr rfl | exact Nat.le_of_ble_eq_true rfl | refine And.intro ?_ ?_ | intro _)
    all_goals (try simp (disch := omega) only [InI, Int.toNat_natCast, Int.tmod_eq_emod_of_nonneg, Int.tdiv_eq_ediv_of_nonneg, true_implies, true_or, or_true, mm_l18, mm_l19, mm_l20, mm_l21, mm_l22] at *)
    all_goals first | omega | exact qa _ _ (by assumption) | exact q1 (by assumption) | exact q2 (by assumption) | skip
  · exact h.elim
theorem me_L_begin {l : Launch} (hl : l.stackTraces = false) : mm_Met l yL_begin cL_begin 5 (some .int) [(0, 11, 14, 19)] 9 165 2 sp_L_begin := mm_mtH rn_L_begin ⟨by decide, rfl⟩ kkL_begin rfl (by decide) (⟨mm_pe (me_X3_begin hl) mwX3_begin (mm_t3 196 rfl rfl) (Nat.le_of_ble_eq_true rfl) (Nat.le_of_ble_eq_true rfl), trivial⟩)
def sp_L_step : mm_S := fun av M d Q => match av with
  | [.inr (.inr (.inl x)), .inl p0, .inl p1, .inl p2, .inr (.inr (.inl o))] =>  x = 1 ∧ o = 23 ∧ wA M ∧ InI p0 ∧ InI p1 ∧ (p2 = 0 ∨ p2 = 1) ∧ ∀ M1 M' e r, hlP M M1 M' e r → C_step p0 p1 p2 M M1 e r → Q (.inl (some (mm_I e))) M' d
  | _ => False
def ct_L_step : List (Nat × mm_Ca) := [(50, (0, 4, 10, sp_X3_step, 2))]
abbrev rr_L_step (Q : mm_Q) := mm_run (mm_look flL) (mm_look ct_L_step) mm_x0 (mm_look ([] : List (Nat × Int))) (fun _ => none) 1 2 (mm_hn [(0, 13, 16, 19)]) Q kdL_step
set_option maxRecDepth 20000 in
theorem rn_L_step : mm_RNH flL ct_L_step [] [(0, 13, 16, 19)] 1 2 6 kdL_step sp_L_step := by
  intro av M d Q h
  unfold sp_L_step at h
  split at h
  · rename_i x p0 p1 p2 o
    obtain ⟨rfl, rfl, ha, h0, h1, h2, hq⟩ := h
    have q1 : C_step p0 p1 p2 M M 1 0 → Q (.inl (some (mm_I 1))) M d := fun hc => hq M M 1 0 (hlP_1 ha (by omega)) hc
    have q2 : C_step p0 p1 p2 M M 2 0 → Q (.inl (some (mm_I 2))) M d := fun hc => hq M M 2 0 (hlP_1 ha (by omega)) hc
    have qa := fun M' (r : Int) (h : cP M M' ∧ InI r ∧ C_step p0 p1 p2 M M' 0 r) => hq M' _ 0 r (hlP_0 (r := r) h.1) h.2.2
    clear hq
    obtain ⟨K, hK, hK2⟩ : ∃ K : Nat → mm_K, (∀ t ls st M d u, K t ls st M d u → rr_L_step Q t ls st M d u) ∧ (∀ t ls st M d u, rr_L_step Q t ls st M d u → K t ls st M d u) := ⟨rr_L_step Q, fun _ _ _ _ _ _ h => h, fun _ _ _ _ _ _ h => h⟩
    refine ⟨Nat.le_of_ble_eq_true rfl, mm_run_at (stop := []) (S := K) kkL_step 90 ?_ (fun _ _ _ _ _ _ _ h => hK _ _ _ _ _ _ h)⟩
    repeat' (first | with_reducible assumption | with_reducible exact True.intro | with_reducible exact mm_i1 | with_reducible exact mm_i17 | with_reducible exact mm_i23 | ((with_reducible show mm_rv _ _ _ _ _); first | exact True.intro | exact mm_i1 | exact mm_i17 | exact mm_i23 | refine mm_k0 ?_) | refine mm_k0 ?_ | ((with_reducible show mm_bool _ _); first | exact True.intro | exact Or.inl rfl | exact Or.inr rfl | (show (_ : Int) = 0 ∨ _ = 1)) | rfl | with_reducible exact Or.inl rfl | with_reducible exact Or.inr rfl | exact Nat.le_of_ble_eq_true rfl | refine And.intro ?_ ?_ | intro _)
    all_goals (try simp (disch := omega) only [InI, Int.toNat_natCast, Int.tmod_eq_emod_of_nonneg, Int.tdiv_eq_ediv_of_nonneg, true_implies, true_or, or_true, mm_l18, mm_l19, mm_l20, mm_l21, mm_l22] at *)
    all_goals first | omega | exact qa _ _ (by assumption) | exact q1 (by assumption) | exact q2 (by assumption) | skip
  · exact h.elim
theorem me_L_step {l : Launch} (hl : l.stackTraces = false) : mm_Met l yL_step cL_step 6 (some .int) [(0, 13, 16, 19)] 12 232 2 sp_L_step := mm_mtH rn_L_step ⟨by decide, rfl⟩ kkL_step rfl (by decide) (⟨mm_pe (me_X3_step hl) mwX3_step (mm_t3 207 rfl rfl) (Nat.le_of_ble_eq_true rfl) (Nat.le_of_ble_eq_true rfl), trivial⟩)
def sp_L_back : mm_S := fun av M d Q => match av with
  | [.inr (.inr (.inl x)), .inl p0, .inl p1, .inr (.inr (.inl o))] =>  x = 1 ∧ o = 23 ∧ wA M ∧ InI p0 ∧ (p1 = 0 ∨ p1 = 1) ∧ ∀ M1 M' e r, hlP M M1 M' e r → C_back p0 p1 M M1 e r → Q (.inl (some (mm_I e))) M' d
  | _ => False
def ct_L_back : List (Nat × mm_Ca) := [(54, (0, 3, 10, sp_X3_back, 1))]
abbrev rr_L_back (Q : mm_Q) := mm_run (mm_look flL) (mm_look ct_L_back) mm_x0 (mm_look ([] : List (Nat × Int))) (fun _ => none) 1 1 (mm_hn [(0, 11, 14, 19)]) Q kdL_back
set_option maxRecDepth 20000 in
theorem rn_L_back : mm_RNH flL ct_L_back [] [(0, 11, 14, 19)] 1 1 5 kdL_back sp_L_back := by
  intro av M d Q h
  unfold sp_L_back at h
  split at h
  · rename_i x p0 p1 o
    obtain ⟨rfl, rfl, ha, h0, h1, hq⟩ := h
    have q1 : C_back p0 p1 M M 1 0 → Q (.inl (some (mm_I 1))) M d := fun hc => hq M M 1 0 (hlP_1 ha (by omega)) hc
    have q2 : C_back p0 p1 M M 2 0 → Q (.inl (some (mm_I 2))) M d := fun hc => hq M M 2 0 (hlP_1 ha (by omega)) hc
    have qa := fun M' (r : Int) (h : cP M M' ∧ InI r ∧ C_back p0 p1 M M' 0 r) => hq M' _ 0 r (hlP_0 (r := r) h.1) h.2.2
    clear hq
    obtain ⟨K, hK, hK2⟩ : ∃ K : Nat → mm_K, (∀ t ls st M d u, K t ls st M d u → rr_L_back Q t ls st M d u) ∧ (∀ t ls st M d u, rr_L_back Q t ls st M d u → K t ls st M d u) := ⟨rr_L_back Q, fun _ _ _ _ _ _ h => h, fun _ _ _ _ _ _ h => h⟩
    refine ⟨Nat.le_of_ble_eq_true rfl, mm_run_at (stop := []) (S := K) kkL_back 90 ?_ (fun _ _ _ _ _ _ _ h => hK _ _ _ _ _ _ h)⟩
    repeat' (first | with_reducible assumption | with_reducible exact True.intro | with_reducible exact mm_i1 | with_reducible exact mm_i17 | with_reducible exact mm_i23 | ((with_reducible show mm_rv _ _ _ _ _); first | exact True.intro | exact mm_i1 | exact mm_i17 | exact mm_i23 | refine mm_k0 ?_) | refine mm_k0 ?_ | ((with_reducible show mm_bool _ _); first | exact True.intro | exact Or.inl rfl | exact Or.inr rfl | (show (_ : Int) = 0 ∨ _ = 1)) | rfl | with_reducible exact Or.inl rfl | with_reducible exact Or.inr rfl | exact Nat.le_of_ble_eq_true rfl | refine And.intro ?_ ?_ | intro _)
    all_goals (try simp (disch := omega) only [InI, Int.toNat_natCast, Int.tmod_eq_emod_of_nonneg, Int.tdiv_eq_ediv_of_nonneg, true_implies, true_or, or_true, mm_l18, mm_l19, mm_l20, mm_l21, mm_l22] at *)
    all_goals first | omega | exact qa _ _ (by assumption) | exact q1 (by assumption) | exact q2 (by assumption) | skip
  · exact h.elim
theorem me_L_back {l : Launch} (hl : l.stackTraces = false) : mm_Met l yL_back cL_back 5 (some .int) [(0, 11, 14, 19)] 12 229 1 sp_L_back := mm_mtH rn_L_back ⟨by decide, rfl⟩ kkL_back rfl (by decide) (⟨mm_pe (me_X3_back hl) mwX3_back (mm_t3 231 rfl rfl) (Nat.le_of_ble_eq_true rfl) (Nat.le_of_ble_eq_true rfl), trivial⟩)
def sp_L_on : mm_S := fun av M d Q => match av with
  | [.inr (.inr (.inl x)), .inl p0, .inl p1, .inr (.inr (.inl o))] =>  x = 1 ∧ o = 23 ∧ wA M ∧ InI p0 ∧ (p1 = 0 ∨ p1 = 1) ∧ ∀ M1 M' e r, hlP M M1 M' e r → C_on p0 p1 M M1 e r → Q (.inl (some (mm_I e))) M' d
  | _ => False
def ct_L_on : List (Nat × mm_Ca) := [(57, (0, 3, 10, sp_X3_on, 1))]
abbrev rr_L_on (Q : mm_Q) := mm_run (mm_look flL) (mm_look ct_L_on) mm_x0 (mm_look ([] : List (Nat × Int))) (fun _ => none) 1 1 (mm_hn [(0, 11, 14, 19)]) Q kdL_on
set_option maxRecDepth 20000 in
theorem rn_L_on : mm_RNH flL ct_L_on [] [(0, 11, 14, 19)] 1 1 5 kdL_on sp_L_on := by
  intro av M d Q h
  unfold sp_L_on at h
  split at h
  · rename_i x p0 p1 o
    obtain ⟨rfl, rfl, ha, h0, h1, hq⟩ := h
    have q1 : C_on p0 p1 M M 1 0 → Q (.inl (some (mm_I 1))) M d := fun hc => hq M M 1 0 (hlP_1 ha (by omega)) hc
    have q2 : C_on p0 p1 M M 2 0 → Q (.inl (some (mm_I 2))) M d := fun hc => hq M M 2 0 (hlP_1 ha (by omega)) hc
    have qa := fun M' (r : Int) (h : cP M M' ∧ InI r ∧ C_on p0 p1 M M' 0 r) => hq M' _ 0 r (hlP_0 (r := r) h.1) h.2.2
    clear hq
    obtain ⟨K, hK, hK2⟩ : ∃ K : Nat → mm_K, (∀ t ls st M d u, K t ls st M d u → rr_L_on Q t ls st M d u) ∧ (∀ t ls st M d u, rr_L_on Q t ls st M d u → K t ls st M d u) := ⟨rr_L_on Q, fun _ _ _ _ _ _ h => h, fun _ _ _ _ _ _ h => h⟩
    refine ⟨Nat.le_of_ble_eq_true rfl, mm_run_at (stop := []) (S := K) kkL_on 90 ?_ (fun _ _ _ _ _ _ _ h => hK _ _ _ _ _ _ h)⟩
    repeat' (first | with_reducible assumption | with_reducible exact True.intro | with_reducible exact mm_i1 | with_reducible exact mm_i17 | with_reducible exact mm_i23 | ((with_reducible show mm_rv _ _ _ _ _); first | exact True.intro | exact mm_i1 | exact mm_i17 | exact mm_i23 | refine mm_k0 ?_) | refine mm_k0 ?_ | ((with_reducible show mm_bool _ _); first | exact True.intro | exact Or.inl rfl | exact Or.inr rfl | (show (_ : Int) = 0 ∨ _ = 1)) | rfl | with_reducible exact Or.inl rfl | with_reducible exact Or.inr rfl | exact Nat.le_of_ble_eq_true rfl | refine And.intro ?_ ?_ | intro _)
    all_goals (try simp (disch := omega) only [InI, Int.toNat_natCast, Int.tmod_eq_emod_of_nonneg, Int.tdiv_eq_ediv_of_nonneg, true_implies, true_or, or_true, mm_l18, mm_l19, mm_l20, mm_l21, mm_l22] at *)
    all_goals first | omega | exact qa _ _ (by assumption) | exact q1 (by assumption) | exact q2 (by assumption) | skip
  · exact h.elim
theorem me_L_on {l : Launch} (hl : l.stackTraces = false) : mm_Met l yL_on cL_on 5 (some .int) [(0, 11, 14, 19)] 11 219 1 sp_L_on := mm_mtH rn_L_on ⟨by decide, rfl⟩ kkL_on rfl (by decide) (⟨mm_pe (me_X3_on hl) mwX3_on (mm_t4 4 rfl rfl) (Nat.le_of_ble_eq_true rfl) (Nat.le_of_ble_eq_true rfl), trivial⟩)
def sp_L_complete : mm_S := fun av M d Q => match av with
  | [.inr (.inr (.inl x)), .inl p0, .inl p1, .inr (.inr (.inl o))] =>  x = 1 ∧ o = 23 ∧ wA M ∧ InI p0 ∧ (p1 = 0 ∨ p1 = 1) ∧ ∀ M1 M' e r, hlP M M1 M' e r → C_complete p0 p1 M M1 e r → Q (.inl (some (mm_I e))) M' d
  | _ => False
def ct_L_complete : List (Nat × mm_Ca) := [(60, (0, 3, 10, sp_X3_complete, 1))]
abbrev rr_L_complete (Q : mm_Q) := mm_run (mm_look flL) (mm_look ct_L_complete) mm_x0 (mm_look ([] : List (Nat × Int))) (fun _ => none) 1 1 (mm_hn [(0, 11, 14, 19)]) Q kdL_complete
set_option maxRecDepth 20000 in
theorem rn_L_complete : mm_RNH flL ct_L_complete [] [(0, 11, 14, 19)] 1 1 5 kdL_complete sp_L_complete := by
  intro av M d Q h
  unfold sp_L_complete at h
  split at h
  · rename_i x p0 p1 o
    obtain ⟨rfl, rfl, ha, h0, h1, hq⟩ := h
    have q1 : C_complete p0 p1 M M 1 0 → Q (.inl (some (mm_I 1))) M d := fun hc => hq M M 1 0 (hlP_1 ha (by omega)) hc
    have q2 : C_complete p0 p1 M M 2 0 → Q (.inl (some (mm_I 2))) M d := fun hc => hq M M 2 0 (hlP_1 ha (by omega)) hc
    have qa := fun M' (r : Int) (h : cP M M' ∧ InI r ∧ C_complete p0 p1 M M' 0 r) => hq M' _ 0 r (hlP_0 (r := r) h.1) h.2.2
    clear hq
    obtain ⟨K, hK, hK2⟩ : ∃ K : Nat → mm_K, (∀ t ls st M d u, K t ls st M d u → rr_L_complete Q t ls st M d u) ∧ (∀ t ls st M d u, rr_L_complete Q t ls st M d u → K t ls st M d u) := ⟨rr_L_complete Q, fun _ _ _ _ _ _ h => h, fun _ _ _ _ _ _ h => h⟩
    refine ⟨Nat.le_of_ble_eq_true rfl, mm_run_at (stop := []) (S := K) kkL_complete 90 ?_ (fun _ _ _ _ _ _ _ h => hK _ _ _ _ _ _ h)⟩
    repeat' (first | with_reducible assumption | with_reducible exact True.intro | with_reducible exact mm_i1 | with_reducible exact mm_i17 | with_reducible exact mm_i23 | ((with_reducible show mm_rv _ _ _ _ _); first | exact True.intro | exact mm_i1 | exact mm_i17 | exact mm_i23 | refine mm_k0 ?_) | refine mm_k0 ?_ | ((with_reducible show mm_bool _ _); first | exact True.intro | exact Or.inl rfl | exact Or.inr rfl | (show (_ : Int) = 0 ∨ _ = 1)) | rfl | with_reducible exact Or.inl rfl | with_reducible exact Or.inr rfl | exact Nat.le_of_ble_eq_true rfl | refine And.intro ?_ ?_ | intro _)
    all_goals (try simp (disch := omega) only [InI, Int.toNat_natCast, Int.tmod_eq_emod_of_nonneg, Int.tdiv_eq_ediv_of_nonneg, true_implies, true_or, or_true, mm_l18, mm_l19, mm_l20, mm_l21, mm_l22] at *)
    all_goals first | omega | exact qa _ _ (by assumption) | exact q1 (by assumption) | exact q2 (by assumption) | skip
  · exact h.elim
theorem me_L_complete {l : Launch} (hl : l.stackTraces = false) : mm_Met l yL_complete cL_complete 5 (some .int) [(0, 11, 14, 19)] 12 242 1 sp_L_complete := mm_mtH rn_L_complete ⟨by decide, rfl⟩ kkL_complete rfl (by decide) (⟨mm_pe (me_X3_complete hl) mwX3_complete (mm_t4 16 rfl rfl) (Nat.le_of_ble_eq_true rfl) (Nat.le_of_ble_eq_true rfl), trivial⟩)
def sp_L_splice : mm_S := fun av M d Q => match av with
  | [.inr (.inr (.inl x)), .inl p0, .inl p1, .inl p2, .inr (.inr (.inl o))] =>  x = 1 ∧ o = 23 ∧ wA M ∧ InI p0 ∧ InI p1 ∧ InI p2 ∧ ∀ M1 M' e r, hlP M M1 M' e r → C_splice p0 p1 p2 M M1 e r → Q (.inl (some (mm_I e))) M' d
  | _ => False
def ct_L_splice : List (Nat × mm_Ca) := [(63, (0, 4, 10, sp_X3_splice, 3))]
abbrev rr_L_splice (Q : mm_Q) := mm_run (mm_look flL) (mm_look ct_L_splice) mm_x0 (mm_look ([] : List (Nat × Int))) (fun _ => none) 1 3 (mm_hn [(0, 13, 16, 19)]) Q kdL_splice
set_option maxRecDepth 20000 in
theorem rn_L_splice : mm_RNH flL ct_L_splice [] [(0, 13, 16, 19)] 1 3 6 kdL_splice sp_L_splice := by
  intro av M d Q h
  unfold sp_L_splice at h
  split at h
  · rename_i x p0 p1 p2 o
    obtain ⟨rfl, rfl, ha, h0, h1, h2, hq⟩ := h
    have q1 : C_splice p0 p1 p2 M M 1 0 → Q (.inl (some (mm_I 1))) M d := fun hc => hq M M 1 0 (hlP_1 ha (by omega)) hc
    have q2 : C_splice p0 p1 p2 M M 2 0 → Q (.inl (some (mm_I 2))) M d := fun hc => hq M M 2 0 (hlP_1 ha (by omega)) hc
    have qa := fun M' (r : Int) (h : cP M M' ∧ InI r ∧ C_splice p0 p1 p2 M M' 0 r) => hq M' _ 0 r (hlP_0 (r := r) h.1) h.2.2
    clear hq
    obtain ⟨K, hK, hK2⟩ : ∃ K : Nat → mm_K, (∀ t ls st M d u, K t ls st M d u → rr_L_splice Q t ls st M d u) ∧ (∀ t ls st M d u, rr_L_splice Q t ls st M d u → K t ls st M d u) := ⟨rr_L_splice Q, fun _ _ _ _ _ _ h => h, fun _ _ _ _ _ _ h => h⟩
    refine ⟨Nat.le_of_ble_eq_true rfl, mm_run_at (stop := []) (S := K) kkL_splice 90 ?_ (fun _ _ _ _ _ _ _ h => hK _ _ _ _ _ _ h)⟩
    repeat' (first | with_reducible assumption | with_reducible exact True.intro | with_reducible exact mm_i1 | with_reducible exact mm_i17 | with_reducible exact mm_i23 | ((with_reducible show mm_rv _ _ _ _ _); first | exact True.intro | exact mm_i1 | exact mm_i17 | exact mm_i23 | refine mm_k0 ?_) | refine mm_k0 ?_ | ((with_reducible show mm_bool _ _); first | exact True.intro | exact Or.inl rfl | exact Or.inr rfl | (show (_ : Int) = 0 ∨ _ = 1)) | rfl | with_reducible exact Or.inl rfl | with_reducible exact Or.inr rfl | exact Nat.le_of_ble_eq_true rfl | refine And.intro ?_ ?_ | intro _)
    all_goals (try simp (disch := omega) only [InI, Int.toNat_natCast, Int.tmod_eq_emod_of_nonneg, Int.tdiv_eq_ediv_of_nonneg, true_implies, true_or, or_true, mm_l18, mm_l19, mm_l20, mm_l21, mm_l22] at *)
    all_goals first | omega | exact qa _ _ (by assumption) | exact q1 (by assumption) | exact q2 (by assumption) | skip
  · exact h.elim
theorem me_L_splice {l : Launch} (hl : l.stackTraces = false) : mm_Met l yL_splice cL_splice 6 (some .int) [(0, 13, 16, 19)] 12 230 3 sp_L_splice := mm_mtH rn_L_splice ⟨by decide, rfl⟩ kkL_splice rfl (by decide) (⟨mm_pe (me_X3_splice hl) mwX3_splice (mm_t4 23 rfl rfl) (Nat.le_of_ble_eq_true rfl) (Nat.le_of_ble_eq_true rfl), trivial⟩)
def sp_L_join : mm_S := fun av M d Q => match av with
  | [.inr (.inr (.inl x)), .inl p0, .inl p1, .inr (.inr (.inl o))] =>  x = 1 ∧ o = 23 ∧ wA M ∧ InI p0 ∧ InI p1 ∧ ∀ M1 M' e r, hlP M M1 M' e r → C_join p0 p1 M M1 e r → Q (.inl (some (mm_I e))) M' d
  | _ => False
def ct_L_join : List (Nat × mm_Ca) := [(67, (0, 3, 10, sp_X3_join, 2))]
abbrev rr_L_join (Q : mm_Q) := mm_run (mm_look flL) (mm_look ct_L_join) mm_x0 (mm_look ([] : List (Nat × Int))) (fun _ => none) 1 2 (mm_hn [(0, 11, 14, 19)]) Q kdL_join
set_option maxRecDepth 20000 in
theorem rn_L_join : mm_RNH flL ct_L_join [] [(0, 11, 14, 19)] 1 2 5 kdL_join sp_L_join := by
  intro av M d Q h
  unfold sp_L_join at h
  split at h
  · rename_i x p0 p1 o
    obtain ⟨rfl, rfl, ha, h0, h1, hq⟩ := h
    have q1 : C_join p0 p1 M M 1 0 → Q (.inl (some (mm_I 1))) M d := fun hc => hq M M 1 0 (hlP_1 ha (by omega)) hc
    have q2 : C_join p0 p1 M M 2 0 → Q (.inl (some (mm_I 2))) M d := fun hc => hq M M 2 0 (hlP_1 ha (by omega)) hc
    have qa := fun M' (r : Int) (h : cP M M' ∧ InI r ∧ C_join p0 p1 M M' 0 r) => hq M' _ 0 r (hlP_0 (r := r) h.1) h.2.2
    clear hq
    obtain ⟨K, hK, hK2⟩ : ∃ K : Nat → mm_K, (∀ t ls st M d u, K t ls st M d u → rr_L_join Q t ls st M d u) ∧ (∀ t ls st M d u, rr_L_join Q t ls st M d u → K t ls st M d u) := ⟨rr_L_join Q, fun _ _ _ _ _ _ h => h, fun _ _ _ _ _ _ h => h⟩
    refine ⟨Nat.le_of_ble_eq_true rfl, mm_run_at (stop := []) (S := K) kkL_join 90 ?_ (fun _ _ _ _ _ _ _ h => hK _ _ _ _ _ _ h)⟩
    repeat' (first | with_reducible assumption | with_reducible exact True.intro | with_reducible exact mm_i1 | with_reducible exact mm_i17 | with_reducible exact mm_i23 | ((with_reducible show mm_rv _ _ _ _ _); first | exact True.intro | exact mm_i1 | exact mm_i17 | exact mm_i23 | refine mm_k0 ?_) | refine mm_k0 ?_ | ((with_reducible show mm_bool _ _); first | exact True.intro | exact Or.inl rfl | exact Or.inr rfl | (show (_ : Int) = 0 ∨ _ = 1)) | rfl | with_reducible exact Or.inl rfl | with_reducible exact Or.inr rfl | exact Nat.le_of_ble_eq_true rfl | refine And.intro ?_ ?_ | intro _)
    all_goals (try simp (disch := omega) only [InI, Int.toNat_natCast, Int.tmod_eq_emod_of_nonneg, Int.tdiv_eq_ediv_of_nonneg, true_implies, true_or, or_true, mm_l18, mm_l19, mm_l20, mm_l21, mm_l22] at *)
    all_goals first | omega | exact qa _ _ (by assumption) | exact q1 (by assumption) | exact q2 (by assumption) | skip
  · exact h.elim
theorem me_L_join {l : Launch} (hl : l.stackTraces = false) : mm_Met l yL_join cL_join 5 (some .int) [(0, 11, 14, 19)] 12 233 2 sp_L_join := mm_mtH rn_L_join ⟨by decide, rfl⟩ kkL_join rfl (by decide) (⟨mm_pe (me_X3_join hl) mwX3_join (mm_t4 43 rfl rfl) (Nat.le_of_ble_eq_true rfl) (Nat.le_of_ble_eq_true rfl), trivial⟩)
def sp_L_cut : mm_S := fun av M d Q => match av with
  | [.inr (.inr (.inl x)), .inl p0, .inl p1, .inl p2, .inl p3, .inr (.inr (.inl o))] =>  x = 1 ∧ o = 23 ∧ wA M ∧ InI p0 ∧ InI p1 ∧ InI p2 ∧ InI p3 ∧ ∀ M1 M' e r, hlP M M1 M' e r → C_cut p0 p1 p2 p3 M M1 e r → Q (.inl (some (mm_I e))) M' d
  | _ => False
def ct_L_cut : List (Nat × mm_Ca) := [(70, (0, 5, 10, sp_X3_cut, 4))]
abbrev rr_L_cut (Q : mm_Q) := mm_run (mm_look flL) (mm_look ct_L_cut) mm_x0 (mm_look ([] : List (Nat × Int))) (fun _ => none) 1 4 (mm_hn [(0, 15, 18, 19)]) Q kdL_cut
set_option maxRecDepth 20000 in
theorem rn_L_cut : mm_RNH flL ct_L_cut [] [(0, 15, 18, 19)] 1 4 7 kdL_cut sp_L_cut := by
  intro av M d Q h
  unfold sp_L_cut at h
  split at h
  · rename_i x p0 p1 p2 p3 o
    obtain ⟨rfl, rfl, ha, h0, h1, h2, h3, hq⟩ := h
    have q1 : C_cut p0 p1 p2 p3 M M 1 0 → Q (.inl (some (mm_I 1))) M d := fun hc => hq M M 1 0 (hlP_1 ha (by omega)) hc
    have q2 : C_cut p0 p1 p2 p3 M M 2 0 → Q (.inl (some (mm_I 2))) M d := fun hc => hq M M 2 0 (hlP_1 ha (by omega)) hc
    have qa := fun M' (r : Int) (h : cP M M' ∧ InI r ∧ C_cut p0 p1 p2 p3 M M' 0 r) => hq M' _ 0 r (hlP_0 (r := r) h.1) h.2.2
    clear hq
    obtain ⟨K, hK, hK2⟩ : ∃ K : Nat → mm_K, (∀ t ls st M d u, K t ls st M d u → rr_L_cut Q t ls st M d u) ∧ (∀ t ls st M d u, rr_L_cut Q t ls st M d u → K t ls st M d u) := ⟨rr_L_cut Q, fun _ _ _ _ _ _ h => h, fun _ _ _ _ _ _ h => h⟩
    refine ⟨Nat.le_of_ble_eq_true rfl, mm_run_at (stop := []) (S := K) kkL_cut 90 ?_ (fun _ _ _ _ _ _ _ h => hK _ _ _ _ _ _ h)⟩
    repeat' (first | with_reducible assumption | with_reducible exact True.intro | with_reducible exact mm_i1 | with_reducible exact mm_i17 | with_reducible exact mm_i23 | ((with_reducible show mm_rv _ _ _ _ _); first | exact True.intro | exact mm_i1 | exact mm_i17 | exact mm_i23 | refine mm_k0 ?_) | refine mm_k0 ?_ | ((with_reducible show mm_bool _ _); first | exact True.intro | exact Or.inl rfl | exact Or.inr rfl | (show (_ : Int) = 0 ∨ _ = 1)) | rfl | with_reducible exact Or.inl rfl | with_reducible exact Or.inr rfl | exact Nat.le_of_ble_eq_true rfl | refine And.intro ?_ ?_ | intro _)
    all_goals (try simp (disch := omega) only [InI, Int.toNat_natCast, Int.tmod_eq_emod_of_nonneg, Int.tdiv_eq_ediv_of_nonneg, true_implies, true_or, or_true, mm_l18, mm_l19, mm_l20, mm_l21, mm_l22] at *)
    all_goals first | omega | exact qa _ _ (by assumption) | exact q1 (by assumption) | exact q2 (by assumption) | skip
  · exact h.elim
theorem me_L_cut {l : Launch} (hl : l.stackTraces = false) : mm_Met l yL_cut cL_cut 7 (some .int) [(0, 15, 18, 19)] 11 214 4 sp_L_cut := mm_mtH rn_L_cut ⟨by decide, rfl⟩ kkL_cut rfl (by decide) (⟨mm_pe (me_X3_cut hl) mwX3_cut (mm_t4 63 rfl rfl) (Nat.le_of_ble_eq_true rfl) (Nat.le_of_ble_eq_true rfl), trivial⟩)
def sp_L_turnRound : mm_S := fun av M d Q => match av with
  | [.inr (.inr (.inl x)), .inl p0, .inr (.inr (.inl o))] =>  x = 1 ∧ o = 23 ∧ wA M ∧ InI p0 ∧ ∀ M1 M' e r, hlP M M1 M' e r → C_turnRound p0 M M1 e r → Q (.inl (some (mm_I e))) M' d
  | _ => False
def ct_L_turnRound : List (Nat × mm_Ca) := [(74, (0, 2, 10, sp_X3_turnRound, 1))]
abbrev rr_L_turnRound (Q : mm_Q) := mm_run (mm_look flL) (mm_look ct_L_turnRound) mm_x0 (mm_look ([] : List (Nat × Int))) (fun _ => none) 1 1 (mm_hn [(0, 10, 13, 19)]) Q kdL_turnRound
set_option maxRecDepth 20000 in
theorem rn_L_turnRound : mm_RNH flL ct_L_turnRound [] [(0, 10, 13, 19)] 1 1 4 kdL_turnRound sp_L_turnRound := by
  intro av M d Q h
  unfold sp_L_turnRound at h
  split at h
  · rename_i x p0 o
    obtain ⟨rfl, rfl, ha, h0, hq⟩ := h
    have q1 : C_turnRound p0 M M 1 0 → Q (.inl (some (mm_I 1))) M d := fun hc => hq M M 1 0 (hlP_1 ha (by omega)) hc
    have q2 : C_turnRound p0 M M 2 0 → Q (.inl (some (mm_I 2))) M d := fun hc => hq M M 2 0 (hlP_1 ha (by omega)) hc
    have qa := fun M' (r : Int) (h : cP M M' ∧ InI r ∧ C_turnRound p0 M M' 0 r) => hq M' _ 0 r (hlP_0 (r := r) h.1) h.2.2
    clear hq
    obtain ⟨K, hK, hK2⟩ : ∃ K : Nat → mm_K, (∀ t ls st M d u, K t ls st M d u → rr_L_turnRound Q t ls st M d u) ∧ (∀ t ls st M d u, rr_L_turnRound Q t ls st M d u → K t ls st M d u) := ⟨rr_L_turnRound Q, fun _ _ _ _ _ _ h => h, fun _ _ _ _ _ _ h => h⟩
    refine ⟨Nat.le_of_ble_eq_true rfl, mm_run_at (stop := []) (S := K) kkL_turnRound 90 ?_ (fun _ _ _ _ _ _ _ h => hK _ _ _ _ _ _ h)⟩
    repeat' (first | with_reducible assumption | with_reducible exact True.intro | with_reducible exact mm_i1 | with_reducible exact mm_i17 | with_reducible exact mm_i23 | ((with_reducible show mm_rv _ _ _ _ _); first | exact True.intro | exact mm_i1 | exact mm_i17 | exact mm_i23 | refine mm_k0 ?_) | refine mm_k0 ?_ | ((with_reducible show mm_bool _ _); first | exact True.intro | exact Or.inl rfl | exact Or.inr rfl | (show (_ : Int) = 0 ∨ _ = 1)) | rfl | with_reducible exact Or.inl rfl | with_reducible exact Or.inr rfl | exact Nat.le_of_ble_eq_true rfl | refine And.intro ?_ ?_ | intro _)
    all_goals (try simp (disch := omega) only [InI, Int.toNat_natCast, Int.tmod_eq_emod_of_nonneg, Int.tdiv_eq_ediv_of_nonneg, true_implies, true_or, or_true, mm_l18, mm_l19, mm_l20, mm_l21, mm_l22] at *)
    all_goals first | omega | exact qa _ _ (by assumption) | exact q1 (by assumption) | exact q2 (by assumption) | skip
  · exact h.elim
theorem me_L_turnRound {l : Launch} (hl : l.stackTraces = false) : mm_Met l yL_turnRound cL_turnRound 4 (some .int) [(0, 10, 13, 19)] 12 229 1 sp_L_turnRound := mm_mtH rn_L_turnRound ⟨by decide, rfl⟩ kkL_turnRound rfl (by decide) (⟨mm_pe (me_X3_turnRound hl) mwX3_turnRound (mm_t4 75 rfl rfl) (Nat.le_of_ble_eq_true rfl) (Nat.le_of_ble_eq_true rfl), trivial⟩)
def sp_L_rotate : mm_S := fun av M d Q => match av with
  | [.inr (.inr (.inl x)), .inl p0, .inl p1, .inr (.inr (.inl o))] =>  x = 1 ∧ o = 23 ∧ wA M ∧ InI p0 ∧ InI p1 ∧ ∀ M1 M' e r, hlP M M1 M' e r → C_rotate p0 p1 M M1 e r → Q (.inl (some (mm_I e))) M' d
  | _ => False
def ct_L_rotate : List (Nat × mm_Ca) := [(77, (0, 3, 10, sp_X3_rotate, 2))]
abbrev rr_L_rotate (Q : mm_Q) := mm_run (mm_look flL) (mm_look ct_L_rotate) mm_x0 (mm_look ([] : List (Nat × Int))) (fun _ => none) 1 2 (mm_hn [(0, 11, 14, 19), (0, 11, 18, 24)]) Q kdL_rotate
set_option maxRecDepth 20000 in
theorem rn_L_rotate : mm_RNH flL ct_L_rotate [] [(0, 11, 14, 19), (0, 11, 18, 24)] 1 2 5 kdL_rotate sp_L_rotate := by
  intro av M d Q h
  unfold sp_L_rotate at h
  split at h
  · rename_i x p0 p1 o
    obtain ⟨rfl, rfl, ha, h0, h1, hq⟩ := h
    have q1 : C_rotate p0 p1 M M 1 0 → Q (.inl (some (mm_I 1))) M d := fun hc => hq M M 1 0 (hlP_1 ha (by omega)) hc
    have q2 : C_rotate p0 p1 M M 2 0 → Q (.inl (some (mm_I 2))) M d := fun hc => hq M M 2 0 (hlP_1 ha (by omega)) hc
    have qa := fun M' (r : Int) (h : cP M M' ∧ InI r ∧ C_rotate p0 p1 M M' 0 r) => hq M' _ 0 r (hlP_0 (r := r) h.1) h.2.2
    clear hq
    obtain ⟨K, hK, hK2⟩ : ∃ K : Nat → mm_K, (∀ t ls st M d u, K t ls st M d u → rr_L_rotate Q t ls st M d u) ∧ (∀ t ls st M d u, rr_L_rotate Q t ls st M d u → K t ls st M d u) := ⟨rr_L_rotate Q, fun _ _ _ _ _ _ h => h, fun _ _ _ _ _ _ h => h⟩
    refine ⟨Nat.le_of_ble_eq_true rfl, mm_run_at (stop := []) (S := K) kkL_rotate 90 ?_ (fun _ _ _ _ _ _ _ h => hK _ _ _ _ _ _ h)⟩
    repeat' (first | with_reducible assumption | with_reducible exact True.intro | with_reducible exact mm_i1 | with_reducible exact mm_i17 | with_reducible exact mm_i23 | ((with_reducible show mm_rv _ _ _ _ _); first | exact True.intro | exact mm_i1 | exact mm_i17 | exact mm_i23 | refine mm_k2 ?_) | refine mm_k2 ?_ | ((with_reducible show mm_bool _ _); first | exact True.intro | exact Or.inl rfl | exact Or.inr rfl | (show (_ : Int) = 0 ∨ _ = 1)) | rfl | with_reducible exact Or.inl rfl | with_reducible exact Or.inr rfl | exact Nat.le_of_ble_eq_true rfl | refine And.intro ?_ ?_ | intro _)
    all_goals (try simp (disch := omega) only [InI, Int.toNat_natCast, Int.tmod_eq_emod_of_nonneg, Int.tdiv_eq_ediv_of_nonneg, true_implies, true_or, or_true, mm_l18, mm_l19, mm_l20, mm_l21, mm_l22] at *)
    all_goals first | omega | exact qa _ _ (by assumption) | exact q1 (by assumption) | exact q2 (by assumption) | skip
  · exact h.elim
theorem me_L_rotate {l : Launch} (hl : l.stackTraces = false) : mm_Met l yL_rotate cL_rotate 5 (some .int) [(0, 11, 14, 19), (0, 11, 18, 24)] 12 231 2 sp_L_rotate := mm_mtH rn_L_rotate ⟨by decide, rfl⟩ kkL_rotate rfl (by decide) (⟨mm_pe (me_X3_rotate hl) mwX3_rotate (mm_t4 87 rfl rfl) (Nat.le_of_ble_eq_true rfl) (Nat.le_of_ble_eq_true rfl), trivial⟩)
def sp_L_first : mm_S := fun av M d Q => match av with
  | [.inr (.inr (.inl x)), .inl p0, .inl p1, .inl p2, .inr (.inr (.inl o))] =>  x = 1 ∧ o = 23 ∧ wA M ∧ InI p0 ∧ InI p1 ∧ (p2 = 0 ∨ p2 = 1) ∧ ∀ M1 M' e r, hlP M M1 M' e r → C_first p0 p1 p2 M M1 e r → Q (.inl (some (mm_I e))) M' d
  | _ => False
def ct_L_first : List (Nat × mm_Ca) := [(80, (0, 4, 10, sp_X3_first, 2))]
abbrev rr_L_first (Q : mm_Q) := mm_run (mm_look flL) (mm_look ct_L_first) mm_x0 (mm_look ([] : List (Nat × Int))) (fun _ => none) 1 2 (mm_hn [(0, 13, 16, 19)]) Q kdL_first
set_option maxRecDepth 20000 in
theorem rn_L_first : mm_RNH flL ct_L_first [] [(0, 13, 16, 19)] 1 2 6 kdL_first sp_L_first := by
  intro av M d Q h
  unfold sp_L_first at h
  split at h
  · rename_i x p0 p1 p2 o
    obtain ⟨rfl, rfl, ha, h0, h1, h2, hq⟩ := h
    have q1 : C_first p0 p1 p2 M M 1 0 → Q (.inl (some (mm_I 1))) M d := fun hc => hq M M 1 0 (hlP_1 ha (by omega)) hc
    have q2 : C_first p0 p1 p2 M M 2 0 → Q (.inl (some (mm_I 2))) M d := fun hc => hq M M 2 0 (hlP_1 ha (by omega)) hc
    have qa := fun M' (r : Int) (h : cP M M' ∧ InI r ∧ C_first p0 p1 p2 M M' 0 r) => hq M' _ 0 r (hlP_0 (r := r) h.1) h.2.2
    clear hq
    obtain ⟨K, hK, hK2⟩ : ∃ K : Nat → mm_K, (∀ t ls st M d u, K t ls st M d u → rr_L_first Q t ls st M d u) ∧ (∀ t ls st M d u, rr_L_first Q t ls st M d u → K t ls st M d u) := ⟨rr_L_first Q, fun _ _ _ _ _ _ h => h, fun _ _ _ _ _ _ h => h⟩
    refine ⟨Nat.le_of_ble_eq_true rfl, mm_run_at (stop := []) (S := K) kkL_first 90 ?_ (fun _ _ _ _ _ _ _ h => hK _ _ _ _ _ _ h)⟩
    repeat' (first | with_reducible assumption | with_reducible exact True.intro | with_reducible exact mm_i1 | with_reducible exact mm_i17 | with_reducible exact mm_i23 | ((with_reducible show mm_rv _ _ _ _ _); first | exact True.intro | exact mm_i1 | exact mm_i17 | exact mm_i23 | refine mm_k0 ?_) | refine mm_k0 ?_ | ((with_reducible show mm_bool _ _); first | exact True.intro | exact Or.inl rfl | exact Or.inr rfl | (show (_ : Int) = 0 ∨ _ = 1)) | rfl | with_reducible exact Or.inl rfl | with_reducible exact Or.inr rfl | exact Nat.le_of_ble_eq_true rfl | refine And.intro ?_ ?_ | intro _)
    all_goals (try simp (disch := omega) only [InI, Int.toNat_natCast, Int.tmod_eq_emod_of_nonneg, Int.tdiv_eq_ediv_of_nonneg, true_implies, true_or, or_true, mm_l18, mm_l19, mm_l20, mm_l21, mm_l22] at *)
    all_goals first | omega | exact qa _ _ (by assumption) | exact q1 (by assumption) | exact q2 (by assumption) | skip
  · exact h.elim
theorem me_L_first {l : Launch} (hl : l.stackTraces = false) : mm_Met l yL_first cL_first 6 (some .int) [(0, 13, 16, 19)] 13 263 2 sp_L_first := mm_mtH rn_L_first ⟨by decide, rfl⟩ kkL_first rfl (by decide) (⟨mm_pe (me_X3_first hl) mwX3_first (mm_t4 94 rfl rfl) (Nat.le_of_ble_eq_true rfl) (Nat.le_of_ble_eq_true rfl), trivial⟩)
def sp_L_next : mm_S := fun av M d Q => match av with
  | [.inr (.inr (.inl x)), .inl p0, .inl p1, .inr (.inr (.inl o))] =>  x = 1 ∧ o = 23 ∧ wA M ∧ InI p0 ∧ (p1 = 0 ∨ p1 = 1) ∧ ∀ M1 M' e r, hlP M M1 M' e r → C_next p0 p1 M M1 e r → Q (.inl (some (mm_I e))) M' d
  | _ => False
def ct_L_next : List (Nat × mm_Ca) := [(83, (0, 3, 10, sp_X3_next, 1))]
abbrev rr_L_next (Q : mm_Q) := mm_run (mm_look flL) (mm_look ct_L_next) mm_x0 (mm_look ([] : List (Nat × Int))) (fun _ => none) 1 1 (mm_hn [(0, 11, 14, 19)]) Q kdL_next
set_option maxRecDepth 20000 in
theorem rn_L_next : mm_RNH flL ct_L_next [] [(0, 11, 14, 19)] 1 1 5 kdL_next sp_L_next := by
  intro av M d Q h
  unfold sp_L_next at h
  split at h
  · rename_i x p0 p1 o
    obtain ⟨rfl, rfl, ha, h0, h1, hq⟩ := h
    have q1 : C_next p0 p1 M M 1 0 → Q (.inl (some (mm_I 1))) M d := fun hc => hq M M 1 0 (hlP_1 ha (by omega)) hc
    have q2 : C_next p0 p1 M M 2 0 → Q (.inl (some (mm_I 2))) M d := fun hc => hq M M 2 0 (hlP_1 ha (by omega)) hc
    have qa := fun M' (r : Int) (h : cP M M' ∧ InI r ∧ C_next p0 p1 M M' 0 r) => hq M' _ 0 r (hlP_0 (r := r) h.1) h.2.2
    clear hq
    obtain ⟨K, hK, hK2⟩ : ∃ K : Nat → mm_K, (∀ t ls st M d u, K t ls st M d u → rr_L_next Q t ls st M d u) ∧ (∀ t ls st M d u, rr_L_next Q t ls st M d u → K t ls st M d u) := ⟨rr_L_next Q, fun _ _ _ _ _ _ h => h, fun _ _ _ _ _ _ h => h⟩
    refine ⟨Nat.le_of_ble_eq_true rfl, mm_run_at (stop := []) (S := K) kkL_next 90 ?_ (fun _ _ _ _ _ _ _ h => hK _ _ _ _ _ _ h)⟩
    repeat' (first | with_reducible assumption | with_reducible exact True.intro | with_reducible exact mm_i1 | with_reducible exact mm_i17 | with_reducible exact mm_i23 | ((with_reducible show mm_rv _ _ _ _ _); first | exact True.intro | exact mm_i1 | exact mm_i17 | exact mm_i23 | refine mm_k0 ?_) | refine mm_k0 ?_ | ((with_reducible show mm_bool _ _); first | exact True.intro | exact Or.inl rfl | exact Or.inr rfl | (show (_ : Int) = 0 ∨ _ = 1)) | rfl | with_reducible exact Or.inl rfl | with_reducible exact Or.inr rfl | exact Nat.le_of_ble_eq_true rfl | refine And.intro ?_ ?_ | intro _)
    all_goals (try simp (disch := omega) only [InI, Int.toNat_natCast, Int.tmod_eq_emod_of_nonneg, Int.tdiv_eq_ediv_of_nonneg, true_implies, true_or, or_true, mm_l18, mm_l19, mm_l20, mm_l21, mm_l22] at *)
    all_goals first | omega | exact qa _ _ (by assumption) | exact q1 (by assumption) | exact q2 (by assumption) | skip
  · exact h.elim
theorem me_L_next {l : Launch} (hl : l.stackTraces = false) : mm_Met l yL_next cL_next 5 (some .int) [(0, 11, 14, 19)] 14 286 1 sp_L_next := mm_mtH rn_L_next ⟨by decide, rfl⟩ kkL_next rfl (by decide) (⟨mm_pe (me_X3_next hl) mwX3_next (mm_t4 109 rfl rfl) (Nat.le_of_ble_eq_true rfl) (Nat.le_of_ble_eq_true rfl), trivial⟩)
def sp_L_copy : mm_S := fun av M d Q => match av with
  | [.inr (.inr (.inl x)), .inl p0, .inl p1, .inr (.inr (.inl o))] =>  x = 1 ∧ o = 23 ∧ wA M ∧ InI p0 ∧ InI p1 ∧ ∀ M1 M' e r, hlP M M1 M' e r → C_copy p0 p1 M M1 e r → Q (.inl (some (mm_I e))) M' d
  | _ => False
def ct_L_copy : List (Nat × mm_Ca) := [(86, (0, 3, 10, sp_X3_copy, 2))]
abbrev rr_L_copy (Q : mm_Q) := mm_run (mm_look flL) (mm_look ct_L_copy) mm_x0 (mm_look ([] : List (Nat × Int))) (fun _ => none) 1 2 (mm_hn [(0, 11, 14, 19)]) Q kdL_copy
set_option maxRecDepth 20000 in
theorem rn_L_copy : mm_RNH flL ct_L_copy [] [(0, 11, 14, 19)] 1 2 5 kdL_copy sp_L_copy := by
  intro av M d Q h
  unfold sp_L_copy at h
  split at h
  · rename_i x p0 p1 o
    obtain ⟨rfl, rfl, ha, h0, h1, hq⟩ := h
    have q1 : C_copy p0 p1 M M 1 0 → Q (.inl (some (mm_I 1))) M d := fun hc => hq M M 1 0 (hlP_1 ha (by omega)) hc
    have q2 : C_copy p0 p1 M M 2 0 → Q (.inl (some (mm_I 2))) M d := fun hc => hq M M 2 0 (hlP_1 ha (by omega)) hc
    have qa := fun M' (r : Int) (h : cP M M' ∧ InI r ∧ C_copy p0 p1 M M' 0 r) => hq M' _ 0 r (hlP_0 (r := r) h.1) h.2.2
    clear hq
    obtain ⟨K, hK, hK2⟩ : ∃ K : Nat → mm_K, (∀ t ls st M d u, K t ls st M d u → rr_L_copy Q t ls st M d u) ∧ (∀ t ls st M d u, rr_L_copy Q t ls st M d u → K t ls st M d u) := ⟨rr_L_copy Q, fun _ _ _ _ _ _ h => h, fun _ _ _ _ _ _ h => h⟩
    refine ⟨Nat.le_of_ble_eq_true rfl, mm_run_at (stop := []) (S := K) kkL_copy 90 ?_ (fun _ _ _ _ _ _ _ h => hK _ _ _ _ _ _ h)⟩
    repeat' (first | with_reducible assumption | with_reducible exact True.intro | with_reducible exact mm_i1 | with_reducible exact mm_i17 | with_reducible exact mm_i23 | ((with_reducible show mm_rv _ _ _ _ _); first | exact True.intro | exact mm_i1 | exact mm_i17 | exact mm_i23 | refine mm_k0 ?_) | refine mm_k0 ?_ | ((with_reducible show mm_bool _ _); first | exact True.intro | exact Or.inl rfl | exact Or.inr rfl | (show (_ : Int) = 0 ∨ _ = 1)) | rfl | with_reducible exact Or.inl rfl | with_reducible exact Or.inr rfl | exact Nat.le_of_ble_eq_true rfl | refine And.intro ?_ ?_ | intro _)
    all_goals (try simp (disch := omega) only [InI, Int.toNat_natCast, Int.tmod_eq_emod_of_nonneg, Int.tdiv_eq_ediv_of_nonneg, true_implies, true_or, or_true, mm_l18, mm_l19, mm_l20, mm_l21, mm_l22] at *)
    all_goals first | omega | exact qa _ _ (by assumption) | exact q1 (by assumption) | exact q2 (by assumption) | skip
  · exact h.elim
theorem me_L_copy {l : Launch} (hl : l.stackTraces = false) : mm_Met l yL_copy cL_copy 5 (some .int) [(0, 11, 14, 19)] 9 170 2 sp_L_copy := mm_mtH rn_L_copy ⟨by decide, rfl⟩ kkL_copy rfl (by decide) (⟨mm_pe (me_X3_copy hl) mwX3_copy (mm_t4 126 rfl rfl) (Nat.le_of_ble_eq_true rfl) (Nat.le_of_ble_eq_true rfl), trivial⟩)
def sp_L_length : mm_S := fun av M d Q => match av with
  | [.inr (.inr (.inl x)), .inl p0, .inr (.inr (.inl o))] =>  x = 1 ∧ o = 23 ∧ wA M ∧ InI p0 ∧ ∀ M1 M' e r, hlP M M1 M' e r → C_length p0 M M1 e r → Q (.inl (some (mm_I e))) M' d
  | _ => False
def ct_L_length : List (Nat × mm_Ca) := [(89, (0, 2, 10, sp_X3_length, 1))]
abbrev rr_L_length (Q : mm_Q) := mm_run (mm_look flL) (mm_look ct_L_length) mm_x0 (mm_look ([] : List (Nat × Int))) (fun _ => none) 1 1 (mm_hn [(0, 10, 13, 19)]) Q kdL_length
set_option maxRecDepth 20000 in
theorem rn_L_length : mm_RNH flL ct_L_length [] [(0, 10, 13, 19)] 1 1 4 kdL_length sp_L_length := by
  intro av M d Q h
  unfold sp_L_length at h
  split at h
  · rename_i x p0 o
    obtain ⟨rfl, rfl, ha, h0, hq⟩ := h
    have q1 : C_length p0 M M 1 0 → Q (.inl (some (mm_I 1))) M d := fun hc => hq M M 1 0 (hlP_1 ha (by omega)) hc
    have q2 : C_length p0 M M 2 0 → Q (.inl (some (mm_I 2))) M d := fun hc => hq M M 2 0 (hlP_1 ha (by omega)) hc
    have qa := fun (r : Int) (h : InI r ∧ C_length p0 M M 0 r) => hq M _ 0 r (hlP_0 (r := r) ha.rf) h.2
    clear hq
    obtain ⟨K, hK, hK2⟩ : ∃ K : Nat → mm_K, (∀ t ls st M d u, K t ls st M d u → rr_L_length Q t ls st M d u) ∧ (∀ t ls st M d u, rr_L_length Q t ls st M d u → K t ls st M d u) := ⟨rr_L_length Q, fun _ _ _ _ _ _ h => h, fun _ _ _ _ _ _ h => h⟩
    refine ⟨Nat.le_of_ble_eq_true rfl, mm_run_at (stop := []) (S := K) kkL_length 90 ?_ (fun _ _ _ _ _ _ _ h => hK _ _ _ _ _ _ h)⟩
    repeat' (first | with_reducible assumption | with_reducible exact True.intro | with_reducible exact mm_i1 | with_reducible exact mm_i17 | with_reducible exact mm_i23 | ((with_reducible show mm_rv _ _ _ _ _); first | exact True.intro | exact mm_i1 | exact mm_i17 | exact mm_i23 | refine mm_k0 ?_) | refine mm_k0 ?_ | ((with_reducible show mm_bool _ _); first | exact True.intro | exact Or.inl rfl | exact Or.inr rfl | (show (_ : Int) = 0 ∨ _ = 1)) | rfl | with_reducible exact Or.inl rfl | with_reducible exact Or.inr rfl | exact Nat.le_of_ble_eq_true rfl | refine And.intro ?_ ?_ | intro _)
    all_goals (try simp (disch := omega) only [InI, Int.toNat_natCast, Int.tmod_eq_emod_of_nonneg, Int.tdiv_eq_ediv_of_nonneg, true_implies, true_or, or_true, mm_l18, mm_l19, mm_l20, mm_l21, mm_l22] at *)
    all_goals first | omega | exact qa _ (by assumption) | exact q1 (by assumption) | exact q2 (by assumption) | skip
  · exact h.elim
theorem me_L_length {l : Launch} (hl : l.stackTraces = false) : mm_Met l yL_length cL_length 4 (some .int) [(0, 10, 13, 19)] 8 142 1 sp_L_length := mm_mtH rn_L_length ⟨by decide, rfl⟩ kkL_length rfl (by decide) (⟨mm_pe (me_X3_length hl) mwX3_length (mm_t4 133 rfl rfl) (Nat.le_of_ble_eq_true rfl) (Nat.le_of_ble_eq_true rfl), trivial⟩)
def sp_L_cornerAt : mm_S := fun av M d Q => match av with
  | [.inr (.inr (.inl x)), .inl p0, .inl p1, .inr (.inr (.inl o))] =>  x = 1 ∧ o = 23 ∧ wA M ∧ InI p0 ∧ InI p1 ∧ ∀ M1 M' e r, hlP M M1 M' e r → C_cornerAt p0 p1 M M1 e r → Q (.inl (some (mm_I e))) M' d
  | _ => False
def ct_L_cornerAt : List (Nat × mm_Ca) := [(92, (0, 3, 10, sp_X3_cornerAt, 2))]
abbrev rr_L_cornerAt (Q : mm_Q) := mm_run (mm_look flL) (mm_look ct_L_cornerAt) mm_x0 (mm_look ([] : List (Nat × Int))) (fun _ => none) 1 2 (mm_hn [(0, 11, 14, 19)]) Q kdL_cornerAt
set_option maxRecDepth 20000 in
theorem rn_L_cornerAt : mm_RNH flL ct_L_cornerAt [] [(0, 11, 14, 19)] 1 2 5 kdL_cornerAt sp_L_cornerAt := by
  intro av M d Q h
  unfold sp_L_cornerAt at h
  split at h
  · rename_i x p0 p1 o
    obtain ⟨rfl, rfl, ha, h0, h1, hq⟩ := h
    have q1 : C_cornerAt p0 p1 M M 1 0 → Q (.inl (some (mm_I 1))) M d := fun hc => hq M M 1 0 (hlP_1 ha (by omega)) hc
    have q2 : C_cornerAt p0 p1 M M 2 0 → Q (.inl (some (mm_I 2))) M d := fun hc => hq M M 2 0 (hlP_1 ha (by omega)) hc
    have qa := fun (r : Int) (h : InI r ∧ C_cornerAt p0 p1 M M 0 r) => hq M _ 0 r (hlP_0 (r := r) ha.rf) h.2
    clear hq
    obtain ⟨K, hK, hK2⟩ : ∃ K : Nat → mm_K, (∀ t ls st M d u, K t ls st M d u → rr_L_cornerAt Q t ls st M d u) ∧ (∀ t ls st M d u, rr_L_cornerAt Q t ls st M d u → K t ls st M d u) := ⟨rr_L_cornerAt Q, fun _ _ _ _ _ _ h => h, fun _ _ _ _ _ _ h => h⟩
    refine ⟨Nat.le_of_ble_eq_true rfl, mm_run_at (stop := []) (S := K) kkL_cornerAt 90 ?_ (fun _ _ _ _ _ _ _ h => hK _ _ _ _ _ _ h)⟩
    repeat' (first | with_reducible assumption | with_reducible exact True.intro | with_reducible exact mm_i1 | with_reducible exact mm_i17 | with_reducible exact mm_i23 | ((with_reducible show mm_rv _ _ _ _ _); first | exact True.intro | exact mm_i1 | exact mm_i17 | exact mm_i23 | refine mm_k0 ?_) | refine mm_k0 ?_ | ((with_reducible show mm_bool _ _); first | exact True.intro | exact Or.inl rfl | exact Or.inr rfl | (show (_ : Int) = 0 ∨ _ = 1)) | rfl | with_reducible exact Or.inl rfl | with_reducible exact Or.inr rfl | exact Nat.le_of_ble_eq_true rfl | refine And.intro ?_ ?_ | intro _)
    all_goals (try simp (disch := omega) only [InI, Int.toNat_natCast, Int.tmod_eq_emod_of_nonneg, Int.tdiv_eq_ediv_of_nonneg, true_implies, true_or, or_true, mm_l18, mm_l19, mm_l20, mm_l21, mm_l22] at *)
    all_goals first | omega | exact qa _ (by assumption) | exact q1 (by assumption) | exact q2 (by assumption) | skip
  · exact h.elim
theorem me_L_cornerAt {l : Launch} (hl : l.stackTraces = false) : mm_Met l yL_cornerAt cL_cornerAt 5 (some .int) [(0, 11, 14, 19)] 10 187 2 sp_L_cornerAt := mm_mtH rn_L_cornerAt ⟨by decide, rfl⟩ kkL_cornerAt rfl (by decide) (⟨mm_pe (me_X3_cornerAt hl) mwX3_cornerAt (mm_t4 140 rfl rfl) (Nat.le_of_ble_eq_true rfl) (Nat.le_of_ble_eq_true rfl), trivial⟩)
def sp_L_stepAt : mm_S := fun av M d Q => match av with
  | [.inr (.inr (.inl x)), .inl p0, .inl p1, .inr (.inr (.inl o))] =>  x = 1 ∧ o = 23 ∧ wA M ∧ InI p0 ∧ InI p1 ∧ ∀ M1 M' e r, hlP M M1 M' e r → C_stepAt p0 p1 M M1 e r → Q (.inl (some (mm_I e))) M' d
  | _ => False
def ct_L_stepAt : List (Nat × mm_Ca) := [(95, (0, 3, 10, sp_X3_stepAt, 2))]
abbrev rr_L_stepAt (Q : mm_Q) := mm_run (mm_look flL) (mm_look ct_L_stepAt) mm_x0 (mm_look ([] : List (Nat × Int))) (fun _ => none) 1 2 (mm_hn [(0, 11, 14, 19)]) Q kdL_stepAt
set_option maxRecDepth 20000 in
theorem rn_L_stepAt : mm_RNH flL ct_L_stepAt [] [(0, 11, 14, 19)] 1 2 5 kdL_stepAt sp_L_stepAt := by
  intro av M d Q h
  unfold sp_L_stepAt at h
  split at h
  · rename_i x p0 p1 o
    obtain ⟨rfl, rfl, ha, h0, h1, hq⟩ := h
    have q1 : C_stepAt p0 p1 M M 1 0 → Q (.inl (some (mm_I 1))) M d := fun hc => hq M M 1 0 (hlP_1 ha (by omega)) hc
    have q2 : C_stepAt p0 p1 M M 2 0 → Q (.inl (some (mm_I 2))) M d := fun hc => hq M M 2 0 (hlP_1 ha (by omega)) hc
    have qa := fun (r : Int) (h : InI r ∧ C_stepAt p0 p1 M M 0 r) => hq M _ 0 r (hlP_0 (r := r) ha.rf) h.2
    clear hq
    obtain ⟨K, hK, hK2⟩ : ∃ K : Nat → mm_K, (∀ t ls st M d u, K t ls st M d u → rr_L_stepAt Q t ls st M d u) ∧ (∀ t ls st M d u, rr_L_stepAt Q t ls st M d u → K t ls st M d u) := ⟨rr_L_stepAt Q, fun _ _ _ _ _ _ h => h, fun _ _ _ _ _ _ h => h⟩
    refine ⟨Nat.le_of_ble_eq_true rfl, mm_run_at (stop := []) (S := K) kkL_stepAt 90 ?_ (fun _ _ _ _ _ _ _ h => hK _ _ _ _ _ _ h)⟩
    repeat' (first | with_reducible assumption | with_reducible exact True.intro | with_reducible exact mm_i1 | with_reducible exact mm_i17 | with_reducible exact mm_i23 | ((with_reducible show mm_rv _ _ _ _ _); first | exact True.intro | exact mm_i1 | exact mm_i17 | exact mm_i23 | refine mm_k0 ?_) | refine mm_k0 ?_ | ((with_reducible show mm_bool _ _); first | exact True.intro | exact Or.inl rfl | exact Or.inr rfl | (show (_ : Int) = 0 ∨ _ = 1)) | rfl | with_reducible exact Or.inl rfl | with_reducible exact Or.inr rfl | exact Nat.le_of_ble_eq_true rfl | refine And.intro ?_ ?_ | intro _)
    all_goals (try simp (disch := omega) only [InI, Int.toNat_natCast, Int.tmod_eq_emod_of_nonneg, Int.tdiv_eq_ediv_of_nonneg, true_implies, true_or, or_true, mm_l18, mm_l19, mm_l20, mm_l21, mm_l22] at *)
    all_goals first | omega | exact qa _ (by assumption) | exact q1 (by assumption) | exact q2 (by assumption) | skip
  · exact h.elim
theorem me_L_stepAt {l : Launch} (hl : l.stackTraces = false) : mm_Met l yL_stepAt cL_stepAt 5 (some .int) [(0, 11, 14, 19)] 8 144 2 sp_L_stepAt := mm_mtH rn_L_stepAt ⟨by decide, rfl⟩ kkL_stepAt rfl (by decide) (⟨mm_pe (me_X3_stepAt hl) mwX3_stepAt (mm_t4 147 rfl rfl) (Nat.le_of_ble_eq_true rfl) (Nat.le_of_ble_eq_true rfl), trivial⟩)
def sp_L_find : mm_S := fun av M d Q => match av with
  | [.inr (.inr (.inl x)), .inl p0, .inl p1, .inr (.inr (.inl o))] =>  x = 1 ∧ o = 23 ∧ wA M ∧ InI p0 ∧ InI p1 ∧ ∀ M1 M' e r, hlP M M1 M' e r → C_find p0 p1 M M1 e r → Q (.inl (some (mm_I e))) M' d
  | _ => False
def ct_L_find : List (Nat × mm_Ca) := [(98, (0, 3, 10, sp_X3_find, 2))]
abbrev rr_L_find (Q : mm_Q) := mm_run (mm_look flL) (mm_look ct_L_find) mm_x0 (mm_look ([] : List (Nat × Int))) (fun _ => none) 1 2 (mm_hn [(0, 11, 14, 19)]) Q kdL_find
set_option maxRecDepth 20000 in
theorem rn_L_find : mm_RNH flL ct_L_find [] [(0, 11, 14, 19)] 1 2 5 kdL_find sp_L_find := by
  intro av M d Q h
  unfold sp_L_find at h
  split at h
  · rename_i x p0 p1 o
    obtain ⟨rfl, rfl, ha, h0, h1, hq⟩ := h
    have q1 : C_find p0 p1 M M 1 0 → Q (.inl (some (mm_I 1))) M d := fun hc => hq M M 1 0 (hlP_1 ha (by omega)) hc
    have q2 : C_find p0 p1 M M 2 0 → Q (.inl (some (mm_I 2))) M d := fun hc => hq M M 2 0 (hlP_1 ha (by omega)) hc
    have qa := fun (r : Int) (h : InI r ∧ C_find p0 p1 M M 0 r) => hq M _ 0 r (hlP_0 (r := r) ha.rf) h.2
    clear hq
    obtain ⟨K, hK, hK2⟩ : ∃ K : Nat → mm_K, (∀ t ls st M d u, K t ls st M d u → rr_L_find Q t ls st M d u) ∧ (∀ t ls st M d u, rr_L_find Q t ls st M d u → K t ls st M d u) := ⟨rr_L_find Q, fun _ _ _ _ _ _ h => h, fun _ _ _ _ _ _ h => h⟩
    refine ⟨Nat.le_of_ble_eq_true rfl, mm_run_at (stop := []) (S := K) kkL_find 90 ?_ (fun _ _ _ _ _ _ _ h => hK _ _ _ _ _ _ h)⟩
    repeat' (first | with_reducible assumption | with_reducible exact True.intro | with_reducible exact mm_i1 | with_reducible exact mm_i17 | with_reducible exact mm_i23 | ((with_reducible show mm_rv _ _ _ _ _); first | exact True.intro | exact mm_i1 | exact mm_i17 | exact mm_i23 | refine mm_k0 ?_) | refine mm_k0 ?_ | ((with_reducible show mm_bool _ _); first | exact True.intro | exact Or.inl rfl | exact Or.inr rfl | (show (_ : Int) = 0 ∨ _ = 1)) | rfl | with_reducible exact Or.inl rfl | with_reducible exact Or.inr rfl | exact Nat.le_of_ble_eq_true rfl | refine And.intro ?_ ?_ | intro _)
    all_goals (try simp (disch := omega) only [InI, Int.toNat_natCast, Int.tmod_eq_emod_of_nonneg, Int.tdiv_eq_ediv_of_nonneg, true_implies, true_or, or_true, mm_l18, mm_l19, mm_l20, mm_l21, mm_l22] at *)
    all_goals first | omega | exact qa _ (by assumption) | exact q1 (by assumption) | exact q2 (by assumption) | skip
  · exact h.elim
theorem me_L_find {l : Launch} (hl : l.stackTraces = false) : mm_Met l yL_find cL_find 5 (some .int) [(0, 11, 14, 19)] 9 164 2 sp_L_find := mm_mtH rn_L_find ⟨by decide, rfl⟩ kkL_find rfl (by decide) (⟨mm_pe (me_X3_find hl) mwX3_find (mm_t4 154 rfl rfl) (Nat.le_of_ble_eq_true rfl) (Nat.le_of_ble_eq_true rfl), trivial⟩)
def sp_L_is : mm_S := fun av M d Q => match av with
  | [.inr (.inr (.inl x)), .inl p0, .inl p1, .inr (.inr (.inl o))] =>  x = 1 ∧ o = 23 ∧ wA M ∧ InI p0 ∧ (p1 = 0 ∨ p1 = 1) ∧ ∀ M1 M' e r, hlP M M1 M' e r → C_is p0 p1 M M1 e r → Q (.inl (some (mm_I e))) M' d
  | _ => False
def ct_L_is : List (Nat × mm_Ca) := [(101, (0, 3, 10, sp_X3_is, 1))]
abbrev rr_L_is (Q : mm_Q) := mm_run (mm_look flL) (mm_look ct_L_is) mm_x0 (mm_look ([] : List (Nat × Int))) (fun _ => none) 1 1 (mm_hn [(0, 18, 21, 19)]) Q kdL_is
set_option maxRecDepth 20000 in
theorem rn_L_is : mm_RNH flL ct_L_is [] [(0, 18, 21, 19)] 1 1 5 kdL_is sp_L_is := by
  intro av M d Q h
  unfold sp_L_is at h
  split at h
  · rename_i x p0 p1 o
    obtain ⟨rfl, rfl, ha, h0, h1, hq⟩ := h
    have q1 : C_is p0 p1 M M 1 0 → Q (.inl (some (mm_I 1))) M d := fun hc => hq M M 1 0 (hlP_1 ha (by omega)) hc
    have q2 : C_is p0 p1 M M 2 0 → Q (.inl (some (mm_I 2))) M d := fun hc => hq M M 2 0 (hlP_1 ha (by omega)) hc
    have qa : ∀ (r : Int), ((r = 0 ∨ r = 1) ∧ C_is p0 p1 M M 0 r) → r ≠ 0 → Q (.inl (some (mm_I 0))) (mm_up M 23 0 1) d := fun r h hr => by
      have e : r = 1 := by have := h.1; omega
      subst e
      have := hq M _ 0 1 (hlP_0 ha.rf) h.2
      rw [mm_w1] at this
      exact this
    have qb : ∀ (r : Int), ((r = 0 ∨ r = 1) ∧ C_is p0 p1 M M 0 r) → r = 0 → Q (.inl (some (mm_I 0))) (mm_up M 23 0 0) d := fun r h hr => by
      subst hr
      have := hq M _ 0 0 (hlP_0 ha.rf) h.2
      rw [mm_w0] at this
      exact this
    clear hq
    obtain ⟨K, hK, hK2⟩ : ∃ K : Nat → mm_K, (∀ t ls st M d u, K t ls st M d u → rr_L_is Q t ls st M d u) ∧ (∀ t ls st M d u, rr_L_is Q t ls st M d u → K t ls st M d u) := ⟨rr_L_is Q, fun _ _ _ _ _ _ h => h, fun _ _ _ _ _ _ h => h⟩
    refine ⟨Nat.le_of_ble_eq_true rfl, mm_run_at (stop := []) (S := K) kkL_is 90 ?_ (fun _ _ _ _ _ _ _ h => hK _ _ _ _ _ _ h)⟩
    repeat' (first | with_reducible assumption | with_reducible exact True.intro | with_reducible exact mm_i1 | with_reducible exact mm_i17 | with_reducible exact mm_i23 | ((with_reducible show mm_rv _ _ _ _ _); first | exact True.intro | exact mm_i1 | exact mm_i17 | exact mm_i23 | refine mm_k0 ?_) | refine mm_k0 ?_ | ((with_reducible show mm_bool _ _); first | exact True.intro | exact Or.inl rfl | exact Or.inr rfl | (show (_ : Int) = 0 ∨ _ = 1)) | rfl | with_reducible exact Or.inl rfl | with_reducible exact Or.inr rfl | exact Nat.le_of_ble_eq_true rfl | refine And.intro ?_ ?_ | intro _)
    all_goals (try simp (disch := omega) only [InI, Int.toNat_natCast, Int.tmod_eq_emod_of_nonneg, Int.tdiv_eq_ediv_of_nonneg, true_implies, true_or, or_true, mm_l18, mm_l19, mm_l20, mm_l21, mm_l22] at *)
    all_goals first | omega | exact qa _ (by assumption) (by omega) | exact qb _ (by assumption) (by omega) | exact q1 (by assumption) | exact q2 (by assumption) | skip
  · exact h.elim
theorem me_L_is {l : Launch} (hl : l.stackTraces = false) : mm_Met l yL_is cL_is 5 (some .int) [(0, 18, 21, 19)] 11 207 1 sp_L_is := mm_mtH rn_L_is ⟨by decide, rfl⟩ kkL_is rfl (by decide) (⟨mm_pe (me_X3_is hl) mwX3_is (mm_t4 161 rfl rfl) (Nat.le_of_ble_eq_true rfl) (Nat.le_of_ble_eq_true rfl), trivial⟩)
def sp_L_same : mm_S := fun av M d Q => match av with
  | [.inr (.inr (.inl x)), .inl p0, .inl p1, .inr (.inr (.inl o))] =>  x = 1 ∧ o = 23 ∧ wA M ∧ InI p0 ∧ InI p1 ∧ ∀ M1 M' e r, hlP M M1 M' e r → C_same p0 p1 M M1 e r → Q (.inl (some (mm_I e))) M' d
  | _ => False
def ct_L_same : List (Nat × mm_Ca) := [(105, (0, 3, 10, sp_X3_same, 2))]
abbrev rr_L_same (Q : mm_Q) := mm_run (mm_look flL) (mm_look ct_L_same) mm_x0 (mm_look ([] : List (Nat × Int))) (fun _ => none) 1 2 (mm_hn [(0, 18, 21, 19)]) Q kdL_same
set_option maxRecDepth 20000 in
theorem rn_L_same : mm_RNH flL ct_L_same [] [(0, 18, 21, 19)] 1 2 5 kdL_same sp_L_same := by
  intro av M d Q h
  unfold sp_L_same at h
  split at h
  · rename_i x p0 p1 o
    obtain ⟨rfl, rfl, ha, h0, h1, hq⟩ := h
    have q1 : C_same p0 p1 M M 1 0 → Q (.inl (some (mm_I 1))) M d := fun hc => hq M M 1 0 (hlP_1 ha (by omega)) hc
    have q2 : C_same p0 p1 M M 2 0 → Q (.inl (some (mm_I 2))) M d := fun hc => hq M M 2 0 (hlP_1 ha (by omega)) hc
    have qa : ∀ (r : Int), ((r = 0 ∨ r = 1) ∧ C_same p0 p1 M M 0 r) → r ≠ 0 → Q (.inl (some (mm_I 0))) (mm_up M 23 0 1) d := fun r h hr => by
      have e : r = 1 := by have := h.1; omega
      subst e
      have := hq M _ 0 1 (hlP_0 ha.rf) h.2
      rw [mm_w1] at this
      exact this
    have qb : ∀ (r : Int), ((r = 0 ∨ r = 1) ∧ C_same p0 p1 M M 0 r) → r = 0 → Q (.inl (some (mm_I 0))) (mm_up M 23 0 0) d := fun r h hr => by
      subst hr
      have := hq M _ 0 0 (hlP_0 ha.rf) h.2
      rw [mm_w0] at this
      exact this
    clear hq
    obtain ⟨K, hK, hK2⟩ : ∃ K : Nat → mm_K, (∀ t ls st M d u, K t ls st M d u → rr_L_same Q t ls st M d u) ∧ (∀ t ls st M d u, rr_L_same Q t ls st M d u → K t ls st M d u) := ⟨rr_L_same Q, fun _ _ _ _ _ _ h => h, fun _ _ _ _ _ _ h => h⟩
    refine ⟨Nat.le_of_ble_eq_true rfl, mm_run_at (stop := []) (S := K) kkL_same 90 ?_ (fun _ _ _ _ _ _ _ h => hK _ _ _ _ _ _ h)⟩
    repeat' (first | with_reducible assumption | with_reducible exact True.intro | with_reducible exact mm_i1 | with_reducible exact mm_i17 | with_reducible exact mm_i23 | ((with_reducible show mm_rv _ _ _ _ _); first | exact True.intro | exact mm_i1 | exact mm_i17 | exact mm_i23 | refine mm_k0 ?_) | refine mm_k0 ?_ | ((with_reducible show mm_bool _ _); first | exact True.intro | exact Or.inl rfl | exact Or.inr rfl | (show (_ : Int) = 0 ∨ _ = 1)) | rfl | with_reducible exact Or.inl rfl | with_reducible exact Or.inr rfl | exact Nat.le_of_ble_eq_true rfl | refine And.intro ?_ ?_ | intro _)
    all_goals (try simp (disch := omega) only [InI, Int.toNat_natCast, Int.tmod_eq_emod_of_nonneg, Int.tdiv_eq_ediv_of_nonneg, true_implies, true_or, or_true, mm_l18, mm_l19, mm_l20, mm_l21, mm_l22] at *)
    all_goals first | omega | exact qa _ (by assumption) (by omega) | exact qb _ (by assumption) (by omega) | exact q1 (by assumption) | exact q2 (by assumption) | skip
  · exact h.elim
theorem me_L_same {l : Launch} (hl : l.stackTraces = false) : mm_Met l yL_same cL_same 5 (some .int) [(0, 18, 21, 19)] 11 211 2 sp_L_same := mm_mtH rn_L_same ⟨by decide, rfl⟩ kkL_same rfl (by decide) (⟨mm_pe (me_X3_same hl) mwX3_same (mm_t4 168 rfl rfl) (Nat.le_of_ble_eq_true rfl) (Nat.le_of_ble_eq_true rfl), trivial⟩)
def sp_L_turnOf : mm_S := fun av M d Q => match av with
  | [.inr (.inr (.inl x)), .inl p0, .inl p1, .inr (.inr (.inl o))] =>  x = 1 ∧ o = 23 ∧ wA M ∧ InI p0 ∧ InI p1 ∧ ∀ M1 M' e r, hlP M M1 M' e r → C_turnOf p0 p1 M M1 e r → Q (.inl (some (mm_I e))) M' d
  | _ => False
def ct_L_turnOf : List (Nat × mm_Ca) := [(109, (0, 3, 10, sp_X3_turnOf, 2))]
abbrev rr_L_turnOf (Q : mm_Q) := mm_run (mm_look flL) (mm_look ct_L_turnOf) mm_x0 (mm_look ([] : List (Nat × Int))) (fun _ => none) 1 2 (mm_hn [(0, 11, 14, 19)]) Q kdL_turnOf
set_option maxRecDepth 20000 in
theorem rn_L_turnOf : mm_RNH flL ct_L_turnOf [] [(0, 11, 14, 19)] 1 2 5 kdL_turnOf sp_L_turnOf := by
  intro av M d Q h
  unfold sp_L_turnOf at h
  split at h
  · rename_i x p0 p1 o
    obtain ⟨rfl, rfl, ha, h0, h1, hq⟩ := h
    have q1 : C_turnOf p0 p1 M M 1 0 → Q (.inl (some (mm_I 1))) M d := fun hc => hq M M 1 0 (hlP_1 ha (by omega)) hc
    have q2 : C_turnOf p0 p1 M M 2 0 → Q (.inl (some (mm_I 2))) M d := fun hc => hq M M 2 0 (hlP_1 ha (by omega)) hc
    have qa := fun (r : Int) (h : InI r ∧ C_turnOf p0 p1 M M 0 r) => hq M _ 0 r (hlP_0 (r := r) ha.rf) h.2
    clear hq
    obtain ⟨K, hK, hK2⟩ : ∃ K : Nat → mm_K, (∀ t ls st M d u, K t ls st M d u → rr_L_turnOf Q t ls st M d u) ∧ (∀ t ls st M d u, rr_L_turnOf Q t ls st M d u → K t ls st M d u) := ⟨rr_L_turnOf Q, fun _ _ _ _ _ _ h => h, fun _ _ _ _ _ _ h => h⟩
    refine ⟨Nat.le_of_ble_eq_true rfl, mm_run_at (stop := []) (S := K) kkL_turnOf 90 ?_ (fun _ _ _ _ _ _ _ h => hK _ _ _ _ _ _ h)⟩
    repeat' (first | with_reducible assumption | with_reducible exact True.intro | with_reducible exact mm_i1 | with_reducible exact mm_i17 | with_reducible exact mm_i23 | ((with_reducible show mm_rv _ _ _ _ _); first | exact True.intro | exact mm_i1 | exact mm_i17 | exact mm_i23 | refine mm_k0 ?_) | refine mm_k0 ?_ | ((with_reducible show mm_bool _ _); first | exact True.intro | exact Or.inl rfl | exact Or.inr rfl | (show (_ : Int) = 0 ∨ _ = 1)) | rfl | with_reducible exact Or.inl rfl | with_reducible exact Or.inr rfl | exact Nat.le_of_ble_eq_true rfl | refine And.intro ?_ ?_ | intro _)
    all_goals (try simp (disch := omega) only [InI, Int.toNat_natCast, Int.tmod_eq_emod_of_nonneg, Int.tdiv_eq_ediv_of_nonneg, true_implies, true_or, or_true, mm_l18, mm_l19, mm_l20, mm_l21, mm_l22] at *)
    all_goals first | omega | exact qa _ (by assumption) | exact q1 (by assumption) | exact q2 (by assumption) | skip
  · exact h.elim
theorem me_L_turnOf {l : Launch} (hl : l.stackTraces = false) : mm_Met l yL_turnOf cL_turnOf 5 (some .int) [(0, 11, 14, 19)] 12 233 2 sp_L_turnOf := mm_mtH rn_L_turnOf ⟨by decide, rfl⟩ kkL_turnOf rfl (by decide) (⟨mm_pe (me_X3_turnOf hl) mwX3_turnOf (mm_t4 176 rfl rfl) (Nat.le_of_ble_eq_true rfl) (Nat.le_of_ble_eq_true rfl), trivial⟩)
def sp_L_wordAt : mm_S := fun av M d Q => match av with
  | [.inr (.inr (.inl x)), .inl p0, .inl p1, .inl p2, .inr (.inr (.inl o))] =>  x = 1 ∧ o = 23 ∧ wA M ∧ InI p0 ∧ InI p1 ∧ InI p2 ∧ ∀ M1 M' e r, hlP M M1 M' e r → C_wordAt p0 p1 p2 M M1 e r → Q (.inl (some (mm_I e))) M' d
  | _ => False
def ct_L_wordAt : List (Nat × mm_Ca) := [(120, (0, 4, 10, sp_X3_wordAt, 3))]
abbrev rr_L_wordAt (Q : mm_Q) := mm_run (mm_look flL) (mm_look ct_L_wordAt) mm_x0 (mm_look ([] : List (Nat × Int))) (fun _ => none) 1 3 (mm_hn [(0, 13, 16, 19), (0, 13, 20, 24)]) Q kdL_wordAt
set_option maxRecDepth 20000 in
theorem rn_L_wordAt : mm_RNH flL ct_L_wordAt [] [(0, 13, 16, 19), (0, 13, 20, 24)] 1 3 6 kdL_wordAt sp_L_wordAt := by
  intro av M d Q h
  unfold sp_L_wordAt at h
  split at h
  · rename_i x p0 p1 p2 o
    obtain ⟨rfl, rfl, ha, h0, h1, h2, hq⟩ := h
    have q1 : C_wordAt p0 p1 p2 M M 1 0 → Q (.inl (some (mm_I 1))) M d := fun hc => hq M M 1 0 (hlP_1 ha (by omega)) hc
    have q2 : C_wordAt p0 p1 p2 M M 2 0 → Q (.inl (some (mm_I 2))) M d := fun hc => hq M M 2 0 (hlP_1 ha (by omega)) hc
    have qa := fun (r : Int) (h : InI r ∧ C_wordAt p0 p1 p2 M M 0 r) => hq M _ 0 r (hlP_0 (r := r) ha.rf) h.2
    clear hq
    obtain ⟨K, hK, hK2⟩ : ∃ K : Nat → mm_K, (∀ t ls st M d u, K t ls st M d u → rr_L_wordAt Q t ls st M d u) ∧ (∀ t ls st M d u, rr_L_wordAt Q t ls st M d u → K t ls st M d u) := ⟨rr_L_wordAt Q, fun _ _ _ _ _ _ h => h, fun _ _ _ _ _ _ h => h⟩
    refine ⟨Nat.le_of_ble_eq_true rfl, mm_run_at (stop := []) (S := K) kkL_wordAt 90 ?_ (fun _ _ _ _ _ _ _ h => hK _ _ _ _ _ _ h)⟩
    repeat' (first | with_reducible assumption | with_reducible exact True.intro | with_reducible exact mm_i1 | with_reducible exact mm_i17 | with_reducible exact mm_i23 | ((with_reducible show mm_rv _ _ _ _ _); first | exact True.intro | exact mm_i1 | exact mm_i17 | exact mm_i23 | refine mm_k2 ?_) | refine mm_k2 ?_ | ((with_reducible show mm_bool _ _); first | exact True.intro | exact Or.inl rfl | exact Or.inr rfl | (show (_ : Int) = 0 ∨ _ = 1)) | rfl | with_reducible exact Or.inl rfl | with_reducible exact Or.inr rfl | exact Nat.le_of_ble_eq_true rfl | refine And.intro ?_ ?_ | intro _)
    all_goals (try simp (disch := omega) only [InI, Int.toNat_natCast, Int.tmod_eq_emod_of_nonneg, Int.tdiv_eq_ediv_of_nonneg, true_implies, true_or, or_true, mm_l18, mm_l19, mm_l20, mm_l21, mm_l22] at *)
    all_goals first | omega | exact qa _ (by assumption) | exact q1 (by assumption) | exact q2 (by assumption) | skip
  · exact h.elim
theorem me_L_wordAt {l : Launch} (hl : l.stackTraces = false) : mm_Met l yL_wordAt cL_wordAt 6 (some .int) [(0, 13, 16, 19), (0, 13, 20, 24)] 10 193 3 sp_L_wordAt := mm_mtH rn_L_wordAt ⟨by decide, rfl⟩ kkL_wordAt rfl (by decide) (⟨mm_pe (me_X3_wordAt hl) mwX3_wordAt (mm_t5 221 rfl rfl) (Nat.le_of_ble_eq_true rfl) (Nat.le_of_ble_eq_true rfl), trivial⟩)
def sp_L_cursor : mm_S := fun av M d Q => match av with
  | [.inr (.inr (.inl x)), .inl p0, .inl p1, .inr (.inr (.inl o))] =>  x = 1 ∧ o = 23 ∧ wA M ∧ InI p0 ∧ InI p1 ∧ ∀ M1 M' e r, hlP M M1 M' e r → C_cursor p0 p1 M M1 e r → Q (.inl (some (mm_I e))) M' d
  | _ => False
def ct_L_cursor : List (Nat × mm_Ca) := [(123, (0, 3, 10, sp_X3_cursor, 2))]
abbrev rr_L_cursor (Q : mm_Q) := mm_run (mm_look flL) (mm_look ct_L_cursor) mm_x0 (mm_look ([] : List (Nat × Int))) (fun _ => none) 1 2 (mm_hn [(0, 11, 14, 19)]) Q kdL_cursor
set_option maxRecDepth 20000 in
theorem rn_L_cursor : mm_RNH flL ct_L_cursor [] [(0, 11, 14, 19)] 1 2 5 kdL_cursor sp_L_cursor := by
  intro av M d Q h
  unfold sp_L_cursor at h
  split at h
  · rename_i x p0 p1 o
    obtain ⟨rfl, rfl, ha, h0, h1, hq⟩ := h
    have q1 : C_cursor p0 p1 M M 1 0 → Q (.inl (some (mm_I 1))) M d := fun hc => hq M M 1 0 (hlP_1 ha (by omega)) hc
    have q2 : C_cursor p0 p1 M M 2 0 → Q (.inl (some (mm_I 2))) M d := fun hc => hq M M 2 0 (hlP_1 ha (by omega)) hc
    have qa := fun M' (r : Int) (h : cP M M' ∧ InI r ∧ C_cursor p0 p1 M M' 0 r) => hq M' _ 0 r (hlP_0 (r := r) h.1) h.2.2
    clear hq
    obtain ⟨K, hK, hK2⟩ : ∃ K : Nat → mm_K, (∀ t ls st M d u, K t ls st M d u → rr_L_cursor Q t ls st M d u) ∧ (∀ t ls st M d u, rr_L_cursor Q t ls st M d u → K t ls st M d u) := ⟨rr_L_cursor Q, fun _ _ _ _ _ _ h => h, fun _ _ _ _ _ _ h => h⟩
    refine ⟨Nat.le_of_ble_eq_true rfl, mm_run_at (stop := []) (S := K) kkL_cursor 90 ?_ (fun _ _ _ _ _ _ _ h => hK _ _ _ _ _ _ h)⟩
    repeat' (first | with_reducible assumption | with_reducible exact True.intro | with_reducible exact mm_i1 | with_reducible exact mm_i17 | with_reducible exact mm_i23 | ((with_reducible show mm_rv _ _ _ _ _); first | exact True.intro | exact mm_i1 | exact mm_i17 | exact mm_i23 | refine mm_k0 ?_) | refine mm_k0 ?_ | ((with_reducible show mm_bool _ _); first | exact True.intro | exact Or.inl rfl | exact Or.inr rfl | (show (_ : Int) = 0 ∨ _ = 1)) | rfl | with_reducible exact Or.inl rfl | with_reducible exact Or.inr rfl | exact Nat.le_of_ble_eq_true rfl | refine And.intro ?_ ?_ | intro _)
    all_goals (try simp (disch := omega) only [InI, Int.toNat_natCast, Int.tmod_eq_emod_of_nonneg, Int.tdiv_eq_ediv_of_nonneg, true_implies, true_or, or_true, mm_l18, mm_l19, mm_l20, mm_l21, mm_l22] at *)
    all_goals first | omega | exact qa _ _ (by assumption) | exact q1 (by assumption) | exact q2 (by assumption) | skip
  · exact h.elim
theorem me_L_cursor {l : Launch} (hl : l.stackTraces = false) : mm_Met l yL_cursor cL_cursor 5 (some .int) [(0, 11, 14, 19)] 10 187 2 sp_L_cursor := mm_mtH rn_L_cursor ⟨by decide, rfl⟩ kkL_cursor rfl (by decide) (⟨mm_pe (me_X3_cursor hl) mwX3_cursor (mm_t5 228 rfl rfl) (Nat.le_of_ble_eq_true rfl) (Nat.le_of_ble_eq_true rfl), trivial⟩)
def sp_L_cursorSet : mm_S := fun av M d Q => match av with
  | [.inr (.inr (.inl x)), .inl p0, .inr (.inr (.inl o))] =>  x = 1 ∧ o = 23 ∧ wA M ∧ InI p0 ∧ ∀ M1 M' e r, hlP M M1 M' e r → C_cursorSet p0 M M1 e r → Q (.inl (some (mm_I e))) M' d
  | _ => False
def ct_L_cursorSet : List (Nat × mm_Ca) := [(126, (0, 2, 10, sp_X3_cursorSet, 1))]
abbrev rr_L_cursorSet (Q : mm_Q) := mm_run (mm_look flL) (mm_look ct_L_cursorSet) mm_x0 (mm_look ([] : List (Nat × Int))) (fun _ => none) 1 1 (mm_hn [(0, 10, 13, 19)]) Q kdL_cursorSet
set_option maxRecDepth 20000 in
theorem rn_L_cursorSet : mm_RNH flL ct_L_cursorSet [] [(0, 10, 13, 19)] 1 1 4 kdL_cursorSet sp_L_cursorSet := by
  intro av M d Q h
  unfold sp_L_cursorSet at h
  split at h
  · rename_i x p0 o
    obtain ⟨rfl, rfl, ha, h0, hq⟩ := h
    have q1 : C_cursorSet p0 M M 1 0 → Q (.inl (some (mm_I 1))) M d := fun hc => hq M M 1 0 (hlP_1 ha (by omega)) hc
    have q2 : C_cursorSet p0 M M 2 0 → Q (.inl (some (mm_I 2))) M d := fun hc => hq M M 2 0 (hlP_1 ha (by omega)) hc
    have qa := fun M' (r : Int) (h : cP M M' ∧ InI r ∧ C_cursorSet p0 M M' 0 r) => hq M' _ 0 r (hlP_0 (r := r) h.1) h.2.2
    clear hq
    obtain ⟨K, hK, hK2⟩ : ∃ K : Nat → mm_K, (∀ t ls st M d u, K t ls st M d u → rr_L_cursorSet Q t ls st M d u) ∧ (∀ t ls st M d u, rr_L_cursorSet Q t ls st M d u → K t ls st M d u) := ⟨rr_L_cursorSet Q, fun _ _ _ _ _ _ h => h, fun _ _ _ _ _ _ h => h⟩
    refine ⟨Nat.le_of_ble_eq_true rfl, mm_run_at (stop := []) (S := K) kkL_cursorSet 90 ?_ (fun _ _ _ _ _ _ _ h => hK _ _ _ _ _ _ h)⟩
    repeat' (first | with_reducible assumption | with_reducible exact True.intro | with_reducible exact mm_i1 | with_reducible exact mm_i17 | with_reducible exact mm_i23 | ((with_reducible show mm_rv _ _ _ _ _); first | exact True.intro | exact mm_i1 | exact mm_i17 | exact mm_i23 | refine mm_k0 ?_) | refine mm_k0 ?_ | ((with_reducible show mm_bool _ _); first | exact True.intro | exact Or.inl rfl | exact Or.inr rfl | (show (_ : Int) = 0 ∨ _ = 1)) | rfl | with_reducible exact Or.inl rfl | with_reducible exact Or.inr rfl | exact Nat.le_of_ble_eq_true rfl | refine And.intro ?_ ?_ | intro _)
    all_goals (try simp (disch := omega) only [InI, Int.toNat_natCast, Int.tmod_eq_emod_of_nonneg, Int.tdiv_eq_ediv_of_nonneg, true_implies, true_or, or_true, mm_l18, mm_l19, mm_l20, mm_l21, mm_l22] at *)
    all_goals first | omega | exact qa _ _ (by assumption) | exact q1 (by assumption) | exact q2 (by assumption) | skip
  · exact h.elim
theorem me_L_cursorSet {l : Launch} (hl : l.stackTraces = false) : mm_Met l yL_cursorSet cL_cursorSet 4 (some .int) [(0, 10, 13, 19)] 11 212 1 sp_L_cursorSet := mm_mtH rn_L_cursorSet ⟨by decide, rfl⟩ kkL_cursorSet rfl (by decide) (⟨mm_pe (me_X3_cursorSet hl) mwX3_cursorSet (mm_t5 239 rfl rfl) (Nat.le_of_ble_eq_true rfl) (Nat.le_of_ble_eq_true rfl), trivial⟩)
def sp_L_cursorAdd : mm_S := fun av M d Q => match av with
  | [.inr (.inr (.inl x)), .inl p0, .inr (.inr (.inl o))] =>  x = 1 ∧ o = 23 ∧ wA M ∧ InI p0 ∧ ∀ M1 M' e r, hlP M M1 M' e r → C_cursorAdd p0 M M1 e r → Q (.inl (some (mm_I e))) M' d
  | _ => False
def ct_L_cursorAdd : List (Nat × mm_Ca) := [(129, (0, 2, 10, sp_X3_cursorAdd, 1))]
abbrev rr_L_cursorAdd (Q : mm_Q) := mm_run (mm_look flL) (mm_look ct_L_cursorAdd) mm_x0 (mm_look ([] : List (Nat × Int))) (fun _ => none) 1 1 (mm_hn [(0, 10, 13, 19)]) Q kdL_cursorAdd
set_option maxRecDepth 20000 in
theorem rn_L_cursorAdd : mm_RNH flL ct_L_cursorAdd [] [(0, 10, 13, 19)] 1 1 4 kdL_cursorAdd sp_L_cursorAdd := by
  intro av M d Q h
  unfold sp_L_cursorAdd at h
  split at h
  · rename_i x p0 o
    obtain ⟨rfl, rfl, ha, h0, hq⟩ := h
    have q1 : C_cursorAdd p0 M M 1 0 → Q (.inl (some (mm_I 1))) M d := fun hc => hq M M 1 0 (hlP_1 ha (by omega)) hc
    have q2 : C_cursorAdd p0 M M 2 0 → Q (.inl (some (mm_I 2))) M d := fun hc => hq M M 2 0 (hlP_1 ha (by omega)) hc
    have qa := fun M' (r : Int) (h : cP M M' ∧ InI r ∧ C_cursorAdd p0 M M' 0 r) => hq M' _ 0 r (hlP_0 (r := r) h.1) h.2.2
    clear hq
    obtain ⟨K, hK, hK2⟩ : ∃ K : Nat → mm_K, (∀ t ls st M d u, K t ls st M d u → rr_L_cursorAdd Q t ls st M d u) ∧ (∀ t ls st M d u, rr_L_cursorAdd Q t ls st M d u → K t ls st M d u) := ⟨rr_L_cursorAdd Q, fun _ _ _ _ _ _ h => h, fun _ _ _ _ _ _ h => h⟩
    refine ⟨Nat.le_of_ble_eq_true rfl, mm_run_at (stop := []) (S := K) kkL_cursorAdd 90 ?_ (fun _ _ _ _ _ _ _ h => hK _ _ _ _ _ _ h)⟩
    repeat' (first | with_reducible assumption | with_reducible exact True.intro | with_reducible exact mm_i1 | with_reducible exact mm_i17 | with_reducible exact mm_i23 | ((with_reducible show mm_rv _ _ _ _ _); first | exact True.intro | exact mm_i1 | exact mm_i17 | exact mm_i23 | refine mm_k0 ?_) | refine mm_k0 ?_ | ((with_reducible show mm_bool _ _); first | exact True.intro | exact Or.inl rfl | exact Or.inr rfl | (show (_ : Int) = 0 ∨ _ = 1)) | rfl | with_reducible exact Or.inl rfl | with_reducible exact Or.inr rfl | exact Nat.le_of_ble_eq_true rfl | refine And.intro ?_ ?_ | intro _)
    all_goals (try simp (disch := omega) only [InI, Int.toNat_natCast, Int.tmod_eq_emod_of_nonneg, Int.tdiv_eq_ediv_of_nonneg, true_implies, true_or, or_true, mm_l18, mm_l19, mm_l20, mm_l21, mm_l22] at *)
    all_goals first | omega | exact qa _ _ (by assumption) | exact q1 (by assumption) | exact q2 (by assumption) | skip
  · exact h.elim
theorem me_L_cursorAdd {l : Launch} (hl : l.stackTraces = false) : mm_Met l yL_cursorAdd cL_cursorAdd 4 (some .int) [(0, 10, 13, 19)] 12 231 1 sp_L_cursorAdd := mm_mtH rn_L_cursorAdd ⟨by decide, rfl⟩ kkL_cursorAdd rfl (by decide) (⟨mm_pe (me_X3_cursorAdd hl) mwX3_cursorAdd (mm_t6 21 rfl rfl) (Nat.le_of_ble_eq_true rfl) (Nat.le_of_ble_eq_true rfl), trivial⟩)
def sp_L_house : mm_S := fun av M d Q => match av with
  | [.inr (.inr (.inl x)), .inl p0, .inr (.inr (.inl o))] =>  x = 1 ∧ o = 23 ∧ wA M ∧ InI p0 ∧ ∀ M1 M' e r, hlP M M1 M' e r → C_house p0 M M1 e r → Q (.inl (some (mm_I e))) M' d
  | _ => False
def ct_L_house : List (Nat × mm_Ca) := [(132, (0, 2, 10, sp_X3_house, 1))]
abbrev rr_L_house (Q : mm_Q) := mm_run (mm_look flL) (mm_look ct_L_house) mm_x0 (mm_look ([] : List (Nat × Int))) (fun _ => none) 1 1 (mm_hn [(0, 10, 13, 24)]) Q kdL_house
set_option maxRecDepth 20000 in
theorem rn_L_house : mm_RNH flL ct_L_house [] [(0, 10, 13, 24)] 1 1 4 kdL_house sp_L_house := by
  intro av M d Q h
  unfold sp_L_house at h
  split at h
  · rename_i x p0 o
    obtain ⟨rfl, rfl, ha, h0, hq⟩ := h
    have q1 : C_house p0 M M 1 0 → Q (.inl (some (mm_I 1))) M d := fun hc => hq M M 1 0 (hlP_1 ha (by omega)) hc
    have q2 : C_house p0 M M 2 0 → Q (.inl (some (mm_I 2))) M d := fun hc => hq M M 2 0 (hlP_1 ha (by omega)) hc
    have qa := fun (r : Int) (h : C_house p0 M M 0 r) => hq M _ 0 r (hlP_0 (r := r) ha.rf) h
    clear hq
    obtain ⟨K, hK, hK2⟩ : ∃ K : Nat → mm_K, (∀ t ls st M d u, K t ls st M d u → rr_L_house Q t ls st M d u) ∧ (∀ t ls st M d u, rr_L_house Q t ls st M d u → K t ls st M d u) := ⟨rr_L_house Q, fun _ _ _ _ _ _ h => h, fun _ _ _ _ _ _ h => h⟩
    refine ⟨Nat.le_of_ble_eq_true rfl, mm_run_at (stop := []) (S := K) kkL_house 90 ?_ (fun _ _ _ _ _ _ _ h => hK _ _ _ _ _ _ h)⟩
    repeat' (first | with_reducible assumption | with_reducible exact True.intro | with_reducible exact mm_i1 | with_reducible exact mm_i17 | with_reducible exact mm_i23 | ((with_reducible show mm_rv _ _ _ _ _); first | exact True.intro | exact mm_i1 | exact mm_i17 | exact mm_i23 | refine mm_k1 ?_) | refine mm_k1 ?_ | ((with_reducible show mm_bool _ _); first | exact True.intro | exact Or.inl rfl | exact Or.inr rfl | (show (_ : Int) = 0 ∨ _ = 1)) | rfl | with_reducible exact Or.inl rfl | with_reducible exact Or.inr rfl | exact Nat.le_of_ble_eq_true rfl | refine And.intro ?_ ?_ | intro _)
    all_goals (try simp (disch := omega) only [InI, Int.toNat_natCast, Int.tmod_eq_emod_of_nonneg, Int.tdiv_eq_ediv_of_nonneg, true_implies, true_or, or_true, mm_l18, mm_l19, mm_l20, mm_l21, mm_l22] at *)
    all_goals first | omega | exact qa _ (by assumption) | exact q1 (by assumption) | exact q2 (by assumption) | skip
  · exact h.elim
theorem me_L_house {l : Launch} (hl : l.stackTraces = false) : mm_Met l yL_house cL_house 4 (some .int) [(0, 10, 13, 24)] 8 143 1 sp_L_house := mm_mtH rn_L_house ⟨by decide, rfl⟩ kkL_house rfl (by decide) (⟨mm_pe (me_X3_house hl) mwX3_house (mm_t6 37 rfl rfl) (Nat.le_of_ble_eq_true rfl) (Nat.le_of_ble_eq_true rfl), trivial⟩)

