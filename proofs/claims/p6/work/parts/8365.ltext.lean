/-! the law: its helper of texts -/
def sp_L_text : mm_S := fun av M d Q => match av with
  | [.inr (.inr (.inl x)), .inl p0, .inl p1, .inr (.inr (.inl o))] =>  x = 1 ∧ o = 23 ∧ wA M ∧ InI p0 ∧ InI p1 ∧ ∀ M' e, (∀ o, o ≠ 23 → M' o = M o) → Q (.inl (some (mm_I e))) M' d
  | _ => False
def ct_L_text : List (Nat × mm_Ca) := [(112, (0, 3, 10, sp_X3_textF, 1215))]
abbrev rr_L_text (Q : mm_Q) := mm_run (mm_look flL) (mm_look ct_L_text) mm_x0 (mm_look ([] : List (Nat × Int))) (fun _ => none) 1 1215 (mm_hn [(0, 10, 13, 19), (0, 10, 17, 24)]) Q kdL_text
set_option maxRecDepth 20000 in
theorem rn_L_text : mm_RNH flL ct_L_text [] [(0, 10, 13, 19), (0, 10, 17, 24)] 1 1215 5 kdL_text sp_L_text := by
  intro av M d Q h
  unfold sp_L_text at h
  split at h
  · rename_i x p0 p1 o
    obtain ⟨rfl, rfl, ha, h0, h1, hq⟩ := h
    have q1 := fun e => hq M e (fun _ _ => rfl)
    have qc := fun x => hq (mm_up M 23 1 x) 0 (fun o ho => mm_up_o _ ho)
    clear hq
    obtain ⟨K, hK, hK2⟩ : ∃ K : Nat → mm_K, (∀ t ls st M d u, K t ls st M d u → rr_L_text Q t ls st M d u) ∧ (∀ t ls st M d u, rr_L_text Q t ls st M d u → K t ls st M d u) := ⟨rr_L_text Q, fun _ _ _ _ _ _ h => h, fun _ _ _ _ _ _ h => h⟩
    refine ⟨Nat.le_of_ble_eq_true rfl, mm_run_at (stop := []) (S := K) kkL_text 90 ?_ (fun _ _ _ _ _ _ _ h => hK _ _ _ _ _ _ h)⟩
    repeat' (first | with_reducible assumption | with_reducible exact True.intro | with_reducible exact mm_i1 | with_reducible exact mm_i17 | with_reducible exact mm_i23 | ((with_reducible show mm_rv _ _ _ _ _); first | exact True.intro | exact mm_i1 | exact mm_i17 | exact mm_i23 | refine mm_k3 ?_) | refine mm_k3 ?_ | ((with_reducible show mm_bool _ _); first | exact True.intro | exact Or.inl rfl | exact Or.inr rfl | (show (_ : Int) = 0 ∨ _ = 1)) | rfl | with_reducible exact Or.inl rfl | with_reducible exact Or.inr rfl | exact Nat.le_of_ble_eq_true rfl | refine And.intro ?_ ?_ | intro _)
    all_goals (try simp (disch := omega) only [InI, Int.toNat_natCast, Int.tmod_eq_emod_of_nonneg, Int.tdiv_eq_ediv_of_nonneg, true_implies, true_or, or_true, mm_l18, mm_l19, mm_l20, mm_l21, mm_l22] at *)
    all_goals first | omega | exact qc _ | exact q1 _ | skip
  · exact h.elim
theorem me_L_text {l : Launch} (hl : l.stackTraces = false) : mm_Met l yL_text cL_text 5 (some .int) [(0, 10, 13, 19), (0, 10, 17, 24)] 13 258 1215 sp_L_text := mm_mtH rn_L_text ⟨by decide, rfl⟩ kkL_text rfl (by decide) (⟨mm_pe (me_X3_textF hl) mwX3_text (mm_t4 183 rfl rfl) (Nat.le_of_ble_eq_true rfl) (Nat.le_of_ble_eq_true rfl), trivial⟩)

