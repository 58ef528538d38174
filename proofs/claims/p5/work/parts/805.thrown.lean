/-! the model: what a call has thrown -/
def sp_X5_thrown : mm_S := fun av M d Q => match av with
  | [.inr (.inr (.inl o))] =>  o = 17 ∧ Q (.inl (some (mm_I (M 17 0)))) M d
  | _ => False
def ct_X5_thrown : List (Nat × mm_Ca) := []
abbrev rr_X5_thrown (Q : mm_Q) := mm_run (mm_look flX5) (mm_look ct_X5_thrown) mm_x0 (mm_look ([] : List (Nat × Int))) (fun _ => none) 1 0 (fun _ _ => none) Q kdX5_thrown
set_option maxRecDepth 20000 in
theorem rn_X5_thrown : mm_RN flX5 ct_X5_thrown mm_x0 [] 1 0 1 kdX5_thrown sp_X5_thrown := by
  intro av M d Q h
  unfold sp_X5_thrown at h
  split at h
  · rename_i o
    obtain ⟨rfl, hq⟩ := h
    obtain ⟨K, hK, hK2⟩ : ∃ K : Nat → mm_K, (∀ t ls st M d u, K t ls st M d u → rr_X5_thrown Q t ls st M d u) ∧ (∀ t ls st M d u, rr_X5_thrown Q t ls st M d u → K t ls st M d u) := ⟨rr_X5_thrown Q, fun _ _ _ _ _ _ h => h, fun _ _ _ _ _ _ h => h⟩
    refine ⟨Nat.le_of_ble_eq_true rfl, mm_run_at (stop := []) (S := K) kkX5_thrown 90 ?_ (fun _ _ _ _ _ _ _ h => hK _ _ _ _ _ _ h)⟩
    repeat' (first | with_reducible assumption | with_reducible exact True.intro | with_reducible exact mm_i17 | with_reducible exact mm_i18 | with_reducible exact mm_i19 | with_reducible exact mm_i20 | with_reducible exact mm_i21 | with_reducible exact mm_i22 | ((with_reducible show mm_rv _ _ _ _ _); first | exact True.intro | exact mm_i17 | exact mm_i18 | exact mm_i19 | exact mm_i20 | exact mm_i21 | exact mm_i22) | ((with_reducible show mm_bool _ _); first | exact True.intro | exact Or.inl rfl | exact Or.inr rfl | (show (_ : Int) = 0 ∨ _ = 1)) | rfl | with_reducible exact Or.inl rfl | with_reducible exact Or.inr rfl | exact Nat.le_of_ble_eq_true rfl | refine And.intro ?_ ?_ | intro _)
    all_goals (try simp (disch := omega) only [InI, Int.toNat_natCast, Int.tmod_eq_emod_of_nonneg, Int.tdiv_eq_ediv_of_nonneg, true_implies, true_or, or_true, mm_l18, mm_l19, mm_l20, mm_l21, mm_l22] at *)
    all_goals first | omega | skip
  · exact h.elim
theorem me_X5_thrown {l : Launch} (hl : l.stackTraces = false) : mm_Met l yX5_thrown cX5_thrown 1 (some .int) [] 6 100 0 sp_X5_thrown := mm_mt hl rn_X5_thrown ⟨by decide, rfl⟩ kkX5_thrown rfl ⟨by decide, by decide⟩ flkX5 (fun _ h => nomatch h) (trivial) (mm_xe0 _)

