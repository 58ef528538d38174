section
/-! the model: plain methods -/
/-- the model's town is in order -/
def tX (M : mm_M) : Prop := (0 ≤ M 17 1 ∧ M 17 1 ≤ 30) ∧ (∀ i : Nat, i < 30 → (0 ≤ M 18 i ∧ M 18 i < 10) ∧ (0 ≤ M 19 i ∧ M 19 i < 10)) ∧ (M 17 4 = 0 ∨ M 17 4 = 1) ∧ (0 ≤ M 17 5 ∧ M 17 5 ≤ 5) ∧ (0 ≤ M 17 6 ∧ M 17 6 ≤ 4)
def lvX (M : mm_M) (s c : Int) : Int := if M 18 s.toNat = c then 2 * s else if M 17 4 = 0 ∧ M 19 s.toNat = c then 2 * s + 1 else -1
def cmX (M : mm_M) (s c : Int) : Int := if M 19 s.toNat = c then 2 * s else if M 17 4 = 0 ∧ M 18 s.toNat = c then 2 * s + 1 else -1
def glX (M : mm_M) (s : Int) : Int := if s % 2 = 0 then M 19 (s / 2).toNat else M 18 (s / 2).toNat
def srX (M : mm_M) (s : Int) : Int := if s % 2 = 0 then M 18 (s / 2).toNat else M 19 (s / 2).toNat
def sp_X5_act : mm_S := fun av M d Q => match av with
  | [.inr (.inr (.inl o)), .inl r] =>  o = 17 ∧ Q (.inl (some (mm_I r))) (mm_up M 17 14 (M 17 14 + 1)) d
  | _ => False
def ct_X5_act : List (Nat × mm_Ca) := []
abbrev rr_X5_act (Q : mm_Q) := mm_run (mm_look flX5) (mm_look ct_X5_act) mm_x0 (mm_look ([] : List (Nat × Int))) (fun _ => none) 1 0 (fun _ _ => none) Q kdX5_act
set_option maxRecDepth 20000 in
theorem rn_X5_act : mm_RN flX5 ct_X5_act mm_x0 [] 1 0 2 kdX5_act sp_X5_act := by
  intro av M d Q h
  unfold sp_X5_act at h
  split at h
  · rename_i o r
    obtain ⟨rfl, hq⟩ := h
    obtain ⟨K, hK, hK2⟩ : ∃ K : Nat → mm_K, (∀ t ls st M d u, K t ls st M d u → rr_X5_act Q t ls st M d u) ∧ (∀ t ls st M d u, rr_X5_act Q t ls st M d u → K t ls st M d u) := ⟨rr_X5_act Q, fun _ _ _ _ _ _ h => h, fun _ _ _ _ _ _ h => h⟩
    refine ⟨Nat.le_of_ble_eq_true rfl, mm_run_at (stop := []) (S := K) kkX5_act 90 ?_ (fun _ _ _ _ _ _ _ h => hK _ _ _ _ _ _ h)⟩
    repeat' (first | with_reducible assumption | with_reducible exact mm_i17 | with_reducible exact mm_i18 | with_reducible exact mm_i19 | with_reducible exact mm_i20 | with_reducible exact mm_i21 | with_reducible exact mm_i22 | ((with_reducible show mm_rv _ _ _ _ _); first | exact True.intro | exact mm_i17 | exact mm_i18 | exact mm_i19 | exact mm_i20 | exact mm_i21 | exact mm_i22) | ((with_reducible show mm_bool _ _); first | exact True.intro | exact Or.inl rfl | exact Or.inr rfl | (show (_ : Int) = 0 ∨ _ = 1)) | refine And.intro ?_ ?_ | intro _ | with_reducible exact True.intro | exact rfl | with_reducible exact Or.inl rfl | with_reducible exact Or.inr rfl | exact Nat.le_of_ble_eq_true rfl)
    all_goals (try simp (disch := omega) only [InI, Int.toNat_natCast, Int.tmod_eq_emod_of_nonneg, Int.tdiv_eq_ediv_of_nonneg, true_implies, true_or, or_true, mm_l18, mm_l19, mm_l20, mm_l21, mm_l22] at *)
    all_goals first | omega | exact hq | skip
  · exact h.elim
theorem plX5 : plainName RX5 = true := by decide
theorem n9X5 : ∀ q ∈ flX5, q.2.2 < 90 := by decide
theorem me_X5_act {l : Launch} (hl : l.stackTraces = false) : mm_Met l yX5_act cX5_act 2 (some .int) [] 6 100 0 sp_X5_act := mm_mt hl rn_X5_act ⟨plX5, rfl⟩ kkX5_act rfl ⟨Nat.le_of_ble_eq_true rfl, Nat.le_of_ble_eq_true rfl⟩ flkX5 (fun _ h => nomatch h) (trivial) (mm_xe0 _) n9X5
def sp_X5_cannot : mm_S := fun av M d Q => match av with
  | [.inr (.inr (.inl o))] =>  o = 17 ∧ Q (.inl (some (mm_I (-9)))) (mm_up M 17 15 (M 17 15 + 1)) d
  | _ => False
def ct_X5_cannot : List (Nat × mm_Ca) := []
abbrev rr_X5_cannot (Q : mm_Q) := mm_run (mm_look flX5) (mm_look ct_X5_cannot) mm_x0 (mm_look ([] : List (Nat × Int))) (fun _ => none) 1 0 (fun _ _ => none) Q kdX5_cannot
set_option maxRecDepth 20000 in
theorem rn_X5_cannot : mm_RN flX5 ct_X5_cannot mm_x0 [] 1 0 1 kdX5_cannot sp_X5_cannot := by
  intro av M d Q h
  unfold sp_X5_cannot at h
  split at h
  · rename_i o
    obtain ⟨rfl, hq⟩ := h
    obtain ⟨K, hK, hK2⟩ : ∃ K : Nat → mm_K, (∀ t ls st M d u, K t ls st M d u → rr_X5_cannot Q t ls st M d u) ∧ (∀ t ls st M d u, rr_X5_cannot Q t ls st M d u → K t ls st M d u) := ⟨rr_X5_cannot Q, fun _ _ _ _ _ _ h => h, fun _ _ _ _ _ _ h => h⟩
    refine ⟨Nat.le_of_ble_eq_true rfl, mm_run_at (stop := []) (S := K) kkX5_cannot 90 ?_ (fun _ _ _ _ _ _ _ h => hK _ _ _ _ _ _ h)⟩
    repeat' (first | with_reducible assumption | with_reducible exact mm_i17 | with_reducible exact mm_i18 | with_reducible exact mm_i19 | with_reducible exact mm_i20 | with_reducible exact mm_i21 | with_reducible exact mm_i22 | ((with_reducible show mm_rv _ _ _ _ _); first | exact True.intro | exact mm_i17 | exact mm_i18 | exact mm_i19 | exact mm_i20 | exact mm_i21 | exact mm_i22) | ((with_reducible show mm_bool _ _); first | exact True.intro | exact Or.inl rfl | exact Or.inr rfl | (show (_ : Int) = 0 ∨ _ = 1)) | refine And.intro ?_ ?_ | intro _ | with_reducible exact True.intro | exact rfl | with_reducible exact Or.inl rfl | with_reducible exact Or.inr rfl | exact Nat.le_of_ble_eq_true rfl)
    all_goals (try simp (disch := omega) only [InI, Int.toNat_natCast, Int.tmod_eq_emod_of_nonneg, Int.tdiv_eq_ediv_of_nonneg, true_implies, true_or, or_true, mm_l18, mm_l19, mm_l20, mm_l21, mm_l22] at *)
    all_goals first | omega | exact hq | skip
  · exact h.elim
theorem me_X5_cannot {l : Launch} (hl : l.stackTraces = false) : mm_Met l yX5_cannot cX5_cannot 1 (some .int) [] 6 100 0 sp_X5_cannot := mm_mt hl rn_X5_cannot ⟨plX5, rfl⟩ kkX5_cannot rfl ⟨Nat.le_of_ble_eq_true rfl, Nat.le_of_ble_eq_true rfl⟩ flkX5 (fun _ h => nomatch h) (trivial) (mm_xe0 _) n9X5
def sp_X5_add : mm_S := fun av M d Q => match av with
  | [.inr (.inl s), .inr (.inl v)] =>  Q (.inl (some (mm_L (s * 31 + v)))) M d
  | _ => False
def ct_X5_add : List (Nat × mm_Ca) := []
abbrev rr_X5_add (Q : mm_Q) := mm_run (mm_look flX5) (mm_look ct_X5_add) mm_x0 (mm_look ([(275, 31)] : List (Nat × Int))) (fun _ => none) 3 0 (fun _ _ => none) Q kdX5_add
set_option maxRecDepth 20000 in
theorem rn_X5_add : mm_RN flX5 ct_X5_add mm_x0 [(275, 31)] 3 0 4 kdX5_add sp_X5_add := by
  intro av M d Q h
  unfold sp_X5_add at h
  split at h
  · rename_i s v
    have hq := h
    obtain ⟨K, hK, hK2⟩ : ∃ K : Nat → mm_K, (∀ t ls st M d u, K t ls st M d u → rr_X5_add Q t ls st M d u) ∧ (∀ t ls st M d u, rr_X5_add Q t ls st M d u → K t ls st M d u) := ⟨rr_X5_add Q, fun _ _ _ _ _ _ h => h, fun _ _ _ _ _ _ h => h⟩
    refine ⟨Nat.le_of_ble_eq_true rfl, mm_run_at (stop := []) (S := K) kkX5_add 90 ?_ (fun _ _ _ _ _ _ _ h => hK _ _ _ _ _ _ h)⟩
    repeat' (first | with_reducible assumption | with_reducible exact mm_i17 | with_reducible exact mm_i18 | with_reducible exact mm_i19 | with_reducible exact mm_i20 | with_reducible exact mm_i21 | with_reducible exact mm_i22 | ((with_reducible show mm_rv _ _ _ _ _); first | exact True.intro | exact mm_i17 | exact mm_i18 | exact mm_i19 | exact mm_i20 | exact mm_i21 | exact mm_i22) | ((with_reducible show mm_bool _ _); first | exact True.intro | exact Or.inl rfl | exact Or.inr rfl | (show (_ : Int) = 0 ∨ _ = 1)) | refine And.intro ?_ ?_ | intro _ | with_reducible exact True.intro | exact rfl | with_reducible exact Or.inl rfl | with_reducible exact Or.inr rfl | exact Nat.le_of_ble_eq_true rfl)
    all_goals (try simp (disch := omega) only [InI, Int.toNat_natCast, Int.tmod_eq_emod_of_nonneg, Int.tdiv_eq_ediv_of_nonneg, true_implies, true_or, or_true, mm_l18, mm_l19, mm_l20, mm_l21, mm_l22] at *)
    all_goals first | omega | exact hq | skip
  · exact h.elim
theorem me_X5_add {l : Launch} (hl : l.stackTraces = false) : mm_Met l yX5_add cX5_add 4 (some .long) [] 6 100 0 sp_X5_add := mm_mt hl rn_X5_add ⟨plX5, rfl⟩ kkX5_add rfl ⟨Nat.le_of_ble_eq_true rfl, Nat.le_of_ble_eq_true rfl⟩ flkX5 ((by
  intro q hq
  simp only [List.mem_cons, List.not_mem_nil, or_false] at hq
  rcases hq with rfl
  · exact mm_T_U _ (mm_t8 59 rfl rfl))) (trivial) (mm_xe0 _) n9X5
def sp_X5_all : mm_S := fun av M d Q => match av with
  | [.inr (.inr (.inl o))] =>  o = 17 ∧ tX M ∧ ∀ r, r = 2 ^ (M 17 1).toNat - 1 ∧ 0 ≤ r ∧ r < 1073741824 → Q (.inl (some (mm_I r))) M d
  | _ => False
def ct_X5_all : List (Nat × mm_Ca) := []
abbrev rr_X5_all (Q : mm_Q) := mm_run (mm_look flX5) (mm_look ct_X5_all) mm_x0 (mm_look ([] : List (Nat × Int))) (fun _ => none) 1 0 (fun _ _ => none) Q kdX5_all
set_option maxRecDepth 20000 in
theorem rn_X5_all : mm_RN flX5 ct_X5_all mm_x0 [] 1 0 1 kdX5_all sp_X5_all := by
  intro av M d Q h
  unfold sp_X5_all at h
  split at h
  · rename_i o
    obtain ⟨rfl, ht, hq⟩ := h
    have h1 := ht.1
    have h2 := pw_le (k := (M 17 1).toNat) (n := 30) (by omega)
    have h3 := pw_lt (k := (M 17 1).toNat) (by omega)
    have e1 := Int.one_mul (2 ^ (M 17 1).toNat)
    have hq := fun r h4 => hq r ⟨h4, by omega, by omega⟩
    clear ht
    obtain ⟨K, hK, hK2⟩ : ∃ K : Nat → mm_K, (∀ t ls st M d u, K t ls st M d u → rr_X5_all Q t ls st M d u) ∧ (∀ t ls st M d u, rr_X5_all Q t ls st M d u → K t ls st M d u) := ⟨rr_X5_all Q, fun _ _ _ _ _ _ h => h, fun _ _ _ _ _ _ h => h⟩
    refine ⟨Nat.le_of_ble_eq_true rfl, mm_run_at (stop := []) (S := K) kkX5_all 90 ?_ (fun _ _ _ _ _ _ _ h => hK _ _ _ _ _ _ h)⟩
    repeat' (first | with_reducible assumption | with_reducible exact mm_i17 | with_reducible exact mm_i18 | with_reducible exact mm_i19 | with_reducible exact mm_i20 | with_reducible exact mm_i21 | with_reducible exact mm_i22 | ((with_reducible show mm_rv _ _ _ _ _); first | exact True.intro | exact mm_i17 | exact mm_i18 | exact mm_i19 | exact mm_i20 | exact mm_i21 | exact mm_i22) | ((with_reducible show mm_bool _ _); first | exact True.intro | exact Or.inl rfl | exact Or.inr rfl | (show (_ : Int) = 0 ∨ _ = 1)) | refine And.intro ?_ ?_ | intro _ | with_reducible exact True.intro | exact rfl | with_reducible exact Or.inl rfl | with_reducible exact Or.inr rfl | exact Nat.le_of_ble_eq_true rfl)
    all_goals (try simp (disch := omega) only [e1, InI, Int.toNat_natCast, Int.tmod_eq_emod_of_nonneg, Int.tdiv_eq_ediv_of_nonneg, true_implies, true_or, or_true, mm_l18, mm_l19, mm_l20, mm_l21, mm_l22] at *)
    all_goals first | omega | exact hq _ (by omega) | skip
  · exact h.elim
theorem me_X5_all {l : Launch} (hl : l.stackTraces = false) : mm_Met l yX5_all cX5_all 1 (some .int) [] 6 100 0 sp_X5_all := mm_mt hl rn_X5_all ⟨plX5, rfl⟩ kkX5_all rfl ⟨Nat.le_of_ble_eq_true rfl, Nat.le_of_ble_eq_true rfl⟩ flkX5 (fun _ h => nomatch h) (trivial) (mm_xe0 _) n9X5
def sp_X5_endWords : mm_S := fun av M d Q => match av with
  | [.inr (.inr (.inl o))] =>  o = 17 ∧ Q (.inl none) (mm_up (mm_up M 17 5 0) 17 6 0) d
  | _ => False
def ct_X5_endWords : List (Nat × mm_Ca) := []
abbrev rr_X5_endWords (Q : mm_Q) := mm_run (mm_look flX5) (mm_look ct_X5_endWords) mm_x0 (mm_look ([] : List (Nat × Int))) (fun _ => none) 0 0 (fun _ _ => none) Q kdX5_endWords
set_option maxRecDepth 20000 in
theorem rn_X5_endWords : mm_RN flX5 ct_X5_endWords mm_x0 [] 0 0 1 kdX5_endWords sp_X5_endWords := by
  intro av M d Q h
  unfold sp_X5_endWords at h
  split at h
  · rename_i o
    obtain ⟨rfl, hq⟩ := h
    obtain ⟨K, hK, hK2⟩ : ∃ K : Nat → mm_K, (∀ t ls st M d u, K t ls st M d u → rr_X5_endWords Q t ls st M d u) ∧ (∀ t ls st M d u, rr_X5_endWords Q t ls st M d u → K t ls st M d u) := ⟨rr_X5_endWords Q, fun _ _ _ _ _ _ h => h, fun _ _ _ _ _ _ h => h⟩
    refine ⟨Nat.le_of_ble_eq_true rfl, mm_run_at (stop := []) (S := K) kkX5_endWords 90 ?_ (fun _ _ _ _ _ _ _ h => hK _ _ _ _ _ _ h)⟩
    repeat' (first | with_reducible assumption | with_reducible exact mm_i17 | with_reducible exact mm_i18 | with_reducible exact mm_i19 | with_reducible exact mm_i20 | with_reducible exact mm_i21 | with_reducible exact mm_i22 | ((with_reducible show mm_rv _ _ _ _ _); first | exact True.intro | exact mm_i17 | exact mm_i18 | exact mm_i19 | exact mm_i20 | exact mm_i21 | exact mm_i22) | ((with_reducible show mm_bool _ _); first | exact True.intro | exact Or.inl rfl | exact Or.inr rfl | (show (_ : Int) = 0 ∨ _ = 1)) | refine And.intro ?_ ?_ | intro _ | with_reducible exact True.intro | exact rfl | with_reducible exact Or.inl rfl | with_reducible exact Or.inr rfl | exact Nat.le_of_ble_eq_true rfl)
    all_goals (try simp (disch := omega) only [InI, Int.toNat_natCast, Int.tmod_eq_emod_of_nonneg, Int.tdiv_eq_ediv_of_nonneg, true_implies, true_or, or_true, mm_l18, mm_l19, mm_l20, mm_l21, mm_l22] at *)
    all_goals first | omega | exact hq | skip
  · exact h.elim
theorem me_X5_endWords {l : Launch} (hl : l.stackTraces = false) : mm_Met l yX5_endWords cX5_endWords 1 none [] 6 100 0 sp_X5_endWords := mm_mt hl rn_X5_endWords ⟨plX5, rfl⟩ kkX5_endWords rfl ⟨Nat.le_of_ble_eq_true rfl, Nat.le_of_ble_eq_true rfl⟩ flkX5 (fun _ h => nomatch h) (trivial) (mm_xe0 _) n9X5
def sp_X5_streets : mm_S := fun av M d Q => match av with
  | [.inr (.inr (.inl o))] =>  o = 17 ∧ Q (.inl (some (mm_I (M 17 1)))) (mm_up M 17 0 0) d
  | _ => False
def ct_X5_streets : List (Nat × mm_Ca) := []
abbrev rr_X5_streets (Q : mm_Q) := mm_run (mm_look flX5) (mm_look ct_X5_streets) mm_x0 (mm_look ([] : List (Nat × Int))) (fun _ => none) 1 0 (fun _ _ => none) Q kdX5_streets
set_option maxRecDepth 20000 in
theorem rn_X5_streets : mm_RN flX5 ct_X5_streets mm_x0 [] 1 0 1 kdX5_streets sp_X5_streets := by
  intro av M d Q h
  unfold sp_X5_streets at h
  split at h
  · rename_i o
    obtain ⟨rfl, hq⟩ := h
    obtain ⟨K, hK, hK2⟩ : ∃ K : Nat → mm_K, (∀ t ls st M d u, K t ls st M d u → rr_X5_streets Q t ls st M d u) ∧ (∀ t ls st M d u, rr_X5_streets Q t ls st M d u → K t ls st M d u) := ⟨rr_X5_streets Q, fun _ _ _ _ _ _ h => h, fun _ _ _ _ _ _ h => h⟩
    refine ⟨Nat.le_of_ble_eq_true rfl, mm_run_at (stop := []) (S := K) kkX5_streets 90 ?_ (fun _ _ _ _ _ _ _ h => hK _ _ _ _ _ _ h)⟩
    repeat' (first | with_reducible assumption | with_reducible exact mm_i17 | with_reducible exact mm_i18 | with_reducible exact mm_i19 | with_reducible exact mm_i20 | with_reducible exact mm_i21 | with_reducible exact mm_i22 | ((with_reducible show mm_rv _ _ _ _ _); first | exact True.intro | exact mm_i17 | exact mm_i18 | exact mm_i19 | exact mm_i20 | exact mm_i21 | exact mm_i22) | ((with_reducible show mm_bool _ _); first | exact True.intro | exact Or.inl rfl | exact Or.inr rfl | (show (_ : Int) = 0 ∨ _ = 1)) | refine And.intro ?_ ?_ | intro _ | with_reducible exact True.intro | exact rfl | with_reducible exact Or.inl rfl | with_reducible exact Or.inr rfl | exact Nat.le_of_ble_eq_true rfl)
    all_goals first | exact hq | (simpa [mm_up] using hq) | omega
  · exact h.elim
theorem me_X5_streets {l : Launch} (hl : l.stackTraces = false) : mm_Met l yX5_streets cX5_streets 1 (some .int) [] 6 100 0 sp_X5_streets := mm_mt hl rn_X5_streets ⟨plX5, rfl⟩ kkX5_streets rfl ⟨Nat.le_of_ble_eq_true rfl, Nat.le_of_ble_eq_true rfl⟩ flkX5 (fun _ h => nomatch h) (trivial) (mm_xe0 _) n9X5
def sp_X5_one : mm_S := fun av M d Q => match av with
  | [.inl f] =>  (f = 0 ∨ f = 1) ∧ Q (.inl (some (mm_I f))) M d
  | _ => False
def ct_X5_one : List (Nat × mm_Ca) := []
abbrev rr_X5_one (Q : mm_Q) := mm_run (mm_look flX5) (mm_look ct_X5_one) mm_x0 (mm_look ([] : List (Nat × Int))) (fun _ => none) 1 0 (fun _ _ => none) Q kdX5_one
set_option maxRecDepth 20000 in
theorem rn_X5_one : mm_RN flX5 ct_X5_one mm_x0 [] 1 0 1 kdX5_one sp_X5_one := by
  intro av M d Q h
  unfold sp_X5_one at h
  split at h
  · rename_i f
    obtain ⟨h1, hq⟩ := h
    have q0 : f = 0 → Q (.inl (some (mm_I 0))) M d := fun h => by rw [h] at hq; exact hq
    have q1 : f = 1 → Q (.inl (some (mm_I 1))) M d := fun h => by rw [h] at hq; exact hq
    clear hq
    obtain ⟨K, hK, hK2⟩ : ∃ K : Nat → mm_K, (∀ t ls st M d u, K t ls st M d u → rr_X5_one Q t ls st M d u) ∧ (∀ t ls st M d u, rr_X5_one Q t ls st M d u → K t ls st M d u) := ⟨rr_X5_one Q, fun _ _ _ _ _ _ h => h, fun _ _ _ _ _ _ h => h⟩
    refine ⟨Nat.le_of_ble_eq_true rfl, mm_run_at (stop := []) (S := K) kkX5_one 90 ?_ (fun _ _ _ _ _ _ _ h => hK _ _ _ _ _ _ h)⟩
    repeat' (first | with_reducible assumption | with_reducible exact mm_i17 | with_reducible exact mm_i18 | with_reducible exact mm_i19 | with_reducible exact mm_i20 | with_reducible exact mm_i21 | with_reducible exact mm_i22 | ((with_reducible show mm_rv _ _ _ _ _); first | exact True.intro | exact mm_i17 | exact mm_i18 | exact mm_i19 | exact mm_i20 | exact mm_i21 | exact mm_i22) | ((with_reducible show mm_bool _ _); first | exact True.intro | exact Or.inl rfl | exact Or.inr rfl | (show (_ : Int) = 0 ∨ _ = 1)) | refine And.intro ?_ ?_ | intro _ | with_reducible exact True.intro | exact rfl | with_reducible exact Or.inl rfl | with_reducible exact Or.inr rfl | exact Nat.le_of_ble_eq_true rfl)
    all_goals (try simp (disch := omega) only [InI, Int.toNat_natCast, Int.tmod_eq_emod_of_nonneg, Int.tdiv_eq_ediv_of_nonneg, true_implies, true_or, or_true, mm_l18, mm_l19, mm_l20, mm_l21, mm_l22] at *)
    all_goals first | omega | exact q0 (by omega) | exact q1 (by omega) | skip
  · exact h.elim
theorem me_X5_one {l : Launch} (hl : l.stackTraces = false) : mm_Met l yX5_one cX5_one 1 (some .int) [] 6 100 0 sp_X5_one := mm_mt hl rn_X5_one ⟨plX5, rfl⟩ kkX5_one rfl ⟨Nat.le_of_ble_eq_true rfl, Nat.le_of_ble_eq_true rfl⟩ flkX5 (fun _ h => nomatch h) (trivial) (mm_xe0 _) n9X5
def sp_X5_isIn : mm_S := fun av M d Q => match av with
  | [.inl a, .inl b, .inl c] =>  InI a ∧ InI b ∧ InI c ∧ ∀ r, (b ≤ a ∧ a ≤ c → r = 1) ∧ (¬ (b ≤ a ∧ a ≤ c) → r = 0) → Q (.inl (some (mm_I r))) M d
  | _ => False
def ct_X5_isIn : List (Nat × mm_Ca) := []
abbrev rr_X5_isIn (Q : mm_Q) := mm_run (mm_look flX5) (mm_look ct_X5_isIn) mm_x0 (mm_look ([] : List (Nat × Int))) (fun _ => none) 2 0 (fun _ _ => none) Q kdX5_isIn
set_option maxRecDepth 20000 in
theorem rn_X5_isIn : mm_RN flX5 ct_X5_isIn mm_x0 [] 2 0 3 kdX5_isIn sp_X5_isIn := by
  intro av M d Q h
  unfold sp_X5_isIn at h
  split at h
  · rename_i a b c
    obtain ⟨h1, h2, h3, hq⟩ := h
    have q0 := fun h => hq 0 ⟨fun h2 => absurd h2 h, fun _ => rfl⟩
    have q1 := fun h => hq 1 ⟨fun _ => rfl, fun h2 => absurd h h2⟩
    clear hq
    obtain ⟨K, hK, hK2⟩ : ∃ K : Nat → mm_K, (∀ t ls st M d u, K t ls st M d u → rr_X5_isIn Q t ls st M d u) ∧ (∀ t ls st M d u, rr_X5_isIn Q t ls st M d u → K t ls st M d u) := ⟨rr_X5_isIn Q, fun _ _ _ _ _ _ h => h, fun _ _ _ _ _ _ h => h⟩
    refine ⟨Nat.le_of_ble_eq_true rfl, mm_run_at (stop := []) (S := K) kkX5_isIn 90 ?_ (fun _ _ _ _ _ _ _ h => hK _ _ _ _ _ _ h)⟩
    repeat' (first | with_reducible assumption | with_reducible exact mm_i17 | with_reducible exact mm_i18 | with_reducible exact mm_i19 | with_reducible exact mm_i20 | with_reducible exact mm_i21 | with_reducible exact mm_i22 | ((with_reducible show mm_rv _ _ _ _ _); first | exact True.intro | exact mm_i17 | exact mm_i18 | exact mm_i19 | exact mm_i20 | exact mm_i21 | exact mm_i22) | ((with_reducible show mm_bool _ _); first | exact True.intro | exact Or.inl rfl | exact Or.inr rfl | (show (_ : Int) = 0 ∨ _ = 1)) | refine And.intro ?_ ?_ | intro _ | with_reducible exact True.intro | exact rfl | with_reducible exact Or.inl rfl | with_reducible exact Or.inr rfl | exact Nat.le_of_ble_eq_true rfl)
    all_goals (try simp (disch := omega) only [InI, Int.toNat_natCast, Int.tmod_eq_emod_of_nonneg, Int.tdiv_eq_ediv_of_nonneg, true_implies, true_or, or_true, mm_l18, mm_l19, mm_l20, mm_l21, mm_l22] at *)
    all_goals first | omega | exact q0 (by omega) | exact q1 (by omega) | skip
  · exact h.elim
theorem me_X5_isIn {l : Launch} (hl : l.stackTraces = false) : mm_Met l yX5_isIn cX5_isIn 3 (some .boolean) [] 6 100 0 sp_X5_isIn := mm_mt hl rn_X5_isIn ⟨plX5, rfl⟩ kkX5_isIn rfl ⟨Nat.le_of_ble_eq_true rfl, Nat.le_of_ble_eq_true rfl⟩ flkX5 (fun _ h => nomatch h) (trivial) (mm_xe0 _) n9X5
def sp_X5_laid : mm_S := fun av M d Q => match av with
  | [.inr (.inr (.inl o)), .inl a, .inl b] =>  o = 17 ∧ tX M ∧ M 17 1 < 30 ∧ Q (.inl none) (mm_up (mm_up (mm_up M 18 (M 17 1).toNat a) 19 (M 17 1).toNat b) 17 1 (M 17 1 + 1)) d
  | _ => False
def ct_X5_laid : List (Nat × mm_Ca) := []
abbrev rr_X5_laid (Q : mm_Q) := mm_run (mm_look flX5) (mm_look ct_X5_laid) mm_x0 (mm_look ([] : List (Nat × Int))) (fun _ => none) 0 0 (fun _ _ => none) Q kdX5_laid
set_option maxRecDepth 20000 in
theorem rn_X5_laid : mm_RN flX5 ct_X5_laid mm_x0 [] 0 0 3 kdX5_laid sp_X5_laid := by
  intro av M d Q h
  unfold sp_X5_laid at h
  split at h
  · rename_i o a b
    obtain ⟨rfl, ht, hn, hq⟩ := h
    have h1 := ht.1
    have e1 : ∀ x y z : Int, mm_up (mm_up M 18 x.toNat y) 19 x.toNat z 17 1 = M 17 1 := fun x y z => by simp [mm_up]
    have e2 : ∀ x y : Int, mm_up M 18 x.toNat y 17 1 = M 17 1 := fun x y => by simp [mm_up]
    clear ht
    obtain ⟨K, hK, hK2⟩ : ∃ K : Nat → mm_K, (∀ t ls st M d u, K t ls st M d u → rr_X5_laid Q t ls st M d u) ∧ (∀ t ls st M d u, rr_X5_laid Q t ls st M d u → K t ls st M d u) := ⟨rr_X5_laid Q, fun _ _ _ _ _ _ h => h, fun _ _ _ _ _ _ h => h⟩
    refine ⟨Nat.le_of_ble_eq_true rfl, mm_run_at (stop := []) (S := K) kkX5_laid 90 ?_ (fun _ _ _ _ _ _ _ h => hK _ _ _ _ _ _ h)⟩
    repeat' (first | with_reducible assumption | with_reducible exact mm_i17 | with_reducible exact mm_i18 | with_reducible exact mm_i19 | with_reducible exact mm_i20 | with_reducible exact mm_i21 | with_reducible exact mm_i22 | ((with_reducible show mm_rv _ _ _ _ _); first | exact True.intro | exact mm_i17 | exact mm_i18 | exact mm_i19 | exact mm_i20 | exact mm_i21 | exact mm_i22) | ((with_reducible show mm_bool _ _); first | exact True.intro | exact Or.inl rfl | exact Or.inr rfl | (show (_ : Int) = 0 ∨ _ = 1)) | refine And.intro ?_ ?_ | intro _ | with_reducible exact True.intro | exact rfl | with_reducible exact Or.inl rfl | with_reducible exact Or.inr rfl | exact Nat.le_of_ble_eq_true rfl)
    all_goals (try simp (disch := omega) only [e1, e2, InI, Int.toNat_natCast, Int.tmod_eq_emod_of_nonneg, Int.tdiv_eq_ediv_of_nonneg, true_implies, true_or, or_true, mm_l18, mm_l19, mm_l20, mm_l21, mm_l22] at *)
    all_goals first | omega | exact hq | skip
  · exact h.elim
theorem me_X5_laid {l : Launch} (hl : l.stackTraces = false) : mm_Met l yX5_laid cX5_laid 3 none [] 6 100 0 sp_X5_laid := mm_mt hl rn_X5_laid ⟨plX5, rfl⟩ kkX5_laid rfl ⟨Nat.le_of_ble_eq_true rfl, Nat.le_of_ble_eq_true rfl⟩ flkX5 (fun _ h => nomatch h) (trivial) (mm_xe0 _) n9X5
def sp_X5_leaving : mm_S := fun av M d Q => match av with
  | [.inr (.inr (.inl o)), .inl s, .inl c] =>  o = 17 ∧ tX M ∧ (0 ≤ s ∧ s < M 17 1) ∧ InI c ∧ ∀ r, r = lvX M s c ∧ -1 ≤ r ∧ r < 2 * M 17 1 ∧ (0 ≤ r → r / 2 = s) → Q (.inl (some (mm_I r))) M d
  | _ => False
def ct_X5_leaving : List (Nat × mm_Ca) := []
abbrev rr_X5_leaving (Q : mm_Q) := mm_run (mm_look flX5) (mm_look ct_X5_leaving) mm_x0 (mm_look ([] : List (Nat × Int))) (fun _ => none) 1 0 (fun _ _ => none) Q kdX5_leaving
set_option maxRecDepth 20000 in
theorem rn_X5_leaving : mm_RN flX5 ct_X5_leaving mm_x0 [] 1 0 3 kdX5_leaving sp_X5_leaving := by
  intro av M d Q h
  unfold sp_X5_leaving at h
  split at h
  · rename_i o s c
    obtain ⟨rfl, ht, hs, hc, hq⟩ := h
    have h1 := ht.1
    have h3 := ht.2.2.1
    have h4 := ht.2.1 s.toNat (by omega)
    have qa : M 18 s.toNat = c → ∀ r, r = 2 * s → _ := fun h r hr => hq r ⟨by unfold lvX; rw [if_pos h]; exact hr, by omega, by omega, fun _ => by omega⟩
    have qb : M 18 s.toNat ≠ c → M 17 4 = 0 ∧ M 19 s.toNat = c → ∀ r, r = 2 * s + 1 → _ := fun h h2 r hr => hq r ⟨by unfold lvX; rw [if_neg h, if_pos h2]; exact hr, by omega, by omega, fun _ => by omega⟩
    have qc : M 18 s.toNat ≠ c → ¬ (M 17 4 = 0 ∧ M 19 s.toNat = c) → _ := fun h h2 => hq (-1) ⟨by unfold lvX; rw [if_neg h, if_neg h2], by omega, by omega, fun h => by omega⟩
    clear hq ht
    obtain ⟨K, hK, hK2⟩ : ∃ K : Nat → mm_K, (∀ t ls st M d u, K t ls st M d u → rr_X5_leaving Q t ls st M d u) ∧ (∀ t ls st M d u, rr_X5_leaving Q t ls st M d u → K t ls st M d u) := ⟨rr_X5_leaving Q, fun _ _ _ _ _ _ h => h, fun _ _ _ _ _ _ h => h⟩
    refine ⟨Nat.le_of_ble_eq_true rfl, mm_run_at (stop := []) (S := K) kkX5_leaving 90 ?_ (fun _ _ _ _ _ _ _ h => hK _ _ _ _ _ _ h)⟩
    repeat' (first | with_reducible assumption | with_reducible exact mm_i17 | with_reducible exact mm_i18 | with_reducible exact mm_i19 | with_reducible exact mm_i20 | with_reducible exact mm_i21 | with_reducible exact mm_i22 | ((with_reducible show mm_rv _ _ _ _ _); first | exact True.intro | exact mm_i17 | exact mm_i18 | exact mm_i19 | exact mm_i20 | exact mm_i21 | exact mm_i22) | ((with_reducible show mm_bool _ _); first | exact True.intro | exact Or.inl rfl | exact Or.inr rfl | (show (_ : Int) = 0 ∨ _ = 1)) | refine And.intro ?_ ?_ | intro _ | with_reducible exact True.intro | exact rfl | with_reducible exact Or.inl rfl | with_reducible exact Or.inr rfl | exact Nat.le_of_ble_eq_true rfl)
    all_goals (try simp (disch := omega) only [InI, Int.toNat_natCast, Int.tmod_eq_emod_of_nonneg, Int.tdiv_eq_ediv_of_nonneg, true_implies, true_or, or_true, mm_l18, mm_l19, mm_l20, mm_l21, mm_l22] at *)
    all_goals first | omega | exact qa (by omega) _ (by omega) | exact qb (by omega) (by omega) _ (by omega) | exact qc (by omega) (by omega) | skip
  · exact h.elim
theorem me_X5_leaving {l : Launch} (hl : l.stackTraces = false) : mm_Met l yX5_leaving cX5_leaving 3 (some .int) [] 6 100 0 sp_X5_leaving := mm_mt hl rn_X5_leaving ⟨plX5, rfl⟩ kkX5_leaving rfl ⟨Nat.le_of_ble_eq_true rfl, Nat.le_of_ble_eq_true rfl⟩ flkX5 (fun _ h => nomatch h) (trivial) (mm_xe0 _) n9X5
def sp_X5_coming : mm_S := fun av M d Q => match av with
  | [.inr (.inr (.inl o)), .inl s, .inl c] =>  o = 17 ∧ tX M ∧ (0 ≤ s ∧ s < M 17 1) ∧ InI c ∧ ∀ r, r = cmX M s c ∧ -1 ≤ r ∧ r < 2 * M 17 1 ∧ (0 ≤ r → r / 2 = s) → Q (.inl (some (mm_I r))) M d
  | _ => False
def ct_X5_coming : List (Nat × mm_Ca) := []
abbrev rr_X5_coming (Q : mm_Q) := mm_run (mm_look flX5) (mm_look ct_X5_coming) mm_x0 (mm_look ([] : List (Nat × Int))) (fun _ => none) 1 0 (fun _ _ => none) Q kdX5_coming
set_option maxRecDepth 20000 in
theorem rn_X5_coming : mm_RN flX5 ct_X5_coming mm_x0 [] 1 0 3 kdX5_coming sp_X5_coming := by
  intro av M d Q h
  unfold sp_X5_coming at h
  split at h
  · rename_i o s c
    obtain ⟨rfl, ht, hs, hc, hq⟩ := h
    have h1 := ht.1
    have h3 := ht.2.2.1
    have h4 := ht.2.1 s.toNat (by omega)
    have qa : M 19 s.toNat = c → ∀ r, r = 2 * s → _ := fun h r hr => hq r ⟨by unfold cmX; rw [if_pos h]; exact hr, by omega, by omega, fun _ => by omega⟩
    have qb : M 19 s.toNat ≠ c → M 17 4 = 0 ∧ M 18 s.toNat = c → ∀ r, r = 2 * s + 1 → _ := fun h h2 r hr => hq r ⟨by unfold cmX; rw [if_neg h, if_pos h2]; exact hr, by omega, by omega, fun _ => by omega⟩
    have qc : M 19 s.toNat ≠ c → ¬ (M 17 4 = 0 ∧ M 18 s.toNat = c) → _ := fun h h2 => hq (-1) ⟨by unfold cmX; rw [if_neg h, if_neg h2], by omega, by omega, fun h => by omega⟩
    clear hq ht
    obtain ⟨K, hK, hK2⟩ : ∃ K : Nat → mm_K, (∀ t ls st M d u, K t ls st M d u → rr_X5_coming Q t ls st M d u) ∧ (∀ t ls st M d u, rr_X5_coming Q t ls st M d u → K t ls st M d u) := ⟨rr_X5_coming Q, fun _ _ _ _ _ _ h => h, fun _ _ _ _ _ _ h => h⟩
    refine ⟨Nat.le_of_ble_eq_true rfl, mm_run_at (stop := []) (S := K) kkX5_coming 90 ?_ (fun _ _ _ _ _ _ _ h => hK _ _ _ _ _ _ h)⟩
    repeat' (first | with_reducible assumption | with_reducible exact mm_i17 | with_reducible exact mm_i18 | with_reducible exact mm_i19 | with_reducible exact mm_i20 | with_reducible exact mm_i21 | with_reducible exact mm_i22 | ((with_reducible show mm_rv _ _ _ _ _); first | exact True.intro | exact mm_i17 | exact mm_i18 | exact mm_i19 | exact mm_i20 | exact mm_i21 | exact mm_i22) | ((with_reducible show mm_bool _ _); first | exact True.intro | exact Or.inl rfl | exact Or.inr rfl | (show (_ : Int) = 0 ∨ _ = 1)) | refine And.intro ?_ ?_ | intro _ | with_reducible exact True.intro | exact rfl | with_reducible exact Or.inl rfl | with_reducible exact Or.inr rfl | exact Nat.le_of_ble_eq_true rfl)
    all_goals (try simp (disch := omega) only [InI, Int.toNat_natCast, Int.tmod_eq_emod_of_nonneg, Int.tdiv_eq_ediv_of_nonneg, true_implies, true_or, or_true, mm_l18, mm_l19, mm_l20, mm_l21, mm_l22] at *)
    all_goals first | omega | exact qa (by omega) _ (by omega) | exact qb (by omega) (by omega) _ (by omega) | exact qc (by omega) (by omega) | skip
  · exact h.elim
theorem me_X5_coming {l : Launch} (hl : l.stackTraces = false) : mm_Met l yX5_coming cX5_coming 3 (some .int) [] 6 100 0 sp_X5_coming := mm_mt hl rn_X5_coming ⟨plX5, rfl⟩ kkX5_coming rfl ⟨Nat.le_of_ble_eq_true rfl, Nat.le_of_ble_eq_true rfl⟩ flkX5 (fun _ h => nomatch h) (trivial) (mm_xe0 _) n9X5
def sp_X5_has : mm_S := fun av M d Q => match av with
  | [.inl a, .inl s] =>  (0 ≤ a ∧ a < 2147483648) ∧ (0 ≤ s ∧ s < 31) ∧ ∀ r, (bt a s.toNat = 1 → r = 1) ∧ (bt a s.toNat = 0 → r = 0) → Q (.inl (some (mm_I r))) M d
  | _ => False
def ct_X5_has : List (Nat × mm_Ca) := []
abbrev rr_X5_has (Q : mm_Q) := mm_run (mm_look flX5) (mm_look ct_X5_has) mm_x0 (mm_look ([] : List (Nat × Int))) (fun _ => none) 2 0 (fun _ _ => none) Q kdX5_has
set_option maxRecDepth 20000 in
theorem rn_X5_has : mm_RN flX5 ct_X5_has mm_x0 [] 2 0 2 kdX5_has sp_X5_has := by
  intro av M d Q h
  unfold sp_X5_has at h
  split at h
  · rename_i a s
    obtain ⟨ha, hs, hq⟩ := h
    have ea : mm_and (a / 2 ^ s.toNat) 1 = bt a s.toNat := mm_and1 (sh_in ha)
    have hb := bt_01 a s.toNat
    have q0 : bt a s.toNat = 0 → _ := fun h => hq 0 ⟨fun h2 => by omega, fun _ => rfl⟩
    have q1 : bt a s.toNat = 1 → _ := fun h => hq 1 ⟨fun _ => rfl, fun h2 => by omega⟩
    clear hq
    obtain ⟨K, hK, hK2⟩ : ∃ K : Nat → mm_K, (∀ t ls st M d u, K t ls st M d u → rr_X5_has Q t ls st M d u) ∧ (∀ t ls st M d u, rr_X5_has Q t ls st M d u → K t ls st M d u) := ⟨rr_X5_has Q, fun _ _ _ _ _ _ h => h, fun _ _ _ _ _ _ h => h⟩
    refine ⟨Nat.le_of_ble_eq_true rfl, mm_run_at (stop := []) (S := K) kkX5_has 90 ?_ (fun _ _ _ _ _ _ _ h => hK _ _ _ _ _ _ h)⟩
    repeat' (first | with_reducible assumption | with_reducible exact mm_i17 | with_reducible exact mm_i18 | with_reducible exact mm_i19 | with_reducible exact mm_i20 | with_reducible exact mm_i21 | with_reducible exact mm_i22 | ((with_reducible show mm_rv _ _ _ _ _); first | exact True.intro | exact mm_i17 | exact mm_i18 | exact mm_i19 | exact mm_i20 | exact mm_i21 | exact mm_i22) | ((with_reducible show mm_bool _ _); first | exact True.intro | exact Or.inl rfl | exact Or.inr rfl | (show (_ : Int) = 0 ∨ _ = 1)) | refine And.intro ?_ ?_ | intro _ | with_reducible exact True.intro | exact rfl | with_reducible exact Or.inl rfl | with_reducible exact Or.inr rfl | exact Nat.le_of_ble_eq_true rfl)
    all_goals (try simp (disch := omega) only [ea, InI, Int.toNat_natCast, Int.tmod_eq_emod_of_nonneg, Int.tdiv_eq_ediv_of_nonneg, true_implies, true_or, or_true, mm_l18, mm_l19, mm_l20, mm_l21, mm_l22] at *)
    all_goals first | omega | exact q0 (by omega) | exact q1 (by omega) | skip
  · exact h.elim
theorem me_X5_has {l : Launch} (hl : l.stackTraces = false) : mm_Met l yX5_has cX5_has 2 (some .boolean) [] 6 100 0 sp_X5_has := mm_mt hl rn_X5_has ⟨plX5, rfl⟩ kkX5_has rfl ⟨Nat.le_of_ble_eq_true rfl, Nat.le_of_ble_eq_true rfl⟩ flkX5 (fun _ h => nomatch h) (trivial) (mm_xe0 _) n9X5
def sp_X5_knock : mm_S := fun av M d Q => match av with
  | [.inr (.inr (.inl o))] =>  o = 17 ∧ Q (.inl (some (mm_I (M 17 16 + 1)))) (mm_up (mm_up M 17 0 0) 17 16 (M 17 16 + 1)) d
  | _ => False
def ct_X5_knock : List (Nat × mm_Ca) := []
abbrev rr_X5_knock (Q : mm_Q) := mm_run (mm_look flX5) (mm_look ct_X5_knock) mm_x0 (mm_look ([] : List (Nat × Int))) (fun _ => none) 1 0 (fun _ _ => none) Q kdX5_knock
set_option maxRecDepth 20000 in
theorem rn_X5_knock : mm_RN flX5 ct_X5_knock mm_x0 [] 1 0 1 kdX5_knock sp_X5_knock := by
  intro av M d Q h
  unfold sp_X5_knock at h
  split at h
  · rename_i o
    obtain ⟨rfl, hq⟩ := h
    obtain ⟨K, hK, hK2⟩ : ∃ K : Nat → mm_K, (∀ t ls st M d u, K t ls st M d u → rr_X5_knock Q t ls st M d u) ∧ (∀ t ls st M d u, rr_X5_knock Q t ls st M d u → K t ls st M d u) := ⟨rr_X5_knock Q, fun _ _ _ _ _ _ h => h, fun _ _ _ _ _ _ h => h⟩
    refine ⟨Nat.le_of_ble_eq_true rfl, mm_run_at (stop := []) (S := K) kkX5_knock 90 ?_ (fun _ _ _ _ _ _ _ h => hK _ _ _ _ _ _ h)⟩
    repeat' (first | with_reducible assumption | with_reducible exact mm_i17 | with_reducible exact mm_i18 | with_reducible exact mm_i19 | with_reducible exact mm_i20 | with_reducible exact mm_i21 | with_reducible exact mm_i22 | ((with_reducible show mm_rv _ _ _ _ _); first | exact True.intro | exact mm_i17 | exact mm_i18 | exact mm_i19 | exact mm_i20 | exact mm_i21 | exact mm_i22) | ((with_reducible show mm_bool _ _); first | exact True.intro | exact Or.inl rfl | exact Or.inr rfl | (show (_ : Int) = 0 ∨ _ = 1)) | refine And.intro ?_ ?_ | intro _ | with_reducible exact True.intro | exact rfl | with_reducible exact Or.inl rfl | with_reducible exact Or.inr rfl | exact Nat.le_of_ble_eq_true rfl)
    all_goals first | exact hq | (simpa [mm_up] using hq) | omega
  · exact h.elim
theorem me_X5_knock {l : Launch} (hl : l.stackTraces = false) : mm_Met l yX5_knock cX5_knock 1 (some .int) [] 6 100 0 sp_X5_knock := mm_mt hl rn_X5_knock ⟨plX5, rfl⟩ kkX5_knock rfl ⟨Nat.le_of_ble_eq_true rfl, Nat.le_of_ble_eq_true rfl⟩ flkX5 (fun _ h => nomatch h) (trivial) (mm_xe0 _) n9X5
def sp_X5_comesTo : mm_S := fun av M d Q => match av with
  | [.inr (.inr (.inl o)), .inl s] =>  o = 17 ∧ tX M ∧ (0 ≤ s ∧ s < 2 * M 17 1) ∧ ∀ r, r = glX M s ∧ 0 ≤ r ∧ r < 10 → Q (.inl (some (mm_I r))) M d
  | _ => False
def ct_X5_comesTo : List (Nat × mm_Ca) := []
abbrev rr_X5_comesTo (Q : mm_Q) := mm_run (mm_look flX5) (mm_look ct_X5_comesTo) mm_x0 (mm_look ([] : List (Nat × Int))) (fun _ => none) 1 0 (fun _ _ => none) Q kdX5_comesTo
set_option maxRecDepth 20000 in
theorem rn_X5_comesTo : mm_RN flX5 ct_X5_comesTo mm_x0 [] 1 0 2 kdX5_comesTo sp_X5_comesTo := by
  intro av M d Q h
  unfold sp_X5_comesTo at h
  split at h
  · rename_i o s
    obtain ⟨rfl, ht, hs, hq⟩ := h
    have h1 := ht.1
    have h4 := ht.2.1 (s / 2).toNat (by omega)
    have g0 : s % 2 = 0 → Q (.inl (some (mm_I (M 19 (s / 2).toNat)))) M d := fun h => hq _ ⟨by unfold glX; rw [if_pos h], by omega, by omega⟩
    have g1 : s % 2 ≠ 0 → Q (.inl (some (mm_I (M 18 (s / 2).toNat)))) M d := fun h => hq _ ⟨by unfold glX; rw [if_neg h], by omega, by omega⟩
    clear hq ht
    obtain ⟨K, hK, hK2⟩ : ∃ K : Nat → mm_K, (∀ t ls st M d u, K t ls st M d u → rr_X5_comesTo Q t ls st M d u) ∧ (∀ t ls st M d u, rr_X5_comesTo Q t ls st M d u → K t ls st M d u) := ⟨rr_X5_comesTo Q, fun _ _ _ _ _ _ h => h, fun _ _ _ _ _ _ h => h⟩
    refine ⟨Nat.le_of_ble_eq_true rfl, mm_run_at (stop := []) (S := K) kkX5_comesTo 90 ?_ (fun _ _ _ _ _ _ _ h => hK _ _ _ _ _ _ h)⟩
    repeat' (first | with_reducible assumption | with_reducible exact mm_i17 | with_reducible exact mm_i18 | with_reducible exact mm_i19 | with_reducible exact mm_i20 | with_reducible exact mm_i21 | with_reducible exact mm_i22 | ((with_reducible show mm_rv _ _ _ _ _); first | exact True.intro | exact mm_i17 | exact mm_i18 | exact mm_i19 | exact mm_i20 | exact mm_i21 | exact mm_i22) | ((with_reducible show mm_bool _ _); first | exact True.intro | exact Or.inl rfl | exact Or.inr rfl | (show (_ : Int) = 0 ∨ _ = 1)) | refine And.intro ?_ ?_ | intro _ | with_reducible exact True.intro | exact rfl | with_reducible exact Or.inl rfl | with_reducible exact Or.inr rfl | exact Nat.le_of_ble_eq_true rfl)
    all_goals (try simp (disch := omega) only [InI, Int.toNat_natCast, Int.tmod_eq_emod_of_nonneg, Int.tdiv_eq_ediv_of_nonneg, true_implies, true_or, or_true, mm_l18, mm_l19, mm_l20, mm_l21, mm_l22] at *)
    all_goals first | omega | exact g0 (by omega) | exact g1 (by omega) | skip
  · exact h.elim
theorem me_X5_comesTo {l : Launch} (hl : l.stackTraces = false) : mm_Met l yX5_comesTo cX5_comesTo 2 (some .int) [] 6 100 0 sp_X5_comesTo := mm_mt hl rn_X5_comesTo ⟨plX5, rfl⟩ kkX5_comesTo rfl ⟨Nat.le_of_ble_eq_true rfl, Nat.le_of_ble_eq_true rfl⟩ flkX5 (fun _ h => nomatch h) (trivial) (mm_xe0 _) n9X5
def sp_X5_goesFrom : mm_S := fun av M d Q => match av with
  | [.inr (.inr (.inl o)), .inl s] =>  o = 17 ∧ tX M ∧ (0 ≤ s ∧ s < 2 * M 17 1) ∧ ∀ r, r = srX M s ∧ 0 ≤ r ∧ r < 10 → Q (.inl (some (mm_I r))) M d
  | _ => False
def ct_X5_goesFrom : List (Nat × mm_Ca) := []
abbrev rr_X5_goesFrom (Q : mm_Q) := mm_run (mm_look flX5) (mm_look ct_X5_goesFrom) mm_x0 (mm_look ([] : List (Nat × Int))) (fun _ => none) 1 0 (fun _ _ => none) Q kdX5_goesFrom
set_option maxRecDepth 20000 in
theorem rn_X5_goesFrom : mm_RN flX5 ct_X5_goesFrom mm_x0 [] 1 0 2 kdX5_goesFrom sp_X5_goesFrom := by
  intro av M d Q h
  unfold sp_X5_goesFrom at h
  split at h
  · rename_i o s
    obtain ⟨rfl, ht, hs, hq⟩ := h
    have h1 := ht.1
    have h4 := ht.2.1 (s / 2).toNat (by omega)
    have g0 : s % 2 = 0 → Q (.inl (some (mm_I (M 18 (s / 2).toNat)))) M d := fun h => hq _ ⟨by unfold srX; rw [if_pos h], by omega, by omega⟩
    have g1 : s % 2 ≠ 0 → Q (.inl (some (mm_I (M 19 (s / 2).toNat)))) M d := fun h => hq _ ⟨by unfold srX; rw [if_neg h], by omega, by omega⟩
    clear hq ht
    obtain ⟨K, hK, hK2⟩ : ∃ K : Nat → mm_K, (∀ t ls st M d u, K t ls st M d u → rr_X5_goesFrom Q t ls st M d u) ∧ (∀ t ls st M d u, rr_X5_goesFrom Q t ls st M d u → K t ls st M d u) := ⟨rr_X5_goesFrom Q, fun _ _ _ _ _ _ h => h, fun _ _ _ _ _ _ h => h⟩
    refine ⟨Nat.le_of_ble_eq_true rfl, mm_run_at (stop := []) (S := K) kkX5_goesFrom 90 ?_ (fun _ _ _ _ _ _ _ h => hK _ _ _ _ _ _ h)⟩
    repeat' (first | with_reducible assumption | with_reducible exact mm_i17 | with_reducible exact mm_i18 | with_reducible exact mm_i19 | with_reducible exact mm_i20 | with_reducible exact mm_i21 | with_reducible exact mm_i22 | ((with_reducible show mm_rv _ _ _ _ _); first | exact True.intro | exact mm_i17 | exact mm_i18 | exact mm_i19 | exact mm_i20 | exact mm_i21 | exact mm_i22) | ((with_reducible show mm_bool _ _); first | exact True.intro | exact Or.inl rfl | exact Or.inr rfl | (show (_ : Int) = 0 ∨ _ = 1)) | refine And.intro ?_ ?_ | intro _ | with_reducible exact True.intro | exact rfl | with_reducible exact Or.inl rfl | with_reducible exact Or.inr rfl | exact Nat.le_of_ble_eq_true rfl)
    all_goals (try simp (disch := omega) only [InI, Int.toNat_natCast, Int.tmod_eq_emod_of_nonneg, Int.tdiv_eq_ediv_of_nonneg, true_implies, true_or, or_true, mm_l18, mm_l19, mm_l20, mm_l21, mm_l22] at *)
    all_goals first | omega | exact g0 (by omega) | exact g1 (by omega) | skip
  · exact h.elim
theorem me_X5_goesFrom {l : Launch} (hl : l.stackTraces = false) : mm_Met l yX5_goesFrom cX5_goesFrom 2 (some .int) [] 6 100 0 sp_X5_goesFrom := mm_mt hl rn_X5_goesFrom ⟨plX5, rfl⟩ kkX5_goesFrom rfl ⟨Nat.le_of_ble_eq_true rfl, Nat.le_of_ble_eq_true rfl⟩ flkX5 (fun _ h => nomatch h) (trivial) (mm_xe0 _) n9X5
def sp_X5_refuse : mm_S := fun av M d Q => match av with
  | [.inr (.inr (.inl o)), .inl f, .inl k] =>  o = 17 ∧ (f = 0 ∨ f = 1) ∧ InI (M 17 0) ∧ InI k ∧ ∀ M' r, (M' = if f = 1 ∧ M 17 0 = 0 then mm_up M 17 0 k else M) ∧ (0 < M' 17 0 → r = 1) ∧ (M' 17 0 ≤ 0 → r = 0) → Q (.inl (some (mm_I r))) M' d
  | _ => False
def ct_X5_refuse : List (Nat × mm_Ca) := []
abbrev rr_X5_refuse (Q : mm_Q) := mm_run (mm_look flX5) (mm_look ct_X5_refuse) mm_x0 (mm_look ([] : List (Nat × Int))) (fun _ => none) 2 0 (fun _ _ => none) Q kdX5_refuse
set_option maxRecDepth 20000 in
theorem rn_X5_refuse : mm_RN flX5 ct_X5_refuse mm_x0 [] 2 0 3 kdX5_refuse sp_X5_refuse := by
  intro av M d Q h
  unfold sp_X5_refuse at h
  split at h
  · rename_i o f k
    obtain ⟨rfl, hf, h0, hk, hq⟩ := h
    have ek : mm_up M 17 0 k 17 0 = k := by simp [mm_up]
    have n0 : ¬ (f = 1 ∧ M 17 0 = 0) → M 17 0 ≤ 0 → Q (.inl (some (mm_I 0))) M d := fun h h2 => hq M 0 ⟨by rw [if_neg h], fun h3 => by omega, fun _ => rfl⟩
    have n1 : ¬ (f = 1 ∧ M 17 0 = 0) → 0 < M 17 0 → Q (.inl (some (mm_I 1))) M d := fun h h2 => hq M 1 ⟨by rw [if_neg h], fun _ => rfl, fun h3 => by omega⟩
    have y0 : f = 1 ∧ M 17 0 = 0 → k ≤ 0 → Q (.inl (some (mm_I 0))) (mm_up M 17 0 k) d := fun h h2 => hq _ 0 ⟨by rw [if_pos h], fun h3 => by omega, fun _ => rfl⟩
    have y1 : f = 1 ∧ M 17 0 = 0 → 0 < k → Q (.inl (some (mm_I 1))) (mm_up M 17 0 k) d := fun h h2 => hq _ 1 ⟨by rw [if_pos h], fun _ => rfl, fun h3 => by omega⟩
    clear hq
    obtain ⟨K, hK, hK2⟩ : ∃ K : Nat → mm_K, (∀ t ls st M d u, K t ls st M d u → rr_X5_refuse Q t ls st M d u) ∧ (∀ t ls st M d u, rr_X5_refuse Q t ls st M d u → K t ls st M d u) := ⟨rr_X5_refuse Q, fun _ _ _ _ _ _ h => h, fun _ _ _ _ _ _ h => h⟩
    refine ⟨Nat.le_of_ble_eq_true rfl, mm_run_at (stop := []) (S := K) kkX5_refuse 90 ?_ (fun _ _ _ _ _ _ _ h => hK _ _ _ _ _ _ h)⟩
    repeat' (first | with_reducible assumption | with_reducible exact mm_i17 | with_reducible exact mm_i18 | with_reducible exact mm_i19 | with_reducible exact mm_i20 | with_reducible exact mm_i21 | with_reducible exact mm_i22 | ((with_reducible show mm_rv _ _ _ _ _); first | exact True.intro | exact mm_i17 | exact mm_i18 | exact mm_i19 | exact mm_i20 | exact mm_i21 | exact mm_i22) | ((with_reducible show mm_bool _ _); first | exact True.intro | exact Or.inl rfl | exact Or.inr rfl | (show (_ : Int) = 0 ∨ _ = 1)) | refine And.intro ?_ ?_ | intro _ | with_reducible exact True.intro | exact rfl | with_reducible exact Or.inl rfl | with_reducible exact Or.inr rfl | exact Nat.le_of_ble_eq_true rfl)
    all_goals (try simp (disch := omega) only [ek, InI, Int.toNat_natCast, Int.tmod_eq_emod_of_nonneg, Int.tdiv_eq_ediv_of_nonneg, true_implies, true_or, or_true, mm_l18, mm_l19, mm_l20, mm_l21, mm_l22] at *)
    all_goals first | omega | exact n0 (by omega) (by omega) | exact n1 (by omega) (by omega) | exact y0 (by omega) (by omega) | exact y1 (by omega) (by omega) | skip
  · exact h.elim
theorem me_X5_refuse {l : Launch} (hl : l.stackTraces = false) : mm_Met l yX5_refuse cX5_refuse 3 (some .boolean) [] 6 100 0 sp_X5_refuse := mm_mt hl rn_X5_refuse ⟨plX5, rfl⟩ kkX5_refuse rfl ⟨Nat.le_of_ble_eq_true rfl, Nat.le_of_ble_eq_true rfl⟩ flkX5 (fun _ h => nomatch h) (trivial) (mm_xe0 _) n9X5
def sp_X5_between : mm_S := fun av M d Q => match av with
  | [.inr (.inr (.inl o)), .inl s, .inl a, .inl b] =>  o = 17 ∧ tX M ∧ (0 ≤ s ∧ s < M 17 1) ∧ InI a ∧ InI b ∧ ∀ r, (-1 ≤ r ∧ r < 2 * M 17 1 ∧ (0 ≤ r → r / 2 = s ∧ srX M r = a ∧ glX M r = b)) ∧ ((M 18 s.toNat = a ∧ M 19 s.toNat = b) → r = 2 * s) ∧ (¬ (M 18 s.toNat = a ∧ M 19 s.toNat = b) → (M 17 4 = 0 ∧ M 18 s.toNat = b ∧ M 19 s.toNat = a) → r = 2 * s + 1) ∧ (¬ (M 18 s.toNat = a ∧ M 19 s.toNat = b) → ¬ (M 17 4 = 0 ∧ M 18 s.toNat = b ∧ M 19 s.toNat = a) → r = -1) → Q (.inl (some (mm_I r))) M d
  | _ => False
def ct_X5_between : List (Nat × mm_Ca) := []
abbrev rr_X5_between (Q : mm_Q) := mm_run (mm_look flX5) (mm_look ct_X5_between) mm_x0 (mm_look ([] : List (Nat × Int))) (fun _ => none) 1 0 (fun _ _ => none) Q kdX5_between
set_option maxRecDepth 20000 in
theorem rn_X5_between : mm_RN flX5 ct_X5_between mm_x0 [] 1 0 4 kdX5_between sp_X5_between := by
  intro av M d Q h
  unfold sp_X5_between at h
  split at h
  · rename_i o s a b
    obtain ⟨rfl, ht, hs, ha, hb, hq⟩ := h
    have h1 := ht.1
    have h3 := ht.2.2.1
    have h4 := ht.2.1 s.toNat (by omega)
    have hn : ¬ (M 18 s.toNat = a ∧ M 19 s.toNat = b) → ¬ (M 17 4 = 0 ∧ M 18 s.toNat = b ∧ M 19 s.toNat = a) → Q (.inl (some (mm_I (-1)))) M d := fun g1 g2 => hq _ ⟨⟨by omega, by omega, fun h => by omega⟩, fun h => absurd h g1, fun _ h => absurd h g2, fun _ _ => rfl⟩
    have hA : M 18 s.toNat = a → M 19 s.toNat = b → Q (.inl (some (mm_I (2 * s)))) M d := fun e1 e2 => hq _ ⟨⟨by omega, by omega, fun _ => ⟨by omega, by unfold srX; rw [if_pos (by omega), show 2 * s / 2 = s by omega]; exact e1, by unfold glX; rw [if_pos (by omega), show 2 * s / 2 = s by omega]; exact e2⟩⟩, fun _ => rfl, fun h => absurd ⟨e1, e2⟩ h, fun h => absurd ⟨e1, e2⟩ h⟩
    have hB : ¬ (M 18 s.toNat = a ∧ M 19 s.toNat = b) → M 17 4 = 0 → M 18 s.toNat = b → M 19 s.toNat = a → Q (.inl (some (mm_I (2 * s + 1)))) M d := fun g e0 e1 e2 => hq _ ⟨⟨by omega, by omega, fun _ => ⟨by omega, by unfold srX; rw [if_neg (by omega), show (2 * s + 1) / 2 = s by omega]; exact e2, by unfold glX; rw [if_neg (by omega), show (2 * s + 1) / 2 = s by omega]; exact e1⟩⟩, fun h => absurd h g, fun _ _ => rfl, fun _ h => absurd ⟨e0, e1, e2⟩ h⟩
    clear hq
    obtain ⟨K, hK, hK2⟩ : ∃ K : Nat → mm_K, (∀ t ls st M d u, K t ls st M d u → rr_X5_between Q t ls st M d u) ∧ (∀ t ls st M d u, rr_X5_between Q t ls st M d u → K t ls st M d u) := ⟨rr_X5_between Q, fun _ _ _ _ _ _ h => h, fun _ _ _ _ _ _ h => h⟩
    refine ⟨Nat.le_of_ble_eq_true rfl, mm_run_at (stop := []) (S := K) kkX5_between 90 ?_ (fun _ _ _ _ _ _ _ h => hK _ _ _ _ _ _ h)⟩
    repeat' (first | with_reducible assumption | with_reducible exact mm_i17 | with_reducible exact mm_i18 | with_reducible exact mm_i19 | with_reducible exact mm_i20 | with_reducible exact mm_i21 | with_reducible exact mm_i22 | ((with_reducible show mm_rv _ _ _ _ _); first | exact True.intro | exact mm_i17 | exact mm_i18 | exact mm_i19 | exact mm_i20 | exact mm_i21 | exact mm_i22) | ((with_reducible show mm_bool _ _); first | exact True.intro | exact Or.inl rfl | exact Or.inr rfl | (show (_ : Int) = 0 ∨ _ = 1)) | refine And.intro ?_ ?_ | intro _ | with_reducible exact True.intro | exact rfl | with_reducible exact Or.inl rfl | with_reducible exact Or.inr rfl | exact Nat.le_of_ble_eq_true rfl)
    all_goals (try simp (disch := omega) only [InI, Int.toNat_natCast, Int.tmod_eq_emod_of_nonneg, Int.tdiv_eq_ediv_of_nonneg, true_implies, true_or, or_true, mm_l18, mm_l19, mm_l20, mm_l21, mm_l22] at *)
    all_goals first | omega | exact hA (by omega) (by omega) | exact hB (by omega) (by omega) (by omega) (by omega) | exact hn (by omega) (by omega) | skip
  · exact h.elim
theorem me_X5_between {l : Launch} (hl : l.stackTraces = false) : mm_Met l yX5_between cX5_between 4 (some .int) [] 6 100 0 sp_X5_between := mm_mt hl rn_X5_between ⟨plX5, rfl⟩ kkX5_between rfl ⟨Nat.le_of_ble_eq_true rfl, Nat.le_of_ble_eq_true rfl⟩ flkX5 (fun _ h => nomatch h) (trivial) (mm_xe0 _) n9X5
theorem or00 : mm_or 0 0 = 0 := by decide
theorem or01 : mm_or 0 1 = 1 := by decide
theorem or10 : mm_or 1 0 = 1 := by decide
theorem or11 : mm_or 1 1 = 1 := by decide
def sp_X5_isThere : mm_S := fun av M d Q => match av with
  | [.inr (.inr (.inl o))] =>  o = 17 ∧ InI (M 17 10) ∧ (M 17 13 = 0 ∨ M 17 13 = 1) ∧ ∀ r, ((M 17 10 ≠ -1 ∧ M 17 13 = 0) → r = 1) ∧ (¬ (M 17 10 ≠ -1 ∧ M 17 13 = 0) → r = 0) → Q (.inl (some (mm_I r))) M d
  | _ => False
def ct_X5_isThere : List (Nat × mm_Ca) := []
abbrev rr_X5_isThere (Q : mm_Q) := mm_run (mm_look flX5) (mm_look ct_X5_isThere) mm_x0 (mm_look ([] : List (Nat × Int))) (fun _ => none) 2 0 (fun _ _ => none) Q kdX5_isThere
set_option maxRecDepth 20000 in
theorem rn_X5_isThere : mm_RN flX5 ct_X5_isThere mm_x0 [] 2 0 1 kdX5_isThere sp_X5_isThere := by
  intro av M d Q h
  unfold sp_X5_isThere at h
  split at h
  · rename_i o
    obtain ⟨rfl, h1, h2, hq⟩ := h
    have hy : (M 17 10 ≠ -1 ∧ M 17 13 = 0) → Q (.inl (some (mm_I 1))) M d := fun h => hq 1 ⟨fun _ => rfl, fun h3 => absurd h h3⟩
    have hn : ¬ (M 17 10 ≠ -1 ∧ M 17 13 = 0) → Q (.inl (some (mm_I 0))) M d := fun h => hq 0 ⟨fun h3 => absurd h3 h, fun _ => rfl⟩
    clear hq
    obtain ⟨K, hK, hK2⟩ : ∃ K : Nat → mm_K, (∀ t ls st M d u, K t ls st M d u → rr_X5_isThere Q t ls st M d u) ∧ (∀ t ls st M d u, rr_X5_isThere Q t ls st M d u → K t ls st M d u) := ⟨rr_X5_isThere Q, fun _ _ _ _ _ _ h => h, fun _ _ _ _ _ _ h => h⟩
    refine ⟨Nat.le_of_ble_eq_true rfl, mm_run_at (stop := []) (S := K) kkX5_isThere 90 ?_ (fun _ _ _ _ _ _ _ h => hK _ _ _ _ _ _ h)⟩
    repeat' (first | with_reducible assumption | with_reducible exact mm_i17 | with_reducible exact mm_i18 | with_reducible exact mm_i19 | with_reducible exact mm_i20 | with_reducible exact mm_i21 | with_reducible exact mm_i22 | ((with_reducible show mm_rv _ _ _ _ _); first | exact True.intro | exact mm_i17 | exact mm_i18 | exact mm_i19 | exact mm_i20 | exact mm_i21 | exact mm_i22) | ((with_reducible show mm_bool _ _); first | exact True.intro | exact Or.inl rfl | exact Or.inr rfl | (show (_ : Int) = 0 ∨ _ = 1)) | refine And.intro ?_ ?_ | intro _ | with_reducible exact True.intro | exact rfl | with_reducible exact Or.inl rfl | with_reducible exact Or.inr rfl | exact Nat.le_of_ble_eq_true rfl)
    all_goals (try simp (disch := omega) only [InI, Int.toNat_natCast, Int.tmod_eq_emod_of_nonneg, Int.tdiv_eq_ediv_of_nonneg, true_implies, true_or, or_true, mm_l18, mm_l19, mm_l20, mm_l21, mm_l22] at *)
    all_goals first | omega | exact hy (by omega) | exact hn (by omega) | skip
  · exact h.elim
theorem me_X5_isThere {l : Launch} (hl : l.stackTraces = false) : mm_Met l yX5_isThere cX5_isThere 1 (some .boolean) [] 6 100 0 sp_X5_isThere := mm_mt hl rn_X5_isThere ⟨plX5, rfl⟩ kkX5_isThere rfl ⟨Nat.le_of_ble_eq_true rfl, Nat.le_of_ble_eq_true rfl⟩ flkX5 (fun _ h => nomatch h) (trivial) (mm_xe0 _) n9X5
def sp_X5_lose : mm_S := fun av M d Q => match av with
  | [.inr (.inr (.inl o)), .inl w] =>  o = 17 ∧ InI (M 17 10) ∧ InI w ∧ (M 17 13 = 0 ∨ M 17 13 = 1) ∧ Q (.inl none) (mm_up M 17 13 (if M 17 10 = w then 1 else M 17 13)) d
  | _ => False
def ct_X5_lose : List (Nat × mm_Ca) := []
abbrev rr_X5_lose (Q : mm_Q) := mm_run (mm_look flX5) (mm_look ct_X5_lose) mm_x0 (mm_look ([] : List (Nat × Int))) (fun _ => none) 0 0 (fun _ _ => none) Q kdX5_lose
set_option maxRecDepth 20000 in
theorem rn_X5_lose : mm_RN flX5 ct_X5_lose mm_x0 [] 0 0 2 kdX5_lose sp_X5_lose := by
  intro av M d Q h
  unfold sp_X5_lose at h
  split at h
  · rename_i o w
    obtain ⟨rfl, h1, h2, h3, hq⟩ := h
    have eo : mm_or (M 17 13) 0 = M 17 13 ∧ mm_or (M 17 13) 1 = 1 := by
      rcases h3 with h | h <;> rw [h]
      · exact ⟨or00, or01⟩
      · exact ⟨or10, or11⟩
    obtain ⟨eo0, eo1⟩ := eo
    have q0 : M 17 10 ≠ w → Q (.inl none) (mm_up M 17 13 (M 17 13)) d := fun h => by rw [if_neg h] at hq; exact hq
    have q1 : M 17 10 = w → Q (.inl none) (mm_up M 17 13 1) d := fun h => by rw [if_pos h] at hq; exact hq
    clear hq
    obtain ⟨K, hK, hK2⟩ : ∃ K : Nat → mm_K, (∀ t ls st M d u, K t ls st M d u → rr_X5_lose Q t ls st M d u) ∧ (∀ t ls st M d u, rr_X5_lose Q t ls st M d u → K t ls st M d u) := ⟨rr_X5_lose Q, fun _ _ _ _ _ _ h => h, fun _ _ _ _ _ _ h => h⟩
    refine ⟨Nat.le_of_ble_eq_true rfl, mm_run_at (stop := []) (S := K) kkX5_lose 90 ?_ (fun _ _ _ _ _ _ _ h => hK _ _ _ _ _ _ h)⟩
    repeat' (first | with_reducible assumption | with_reducible exact mm_i17 | with_reducible exact mm_i18 | with_reducible exact mm_i19 | with_reducible exact mm_i20 | with_reducible exact mm_i21 | with_reducible exact mm_i22 | ((with_reducible show mm_rv _ _ _ _ _); first | exact True.intro | exact mm_i17 | exact mm_i18 | exact mm_i19 | exact mm_i20 | exact mm_i21 | exact mm_i22) | ((with_reducible show mm_bool _ _); first | exact True.intro | exact Or.inl rfl | exact Or.inr rfl | (show (_ : Int) = 0 ∨ _ = 1)) | refine And.intro ?_ ?_ | intro _ | with_reducible exact True.intro | exact rfl | with_reducible exact Or.inl rfl | with_reducible exact Or.inr rfl | exact Nat.le_of_ble_eq_true rfl)
    all_goals (try simp (disch := omega) only [eo0, eo1, InI, Int.toNat_natCast, Int.tmod_eq_emod_of_nonneg, Int.tdiv_eq_ediv_of_nonneg, true_implies, true_or, or_true, mm_l18, mm_l19, mm_l20, mm_l21, mm_l22] at *)
    all_goals first | omega | exact q0 (by omega) | exact q1 (by omega) | skip
  · exact h.elim
theorem me_X5_lose {l : Launch} (hl : l.stackTraces = false) : mm_Met l yX5_lose cX5_lose 2 none [] 6 100 0 sp_X5_lose := mm_mt hl rn_X5_lose ⟨plX5, rfl⟩ kkX5_lose rfl ⟨Nat.le_of_ble_eq_true rfl, Nat.le_of_ble_eq_true rfl⟩ flkX5 (fun _ h => nomatch h) (trivial) (mm_xe0 _) n9X5
def sp_X5_houseOf : mm_S := fun av M d Q => match av with
  | [.inr (.inr (.inl o)), .inl w] =>  o = 17 ∧ InI w ∧ Q (.inl (some (mm_I (if w = 0 then M 17 14 else if w = 1 then M 17 15 else M 17 16)))) M d
  | _ => False
def ct_X5_houseOf : List (Nat × mm_Ca) := []
abbrev rr_X5_houseOf (Q : mm_Q) := mm_run (mm_look flX5) (mm_look ct_X5_houseOf) mm_x0 (mm_look ([] : List (Nat × Int))) (fun _ => none) 1 0 (fun _ _ => none) Q kdX5_houseOf
set_option maxRecDepth 20000 in
theorem rn_X5_houseOf : mm_RN flX5 ct_X5_houseOf mm_x0 [] 1 0 2 kdX5_houseOf sp_X5_houseOf := by
  intro av M d Q h
  unfold sp_X5_houseOf at h
  split at h
  · rename_i o w
    obtain ⟨rfl, h1, hq⟩ := h
    have q0 : w = 0 → Q (.inl (some (mm_I (M 17 14)))) M d := fun h => by rw [if_pos h] at hq; exact hq
    have q1 : w ≠ 0 → w = 1 → Q (.inl (some (mm_I (M 17 15)))) M d := fun h h2 => by rw [if_neg h, if_pos h2] at hq; exact hq
    have q2 : w ≠ 0 → w ≠ 1 → Q (.inl (some (mm_I (M 17 16)))) M d := fun h h2 => by rw [if_neg h, if_neg h2] at hq; exact hq
    clear hq
    obtain ⟨K, hK, hK2⟩ : ∃ K : Nat → mm_K, (∀ t ls st M d u, K t ls st M d u → rr_X5_houseOf Q t ls st M d u) ∧ (∀ t ls st M d u, rr_X5_houseOf Q t ls st M d u → K t ls st M d u) := ⟨rr_X5_houseOf Q, fun _ _ _ _ _ _ h => h, fun _ _ _ _ _ _ h => h⟩
    refine ⟨Nat.le_of_ble_eq_true rfl, mm_run_at (stop := []) (S := K) kkX5_houseOf 90 ?_ (fun _ _ _ _ _ _ _ h => hK _ _ _ _ _ _ h)⟩
    repeat' (first | with_reducible assumption | with_reducible exact mm_i17 | with_reducible exact mm_i18 | with_reducible exact mm_i19 | with_reducible exact mm_i20 | with_reducible exact mm_i21 | with_reducible exact mm_i22 | ((with_reducible show mm_rv _ _ _ _ _); first | exact True.intro | exact mm_i17 | exact mm_i18 | exact mm_i19 | exact mm_i20 | exact mm_i21 | exact mm_i22) | ((with_reducible show mm_bool _ _); first | exact True.intro | exact Or.inl rfl | exact Or.inr rfl | (show (_ : Int) = 0 ∨ _ = 1)) | refine And.intro ?_ ?_ | intro _ | with_reducible exact True.intro | exact rfl | with_reducible exact Or.inl rfl | with_reducible exact Or.inr rfl | exact Nat.le_of_ble_eq_true rfl)
    all_goals (try simp (disch := omega) only [InI, Int.toNat_natCast, Int.tmod_eq_emod_of_nonneg, Int.tdiv_eq_ediv_of_nonneg, true_implies, true_or, or_true, mm_l18, mm_l19, mm_l20, mm_l21, mm_l22] at *)
    all_goals first | omega | exact q0 (by omega) | exact q1 (by omega) (by omega) | exact q2 (by omega) (by omega) | skip
  · exact h.elim
theorem me_X5_houseOf {l : Launch} (hl : l.stackTraces = false) : mm_Met l yX5_houseOf cX5_houseOf 2 (some .int) [] 6 100 0 sp_X5_houseOf := mm_mt hl rn_X5_houseOf ⟨plX5, rfl⟩ kkX5_houseOf rfl ⟨Nat.le_of_ble_eq_true rfl, Nat.le_of_ble_eq_true rfl⟩ flkX5 (fun _ h => nomatch h) (trivial) (mm_xe0 _) n9X5
def sp_X5_isNoCorner : mm_S := fun av M d Q => match av with
  | [.inr (.inr (.inl o)), .inl c] =>  o = 17 ∧ InI c ∧ ∀ r, ((0 ≤ c ∧ c ≤ 9) → r = 0) ∧ (¬ (0 ≤ c ∧ c ≤ 9) → r = 1) → Q (.inl (some (mm_I r))) M d
  | _ => False
def ct_X5_isNoCorner : List (Nat × mm_Ca) := [(45, (1, 3, 0, sp_X5_isIn, 0))]
abbrev rr_X5_isNoCorner (Q : mm_Q) := mm_run (mm_look flX5) (mm_look ct_X5_isNoCorner) mm_x0 (mm_look ([] : List (Nat × Int))) (fun _ => none) 2 0 (fun _ _ => none) Q kdX5_isNoCorner
set_option maxRecDepth 20000 in
theorem rn_X5_isNoCorner : mm_RN flX5 ct_X5_isNoCorner mm_x0 [] 2 0 2 kdX5_isNoCorner sp_X5_isNoCorner := by
  intro av M d Q h
  unfold sp_X5_isNoCorner at h
  split at h
  · rename_i o c
    obtain ⟨rfl, h1, hq⟩ := h
    have i0 : InI (0 : Int) := ⟨by omega, by omega⟩
    skip
    have hI : InI (9) := ⟨by omega, by omega⟩
    have hy : (0 ≤ c ∧ c ≤ 9) → Q (.inl (some (mm_I 0))) M d := fun h => hq 0 ⟨fun _ => rfl, fun h3 => absurd h h3⟩
    have hn : ¬ (0 ≤ c ∧ c ≤ 9) → Q (.inl (some (mm_I 1))) M d := fun h => hq 1 ⟨fun h3 => absurd h3 h, fun _ => rfl⟩
    clear hq
    obtain ⟨K, hK, hK2⟩ : ∃ K : Nat → mm_K, (∀ t ls st M d u, K t ls st M d u → rr_X5_isNoCorner Q t ls st M d u) ∧ (∀ t ls st M d u, rr_X5_isNoCorner Q t ls st M d u → K t ls st M d u) := ⟨rr_X5_isNoCorner Q, fun _ _ _ _ _ _ h => h, fun _ _ _ _ _ _ h => h⟩
    refine ⟨Nat.le_of_ble_eq_true rfl, mm_run_at (stop := []) (S := K) kkX5_isNoCorner 90 ?_ (fun _ _ _ _ _ _ _ h => hK _ _ _ _ _ _ h)⟩
    repeat' (first | with_reducible assumption | with_reducible exact mm_i17 | with_reducible exact mm_i18 | with_reducible exact mm_i19 | with_reducible exact mm_i20 | with_reducible exact mm_i21 | with_reducible exact mm_i22 | ((with_reducible show mm_rv _ _ _ _ _); first | exact True.intro | exact mm_i17 | exact mm_i18 | exact mm_i19 | exact mm_i20 | exact mm_i21 | exact mm_i22) | ((with_reducible show mm_bool _ _); first | exact True.intro | exact Or.inl rfl | exact Or.inr rfl | (show (_ : Int) = 0 ∨ _ = 1)) | refine And.intro ?_ ?_ | intro _ | with_reducible exact True.intro | exact rfl | with_reducible exact Or.inl rfl | with_reducible exact Or.inr rfl | exact Nat.le_of_ble_eq_true rfl)
    all_goals (try simp (disch := omega) only [InI, Int.toNat_natCast, Int.tmod_eq_emod_of_nonneg, Int.tdiv_eq_ediv_of_nonneg, true_implies, true_or, or_true, mm_l18, mm_l19, mm_l20, mm_l21, mm_l22] at *)
    all_goals first | omega | exact hy (by omega) | exact hn (by omega) | skip
  · exact h.elim
theorem me_X5_isNoCorner {l : Launch} (hl : l.stackTraces = false) : mm_Met l yX5_isNoCorner cX5_isNoCorner 2 (some .boolean) [] 7 122 0 sp_X5_isNoCorner := mm_mt hl rn_X5_isNoCorner ⟨plX5, rfl⟩ kkX5_isNoCorner rfl ⟨Nat.le_of_ble_eq_true rfl, Nat.le_of_ble_eq_true rfl⟩ flkX5 (fun _ h => nomatch h) (⟨mm_pe (me_X5_isIn hl) mwX5_isIn (mm_t6 107 rfl rfl) (Nat.le_of_ble_eq_true rfl) (Nat.le_of_ble_eq_true rfl), trivial⟩) (mm_xe0 _) n9X5
def sp_X5_isNoWalk : mm_S := fun av M d Q => match av with
  | [.inr (.inr (.inl o)), .inl c] =>  o = 17 ∧ InI c ∧ ∀ r, ((0 ≤ c ∧ c ≤ 2) → r = 0) ∧ (¬ (0 ≤ c ∧ c ≤ 2) → r = 1) → Q (.inl (some (mm_I r))) M d
  | _ => False
def ct_X5_isNoWalk : List (Nat × mm_Ca) := [(45, (1, 3, 0, sp_X5_isIn, 0))]
abbrev rr_X5_isNoWalk (Q : mm_Q) := mm_run (mm_look flX5) (mm_look ct_X5_isNoWalk) mm_x0 (mm_look ([] : List (Nat × Int))) (fun _ => none) 2 0 (fun _ _ => none) Q kdX5_isNoWalk
set_option maxRecDepth 20000 in
theorem rn_X5_isNoWalk : mm_RN flX5 ct_X5_isNoWalk mm_x0 [] 2 0 2 kdX5_isNoWalk sp_X5_isNoWalk := by
  intro av M d Q h
  unfold sp_X5_isNoWalk at h
  split at h
  · rename_i o c
    obtain ⟨rfl, h1, hq⟩ := h
    have i0 : InI (0 : Int) := ⟨by omega, by omega⟩
    skip
    have hI : InI (2) := ⟨by omega, by omega⟩
    have hy : (0 ≤ c ∧ c ≤ 2) → Q (.inl (some (mm_I 0))) M d := fun h => hq 0 ⟨fun _ => rfl, fun h3 => absurd h h3⟩
    have hn : ¬ (0 ≤ c ∧ c ≤ 2) → Q (.inl (some (mm_I 1))) M d := fun h => hq 1 ⟨fun h3 => absurd h3 h, fun _ => rfl⟩
    clear hq
    obtain ⟨K, hK, hK2⟩ : ∃ K : Nat → mm_K, (∀ t ls st M d u, K t ls st M d u → rr_X5_isNoWalk Q t ls st M d u) ∧ (∀ t ls st M d u, rr_X5_isNoWalk Q t ls st M d u → K t ls st M d u) := ⟨rr_X5_isNoWalk Q, fun _ _ _ _ _ _ h => h, fun _ _ _ _ _ _ h => h⟩
    refine ⟨Nat.le_of_ble_eq_true rfl, mm_run_at (stop := []) (S := K) kkX5_isNoWalk 90 ?_ (fun _ _ _ _ _ _ _ h => hK _ _ _ _ _ _ h)⟩
    repeat' (first | with_reducible assumption | with_reducible exact mm_i17 | with_reducible exact mm_i18 | with_reducible exact mm_i19 | with_reducible exact mm_i20 | with_reducible exact mm_i21 | with_reducible exact mm_i22 | ((with_reducible show mm_rv _ _ _ _ _); first | exact True.intro | exact mm_i17 | exact mm_i18 | exact mm_i19 | exact mm_i20 | exact mm_i21 | exact mm_i22) | ((with_reducible show mm_bool _ _); first | exact True.intro | exact Or.inl rfl | exact Or.inr rfl | (show (_ : Int) = 0 ∨ _ = 1)) | refine And.intro ?_ ?_ | intro _ | with_reducible exact True.intro | exact rfl | with_reducible exact Or.inl rfl | with_reducible exact Or.inr rfl | exact Nat.le_of_ble_eq_true rfl)
    all_goals (try simp (disch := omega) only [InI, Int.toNat_natCast, Int.tmod_eq_emod_of_nonneg, Int.tdiv_eq_ediv_of_nonneg, true_implies, true_or, or_true, mm_l18, mm_l19, mm_l20, mm_l21, mm_l22] at *)
    all_goals first | omega | exact hy (by omega) | exact hn (by omega) | skip
  · exact h.elim
theorem me_X5_isNoWalk {l : Launch} (hl : l.stackTraces = false) : mm_Met l yX5_isNoWalk cX5_isNoWalk 2 (some .boolean) [] 7 122 0 sp_X5_isNoWalk := mm_mt hl rn_X5_isNoWalk ⟨plX5, rfl⟩ kkX5_isNoWalk rfl ⟨Nat.le_of_ble_eq_true rfl, Nat.le_of_ble_eq_true rfl⟩ flkX5 (fun _ h => nomatch h) (⟨mm_pe (me_X5_isIn hl) mwX5_isIn (mm_t6 107 rfl rfl) (Nat.le_of_ble_eq_true rfl) (Nat.le_of_ble_eq_true rfl), trivial⟩) (mm_xe0 _) n9X5
def sp_X5_isNoStreet : mm_S := fun av M d Q => match av with
  | [.inr (.inr (.inl o)), .inl c] =>  o = 17 ∧ InI c ∧ tX M ∧ ∀ r, ((0 ≤ c ∧ c < M 17 1) → r = 0) ∧ (¬ (0 ≤ c ∧ c < M 17 1) → r = 1) → Q (.inl (some (mm_I r))) M d
  | _ => False
def ct_X5_isNoStreet : List (Nat × mm_Ca) := [(45, (1, 3, 0, sp_X5_isIn, 0))]
abbrev rr_X5_isNoStreet (Q : mm_Q) := mm_run (mm_look flX5) (mm_look ct_X5_isNoStreet) mm_x0 (mm_look ([] : List (Nat × Int))) (fun _ => none) 2 0 (fun _ _ => none) Q kdX5_isNoStreet
set_option maxRecDepth 20000 in
theorem rn_X5_isNoStreet : mm_RN flX5 ct_X5_isNoStreet mm_x0 [] 2 0 2 kdX5_isNoStreet sp_X5_isNoStreet := by
  intro av M d Q h
  unfold sp_X5_isNoStreet at h
  split at h
  · rename_i o c
    obtain ⟨rfl, h1, ht, hq⟩ := h
    have i0 : InI (0 : Int) := ⟨by omega, by omega⟩
    have t1 := ht.1
    have hI : InI (M 17 1 - 1) := ⟨by omega, by omega⟩
    have hy : (0 ≤ c ∧ c < M 17 1) → Q (.inl (some (mm_I 0))) M d := fun h => hq 0 ⟨fun _ => rfl, fun h3 => absurd h h3⟩
    have hn : ¬ (0 ≤ c ∧ c < M 17 1) → Q (.inl (some (mm_I 1))) M d := fun h => hq 1 ⟨fun h3 => absurd h3 h, fun _ => rfl⟩
    clear hq
    obtain ⟨K, hK, hK2⟩ : ∃ K : Nat → mm_K, (∀ t ls st M d u, K t ls st M d u → rr_X5_isNoStreet Q t ls st M d u) ∧ (∀ t ls st M d u, rr_X5_isNoStreet Q t ls st M d u → K t ls st M d u) := ⟨rr_X5_isNoStreet Q, fun _ _ _ _ _ _ h => h, fun _ _ _ _ _ _ h => h⟩
    refine ⟨Nat.le_of_ble_eq_true rfl, mm_run_at (stop := []) (S := K) kkX5_isNoStreet 90 ?_ (fun _ _ _ _ _ _ _ h => hK _ _ _ _ _ _ h)⟩
    repeat' (first | with_reducible assumption | with_reducible exact mm_i17 | with_reducible exact mm_i18 | with_reducible exact mm_i19 | with_reducible exact mm_i20 | with_reducible exact mm_i21 | with_reducible exact mm_i22 | ((with_reducible show mm_rv _ _ _ _ _); first | exact True.intro | exact mm_i17 | exact mm_i18 | exact mm_i19 | exact mm_i20 | exact mm_i21 | exact mm_i22) | ((with_reducible show mm_bool _ _); first | exact True.intro | exact Or.inl rfl | exact Or.inr rfl | (show (_ : Int) = 0 ∨ _ = 1)) | refine And.intro ?_ ?_ | intro _ | with_reducible exact True.intro | exact rfl | with_reducible exact Or.inl rfl | with_reducible exact Or.inr rfl | exact Nat.le_of_ble_eq_true rfl)
    all_goals (try simp (disch := omega) only [InI, Int.toNat_natCast, Int.tmod_eq_emod_of_nonneg, Int.tdiv_eq_ediv_of_nonneg, true_implies, true_or, or_true, mm_l18, mm_l19, mm_l20, mm_l21, mm_l22] at *)
    all_goals first | omega | exact hy (by omega) | exact hn (by omega) | skip
  · exact h.elim
theorem me_X5_isNoStreet {l : Launch} (hl : l.stackTraces = false) : mm_Met l yX5_isNoStreet cX5_isNoStreet 2 (some .boolean) [] 7 122 0 sp_X5_isNoStreet := mm_mt hl rn_X5_isNoStreet ⟨plX5, rfl⟩ kkX5_isNoStreet rfl ⟨Nat.le_of_ble_eq_true rfl, Nat.le_of_ble_eq_true rfl⟩ flkX5 (fun _ h => nomatch h) (⟨mm_pe (me_X5_isIn hl) mwX5_isIn (mm_t6 107 rfl rfl) (Nat.le_of_ble_eq_true rfl) (Nat.le_of_ble_eq_true rfl), trivial⟩) (mm_xe0 _) n9X5
end
section
/-! the model's walks: walk k is the places from 30 k on of row 20, its length M 21 k, its begin M 22 k -/
def mV (M : mm_M) (k : Nat) : Prop := (0 ≤ M 21 k ∧ M 21 k ≤ 30) ∧ (0 ≤ M 22 k ∧ M 22 k < 10) ∧ ∀ i : Nat, i < M 21 k → 0 ≤ M 20 (30 * k + i) ∧ M 20 (30 * k + i) < 2 * M 17 1
def mD (M : mm_M) (k : Nat) : Prop := ∀ i j : Nat, i < M 21 k → j < M 21 k → M 20 (30 * k + i) / 2 = M 20 (30 * k + j) / 2 → i = j
def corX (M : mm_M) (k : Nat) (p : Int) : Int := if p = 0 then M 22 k else glX M (M 20 (30 * k + (p - 1).toNat))
def sp_X5_stepOf : mm_S := fun av M d Q => match av with
  | [.inr (.inr (.inl o)), .inl k, .inl i] =>  o = 17 ∧ (0 ≤ k ∧ k < 4) ∧ (0 ≤ i ∧ i < 30) ∧ Q (.inl (some (mm_I (M 20 (30 * k.toNat + i.toNat))))) M d
  | _ => False
def ct_X5_stepOf : List (Nat × mm_Ca) := []
abbrev rr_X5_stepOf (Q : mm_Q) := mm_run (mm_look flX5) (mm_look ct_X5_stepOf) mm_x0 (mm_look ([] : List (Nat × Int))) (fun _ => none) 1 0 (fun _ _ => none) Q kdX5_stepOf
set_option maxRecDepth 20000 in
theorem rn_X5_stepOf : mm_RN flX5 ct_X5_stepOf mm_x0 [] 1 0 3 kdX5_stepOf sp_X5_stepOf := by
  intro av M d Q h
  unfold sp_X5_stepOf at h
  split at h
  · rename_i o k i
    obtain ⟨rfl, hk, hi, hq⟩ := h
    refine ⟨Nat.le_of_ble_eq_true rfl, mm_run_at (stop := []) (S := mm_F0) kkX5_stepOf 80 ?_ mm_F0h⟩
    simp only [mm_wp, mm_op, mm_nxt, mm_jmp, mm_at, mm_in, mm_nth, mm_set, mm_ok, mm_isL, mm_ret, mm_isRet, mm_bool, mm_call, mm_push, mm_rv, mm_cats, mm_cat, mm_look, mm_ft, mm_fv, mm_pf, mm_thr, mm_ent, mm_pad, mm_fl, beq_self_eq_true, cond_true, cond_false, Nat.reduceBEq, Nat.reduceEqDiff, List.drop_succ_cons, List.drop_zero, List.take_succ_cons, List.take_zero, List.reverse_cons, List.reverse_nil, List.nil_append, List.cons_append, List.length_cons, List.length_nil, Nat.reduceAdd, Nat.reduceSub, Nat.reduceLeDiff, Bool.not_false, Bool.and_true, Bool.true_and, Nat.zero_add, true_and, and_true, Nat.le_refl, true_or, or_true, reduceCtorEq, Nat.add_zero, Nat.reduceLT, Bool.and_self, Bool.not_true, Fin.isValue, Nat.reduceLeDiff, List.take_nil, List.drop_nil, mm_i1, mm_i2, mm_i3, mm_i4, mm_i5, mm_i6, mm_i7, mm_i16, mm_i17, mm_i18, mm_i19, mm_i20, mm_i21, mm_i22, mm_i23, mm_l3, mm_l4, mm_l5, mm_l6, mm_l7, mm_l18, mm_l19, mm_l20, mm_l21, mm_l22, kdX5_stepOf, ct_X5_stepOf, flX5]
    have e : (k * 30 + i).toNat = 30 * k.toNat + i.toNat := by omega
    rw [e]
    refine ⟨by omega, by omega, hq⟩
  · exact h.elim
theorem me_X5_stepOf {l : Launch} (hl : l.stackTraces = false) : mm_Met l yX5_stepOf cX5_stepOf 3 (some .int) [] 6 100 0 sp_X5_stepOf := mm_mt hl rn_X5_stepOf ⟨plX5, rfl⟩ kkX5_stepOf rfl ⟨Nat.le_of_ble_eq_true rfl, Nat.le_of_ble_eq_true rfl⟩ flkX5 (fun _ h => nomatch h) (trivial) (mm_xe0 _) n9X5
def sp_X5_cornerOf : mm_S := fun av M d Q => match av with
  | [.inr (.inr (.inl o)), .inl k, .inl p] =>  o = 17 ∧ tX M ∧ (0 ≤ k ∧ k < 4) ∧ mV M k.toNat ∧ (0 ≤ p ∧ p ≤ M 21 k.toNat) ∧ ∀ r, r = corX M k.toNat p ∧ 0 ≤ r ∧ r < 10 → Q (.inl (some (mm_I r))) M d
  | _ => False
def ct_X5_cornerOf : List (Nat × mm_Ca) := [(98, (0, 3, 14, sp_X5_stepOf, 0)), (102, (0, 2, 14, sp_X5_comesTo, 0))]
abbrev rr_X5_cornerOf (Q : mm_Q) := mm_run (mm_look flX5) (mm_look ct_X5_cornerOf) mm_x0 (mm_look ([] : List (Nat × Int))) (fun _ => none) 1 0 (fun _ _ => none) Q kdX5_cornerOf
set_option maxRecDepth 20000 in
theorem rn_X5_cornerOf : mm_RN flX5 ct_X5_cornerOf mm_x0 [] 1 0 3 kdX5_cornerOf sp_X5_cornerOf := by
  intro av M d Q h
  unfold sp_X5_cornerOf at h
  split at h
  · rename_i o k p
    obtain ⟨rfl, ht, hk, hv, hp, hq⟩ := h
    have t1 := ht.1
    obtain ⟨v1, v2, v3⟩ := id hv
    refine ⟨Nat.le_of_ble_eq_true rfl, mm_run_at (stop := []) (S := mm_F0) kkX5_cornerOf 80 ?_ mm_F0h⟩
    simp only [mm_wp, mm_op, mm_nxt, mm_jmp, mm_at, mm_in, mm_nth, mm_set, mm_ok, mm_isL, mm_ret, mm_isRet, mm_bool, mm_call, mm_push, mm_rv, mm_cats, mm_cat, mm_look, mm_ft, mm_fv, mm_pf, mm_thr, mm_ent, mm_pad, mm_fl, beq_self_eq_true, cond_true, cond_false, Nat.reduceBEq, Nat.reduceEqDiff, List.drop_succ_cons, List.drop_zero, List.take_succ_cons, List.take_zero, List.reverse_cons, List.reverse_nil, List.nil_append, List.cons_append, List.length_cons, List.length_nil, Nat.reduceAdd, Nat.reduceSub, Nat.reduceLeDiff, Bool.not_false, Bool.and_true, Bool.true_and, Nat.zero_add, true_and, and_true, Nat.le_refl, true_or, or_true, reduceCtorEq, Nat.add_zero, Nat.reduceLT, Bool.and_self, Bool.not_true, Fin.isValue, Nat.reduceLeDiff, List.take_nil, List.drop_nil, mm_i1, mm_i2, mm_i3, mm_i4, mm_i5, mm_i6, mm_i7, mm_i16, mm_i17, mm_i18, mm_i19, mm_i20, mm_i21, mm_i22, mm_i23, mm_l3, mm_l4, mm_l5, mm_l6, mm_l7, mm_l18, mm_l19, mm_l20, mm_l21, mm_l22, kdX5_cornerOf, ct_X5_cornerOf, flX5, sp_X5_stepOf, sp_X5_comesTo]
    refine ⟨⟨by omega, by omega⟩, fun h => ⟨hk, by omega, ht, ?_, fun r hr => hq r ⟨?_, hr.2⟩⟩, fun h => ⟨by omega, hq _ ⟨?_, v2⟩⟩⟩
    · exact v3 (p - 1).toNat (by omega)
    · unfold corX
      rw [if_neg h]
      exact hr.1
    · unfold corX
      rw [if_pos h]
  · exact h.elim
theorem me_X5_cornerOf {l : Launch} (hl : l.stackTraces = false) : mm_Met l yX5_cornerOf cX5_cornerOf 3 (some .int) [] 7 122 0 sp_X5_cornerOf := mm_mt hl rn_X5_cornerOf ⟨plX5, rfl⟩ kkX5_cornerOf rfl ⟨Nat.le_of_ble_eq_true rfl, Nat.le_of_ble_eq_true rfl⟩ flkX5 (fun _ h => nomatch h) (⟨mm_pe (me_X5_stepOf hl) mwX5_stepOf (mm_t6 158 rfl rfl) (Nat.le_of_ble_eq_true rfl) (Nat.le_of_ble_eq_true rfl), mm_pe (me_X5_comesTo hl) mwX5_comesTo (mm_t6 189 rfl rfl) (Nat.le_of_ble_eq_true rfl) (Nat.le_of_ble_eq_true rfl), trivial⟩) (mm_xe0 _) n9X5
def sp_X5_placeOf : mm_S := fun av M d Q => match av with
  | [.inr (.inr (.inl o)), .inl k, .inl s] =>  o = 17 ∧ tX M ∧ (0 ≤ k ∧ k < 4) ∧ mV M k.toNat ∧ InI s ∧ ∀ r, ((r = -1 ∧ ∀ i : Nat, i < M 21 k.toNat → M 20 (30 * k.toNat + i) / 2 ≠ s) ∨ (0 ≤ r ∧ r < M 21 k.toNat ∧ M 20 (30 * k.toNat + r.toNat) / 2 = s ∧ ∀ i : Nat, i < r → M 20 (30 * k.toNat + i) / 2 ≠ s)) → Q (.inl (some (mm_I r))) M d
  | _ => False
def ct_X5_placeOf : List (Nat × mm_Ca) := [(98, (0, 3, 14, sp_X5_stepOf, 0))]
abbrev rr_X5_placeOf (Q : mm_Q) := mm_run (mm_look flX5) (mm_look ct_X5_placeOf) mm_x0 (mm_look ([] : List (Nat × Int))) (fun _ => none) 1 0 (fun _ _ => none) Q kdX5_placeOf
set_option maxRecDepth 20000 in
theorem lp_X5_placeOf {M : mm_M} {d : List Nat} {Q : mm_Q} {k s : Int} {n : Nat} (ht : tX M) (hk : 0 ≤ k ∧ k < 4) (hv : mV M k.toNat) (hs : InI s) (hn : M 21 k.toNat = n) (hq : ∀ r, ((r = -1 ∧ ∀ i : Nat, i < M 21 k.toNat → M 20 (30 * k.toNat + i) / 2 ≠ s) ∨ (0 ≤ r ∧ r < M 21 k.toNat ∧ M 20 (30 * k.toNat + r.toNat) / 2 = s ∧ ∀ i : Nat, i < r → M 20 (30 * k.toNat + i) / 2 ≠ s)) → Q (.inl (some (mm_I r))) M d) : ∀ (j i : Nat), i + j = n → (∀ x : Nat, x < i → M 20 (30 * k.toNat + x) / 2 ≠ s) → rr_X5_placeOf Q 2 [some (mm_R 17), some (mm_I k), some (mm_I s), some (mm_I i)] [] M d 0 := by
  obtain ⟨v1, v2, v3⟩ := id hv
  have t1 := ht.1
  intro j
  induction j with
  | zero =>
    intro i hi hj
    refine mm_run_at (stop := [2]) (S := rr_X5_placeOf Q) kkX5_placeOf 60 ?_ (fun _ _ _ _ _ _ _ h => h)
    simp only [mm_wp, mm_op, mm_nxt, mm_jmp, mm_at, mm_in, mm_nth, mm_set, mm_ok, mm_isL, mm_ret, mm_isRet, mm_bool, mm_call, mm_push, mm_rv, mm_cats, mm_cat, mm_look, mm_ft, mm_fv, mm_pf, mm_thr, mm_ent, mm_pad, mm_fl, beq_self_eq_true, cond_true, cond_false, Nat.reduceBEq, Nat.reduceEqDiff, List.drop_succ_cons, List.drop_zero, List.take_succ_cons, List.take_zero, List.reverse_cons, List.reverse_nil, List.nil_append, List.cons_append, List.length_cons, List.length_nil, Nat.reduceAdd, Nat.reduceSub, Nat.reduceLeDiff, Bool.not_false, Bool.and_true, Bool.true_and, Nat.zero_add, true_and, and_true, Nat.le_refl, true_or, or_true, reduceCtorEq, Nat.add_zero, Nat.reduceLT, Bool.and_self, Bool.not_true, Fin.isValue, Nat.reduceLeDiff, List.take_nil, List.drop_nil, mm_i1, mm_i2, mm_i3, mm_i4, mm_i5, mm_i6, mm_i7, mm_i16, mm_i17, mm_i18, mm_i19, mm_i20, mm_i21, mm_i22, mm_i23, mm_l3, mm_l4, mm_l5, mm_l6, mm_l7, mm_l18, mm_l19, mm_l20, mm_l21, mm_l22, kdX5_placeOf, ct_X5_placeOf, flX5, sp_X5_stepOf]
    exact ⟨by omega, ⟨by omega, by omega⟩, ⟨by omega, by omega⟩, fun _ => hq _ (Or.inl ⟨rfl, fun x h => hj x (by omega)⟩), fun h => by omega⟩
  | succ j ih =>
    intro i hi hj
    have v4 := v3 i (by omega)
    have e2 := Int.tdiv_eq_ediv_of_nonneg v4.1 (b := 2)
    refine mm_run_at (stop := [2]) (S := rr_X5_placeOf Q) kkX5_placeOf 60 ?_ (fun _ _ _ _ _ _ _ h => h)
    simp only [mm_wp, mm_op, mm_nxt, mm_jmp, mm_at, mm_in, mm_nth, mm_set, mm_ok, mm_isL, mm_ret, mm_isRet, mm_bool, mm_call, mm_push, mm_rv, mm_cats, mm_cat, mm_look, mm_ft, mm_fv, mm_pf, mm_thr, mm_ent, mm_pad, mm_fl, beq_self_eq_true, cond_true, cond_false, Nat.reduceBEq, Nat.reduceEqDiff, List.drop_succ_cons, List.drop_zero, List.take_succ_cons, List.take_zero, List.reverse_cons, List.reverse_nil, List.nil_append, List.cons_append, List.length_cons, List.length_nil, Nat.reduceAdd, Nat.reduceSub, Nat.reduceLeDiff, Bool.not_false, Bool.and_true, Bool.true_and, Nat.zero_add, true_and, and_true, Nat.le_refl, true_or, or_true, reduceCtorEq, Nat.add_zero, Nat.reduceLT, Bool.and_self, Bool.not_true, Fin.isValue, Nat.reduceLeDiff, List.take_nil, List.drop_nil, mm_i1, mm_i2, mm_i3, mm_i4, mm_i5, mm_i6, mm_i7, mm_i16, mm_i17, mm_i18, mm_i19, mm_i20, mm_i21, mm_i22, mm_i23, mm_l3, mm_l4, mm_l5, mm_l6, mm_l7, mm_l18, mm_l19, mm_l20, mm_l21, mm_l22, kdX5_placeOf, ct_X5_placeOf, flX5, sp_X5_stepOf, Int.toNat_natCast, e2]
    refine ⟨by omega, ⟨by omega, by omega⟩, ⟨by omega, by omega⟩, fun h => by omega, fun _ => ⟨hk, by omega, ⟨by omega, by omega⟩, ⟨by omega, by omega⟩, by omega, ⟨by omega, by omega⟩, hs, fun h => ?_, fun h => ?_⟩⟩
    · refine ih (i + 1) (by omega) (fun x hx => ?_)
      by_cases e : x = i
      · subst e
        exact h
      · exact hj x (by omega)
    · exact hq _ (Or.inr ⟨by omega, by omega, h, fun x h => hj x (by omega)⟩)
set_option maxRecDepth 20000 in
theorem rn_X5_placeOf : mm_RN flX5 ct_X5_placeOf mm_x0 [] 1 0 4 kdX5_placeOf sp_X5_placeOf := by
  intro av M d Q h
  unfold sp_X5_placeOf at h
  split at h
  · rename_i o k s
    obtain ⟨rfl, ht, hk, hv, hs, hq⟩ := h
    have v1 := hv.1
    obtain ⟨n, hn⟩ := Int.eq_ofNat_of_zero_le v1.1
    refine ⟨Nat.le_of_ble_eq_true rfl, mm_run_at (stop := [2]) (S := rr_X5_placeOf Q) kkX5_placeOf 80 ?_ (fun _ _ _ _ _ _ _ h => h)⟩
    simp only [mm_wp, mm_op, mm_nxt, mm_jmp, mm_at, mm_in, mm_nth, mm_set, mm_ok, mm_isL, mm_ret, mm_isRet, mm_bool, mm_call, mm_push, mm_rv, mm_cats, mm_cat, mm_look, mm_ft, mm_fv, mm_pf, mm_thr, mm_ent, mm_pad, mm_fl, beq_self_eq_true, cond_true, cond_false, Nat.reduceBEq, Nat.reduceEqDiff, List.drop_succ_cons, List.drop_zero, List.take_succ_cons, List.take_zero, List.reverse_cons, List.reverse_nil, List.nil_append, List.cons_append, List.length_cons, List.length_nil, Nat.reduceAdd, Nat.reduceSub, Nat.reduceLeDiff, Bool.not_false, Bool.and_true, Bool.true_and, Nat.zero_add, true_and, and_true, Nat.le_refl, true_or, or_true, reduceCtorEq, Nat.add_zero, Nat.reduceLT, Bool.and_self, Bool.not_true, Fin.isValue, Nat.reduceLeDiff, List.take_nil, List.drop_nil, mm_i1, mm_i2, mm_i3, mm_i4, mm_i5, mm_i6, mm_i7, mm_i16, mm_i17, mm_i18, mm_i19, mm_i20, mm_i21, mm_i22, mm_i23, mm_l3, mm_l4, mm_l5, mm_l6, mm_l7, mm_l18, mm_l19, mm_l20, mm_l21, mm_l22, kdX5_placeOf, ct_X5_placeOf, flX5, sp_X5_stepOf]
    exact lp_X5_placeOf ht hk hv hs hn hq n 0 (by omega) (fun j hj => by omega)
  · exact h.elim
theorem me_X5_placeOf {l : Launch} (hl : l.stackTraces = false) : mm_Met l yX5_placeOf cX5_placeOf 4 (some .int) [] 7 122 0 sp_X5_placeOf := mm_mt hl rn_X5_placeOf ⟨plX5, rfl⟩ kkX5_placeOf rfl ⟨Nat.le_of_ble_eq_true rfl, Nat.le_of_ble_eq_true rfl⟩ flkX5 (fun _ h => nomatch h) (⟨mm_pe (me_X5_stepOf hl) mwX5_stepOf (mm_t6 158 rfl rfl) (Nat.le_of_ble_eq_true rfl) (Nat.le_of_ble_eq_true rfl), trivial⟩) (mm_xe0 _) n9X5
end
section
/-! the model's state, seen as the class's: so all words for the class's state serve the model, too -/
def vX1 (M : mm_M) (k : Nat) : Int := if k = 4 then M 17 14 else if k = 5 then M 17 15 else if k = 6 then M 17 16 else 0
def vX2 (M : mm_M) (k : Nat) : Int := if k = 4 then M 17 1 else if k = 5 then M 17 4 else if k = 6 then M 17 5 else if k = 7 then M 17 6 else 0
def vXw (M : mm_M) (i k : Nat) : Int := if k = 2 then M 21 i else if k = 3 then M 22 i else 0
def vXs (M : mm_M) (i k : Nat) : Int := if k < 30 then M 20 (30 * i + k) else 0
def vXc (M : mm_M) (k : Nat) : Int := if k = 1 then (if M 17 10 = -1 then 0 else 8 + 2 * M 17 10) else if k = 2 then M 17 11 else if k = 3 then M 17 12 else if k = 4 then M 17 13 else 0
def vX (M : mm_M) : mm_M := fun o k => if o = 1 then vX1 M k else if o = 2 then vX2 M k else if o = 3 then M 18 k else if o = 4 then M 19 k else
  if o = 8 then vXw M 0 k else if o = 9 then vXs M 0 k else if o = 10 then vXw M 1 k else if o = 11 then vXs M 1 k else if o = 12 then vXw M 2 k else if o = 13 then vXs M 2 k else
  if o = 14 then vXw M 3 k else if o = 15 then vXs M 3 k else if o = 16 then vXc M k else 0
theorem vX_24 (M : mm_M) : vX M 2 4 = M 17 1 := rfl
theorem vX_25 (M : mm_M) : vX M 2 5 = M 17 4 := rfl
theorem vX_26 (M : mm_M) : vX M 2 6 = M 17 5 := rfl
theorem vX_27 (M : mm_M) : vX M 2 7 = M 17 6 := rfl
theorem vX_3 (M : mm_M) : vX M 3 = M 18 := rfl
theorem vX_4 (M : mm_M) : vX M 4 = M 19 := rfl
theorem vX_14 (M : mm_M) : vX M 1 4 = M 17 14 := rfl
theorem vX_15 (M : mm_M) : vX M 1 5 = M 17 15 := rfl
theorem vX_16 (M : mm_M) : vX M 1 6 = M 17 16 := rfl
theorem vX_c2 (M : mm_M) : vX M 16 2 = M 17 11 := rfl
theorem vX_c3 (M : mm_M) : vX M 16 3 = M 17 12 := rfl
theorem vX_c4 (M : mm_M) : vX M 16 4 = M 17 13 := rfl
theorem vX_c1 (M : mm_M) : vX M 16 1 = if M 17 10 = -1 then 0 else 8 + 2 * M 17 10 := rfl
theorem vX_w {M : mm_M} {k : Nat} (hk : k < 4) : vX M (8 + 2 * k) = vXw M k := by
  have h4 : k = 0 ∨ k = 1 ∨ k = 2 ∨ k = 3 := by omega
  rcases h4 with rfl | rfl | rfl | rfl <;> rfl
theorem vX_s {M : mm_M} {k : Nat} (hk : k < 4) : vX M (8 + 2 * k + 1) = vXs M k := by
  have h4 : k = 0 ∨ k = 1 ∨ k = 2 ∨ k = 3 := by omega
  rcases h4 with rfl | rfl | rfl | rfl <;> rfl
theorem vX_n {M : mm_M} {k : Nat} (hk : k < 4) : vX M (8 + 2 * k) 2 = M 21 k := by rw [vX_w hk]; rfl
theorem vX_b {M : mm_M} {k : Nat} (hk : k < 4) : vX M (8 + 2 * k) 3 = M 22 k := by rw [vX_w hk]; rfl
theorem vX_i {M : mm_M} {k i : Nat} (hk : k < 4) (hi : i < 30) : vX M (8 + 2 * k + 1) i = M 20 (30 * k + i) := by rw [vX_s hk]; simp [vXs, hi]
theorem isKk {k : Nat} (hk : k < 4) : isK (8 + 2 * k) := by unfold isK; omega
theorem tX_i {M : mm_M} : tX M ↔ tW (vX M) := Iff.rfl
theorem lv_v {M : mm_M} {s c : Int} : lvX M s c = lv (vX M) s c := rfl
theorem cm_v {M : mm_M} {s c : Int} : cmX M s c = cm (vX M) s c := rfl
theorem gl_v {M : mm_M} {s : Int} : glX M s = gl (vX M) s := rfl
theorem sr_v {M : mm_M} {s : Int} : srX M s = sr (vX M) s := rfl
theorem mV_i {M : mm_M} {k : Nat} (hk : k < 4) : mV M k ↔ wV (vX M) (8 + 2 * k) := by
  unfold mV wV
  rw [vX_n hk, vX_b hk, vX_24]
  constructor
  · rintro ⟨a, b, c⟩
    exact ⟨a, b, fun i hi => by rw [vX_i hk (by omega)]; exact c i hi⟩
  · rintro ⟨a, b, c⟩
    exact ⟨a, b, fun i hi => by have := c i hi; rw [vX_i hk (by omega)] at this; exact this⟩
theorem cor_v {M : mm_M} {k : Nat} {p : Int} (hk : k < 4) (hv : mV M k) (hp : 0 ≤ p ∧ p ≤ M 21 k) : corX M k p = cor (vX M) (8 + 2 * k) p := by
  unfold corX cor
  rw [vX_n hk, vX_b hk]
  have h1 := hv.1
  by_cases h : p = 0
  · rw [if_pos h, if_neg (by omega)]
  · rw [if_neg h, if_pos (by omega), vX_i hk (by omega)]
    rfl
/-- what the model may change -/
def fX (M M' : mm_M) : Prop := ∀ o, o < 17 ∨ 22 < o → M' o = M o
theorem fX.rf {M : mm_M} : fX M M := fun _ _ => rfl
theorem fX.tr {M M' M'' : mm_M} (h : fX M M') (h2 : fX M' M'') : fX M M'' := fun o ho => (h2 o ho).trans (h o ho)
theorem fX.up {M M' : mm_M} {o k : Nat} {v : Int} (h : fX M M') (ho : 17 ≤ o ∧ o ≤ 22) : fX M (mm_up M' o k v) := fun x hx => by
  rw [mm_up_o x (by omega)]
  exact h x hx
theorem vX_cs (o : Nat) : o = 1 ∨ o = 2 ∨ o = 3 ∨ o = 4 ∨ o = 8 ∨ o = 9 ∨ o = 10 ∨ o = 11 ∨ o = 12 ∨ o = 13 ∨ o = 14 ∨ o = 15 ∨ o = 16 ∨ (o ≠ 1 ∧ o ≠ 2 ∧ o ≠ 3 ∧ o ≠ 4 ∧ o ≠ 8 ∧ o ≠ 9 ∧ o ≠ 10 ∧ o ≠ 11 ∧ o ≠ 12 ∧ o ≠ 13 ∧ o ≠ 14 ∧ o ≠ 15 ∧ o ≠ 16) := by omega
theorem vX_oth {M : mm_M} {o k : Nat} (h : o ≠ 1 ∧ o ≠ 2 ∧ o ≠ 3 ∧ o ≠ 4 ∧ o ≠ 8 ∧ o ≠ 9 ∧ o ≠ 10 ∧ o ≠ 11 ∧ o ≠ 12 ∧ o ≠ 13 ∧ o ≠ 14 ∧ o ≠ 15 ∧ o ≠ 16) : vX M o k = 0 := by
  obtain ⟨a, b, c, d, e, f, g, h, i, j, k, l, m⟩ := h
  unfold vX
  rw [if_neg a, if_neg b, if_neg c, if_neg d, if_neg e, if_neg f, if_neg g, if_neg h, if_neg i, if_neg j, if_neg k, if_neg l, if_neg m]
theorem vX_u20 {M : mm_M} {k i : Nat} {v : Int} (hk : k < 4) (hi : i < 30) : vX (mm_up M 20 (30 * k + i) v) = mm_up (vX M) (8 + 2 * k + 1) i v := by
  funext o j
  have h4 : k = 0 ∨ k = 1 ∨ k = 2 ∨ k = 3 := by omega
  rcases h4 with rfl | rfl | rfl | rfl
  all_goals
    rcases vX_cs o with rfl | rfl | rfl | rfl | rfl | rfl | rfl | rfl | rfl | rfl | rfl | rfl | rfl | ho
    case inr.inr.inr.inr.inr.inr.inr.inr.inr.inr.inr.inr.inr =>
      rw [vX_oth ho, mm_up_o _ (by omega), vX_oth ho]
    all_goals
      simp [vX, vXw, vXs, vXc, vX1, vX2, mm_up]
    all_goals
      repeat' split
    all_goals first | rfl | omega
theorem vX_u21 {M : mm_M} {k : Nat} {v : Int} (hk : k < 4) : vX (mm_up M 21 k v) = mm_up (vX M) (8 + 2 * k) 2 v := by
  funext o j
  have h4 : k = 0 ∨ k = 1 ∨ k = 2 ∨ k = 3 := by omega
  rcases h4 with rfl | rfl | rfl | rfl
  all_goals
    rcases vX_cs o with rfl | rfl | rfl | rfl | rfl | rfl | rfl | rfl | rfl | rfl | rfl | rfl | rfl | ho
    case inr.inr.inr.inr.inr.inr.inr.inr.inr.inr.inr.inr.inr =>
      rw [vX_oth ho, mm_up_o _ (by omega), vX_oth ho]
    all_goals
      simp [vX, vXw, vXs, vXc, vX1, vX2, mm_up]
    all_goals
      repeat' split
    all_goals first | rfl | omega
theorem vX_u22 {M : mm_M} {k : Nat} {v : Int} (hk : k < 4) : vX (mm_up M 22 k v) = mm_up (vX M) (8 + 2 * k) 3 v := by
  funext o j
  have h4 : k = 0 ∨ k = 1 ∨ k = 2 ∨ k = 3 := by omega
  rcases h4 with rfl | rfl | rfl | rfl
  all_goals
    rcases vX_cs o with rfl | rfl | rfl | rfl | rfl | rfl | rfl | rfl | rfl | rfl | rfl | rfl | rfl | ho
    case inr.inr.inr.inr.inr.inr.inr.inr.inr.inr.inr.inr.inr =>
      rw [vX_oth ho, mm_up_o _ (by omega), vX_oth ho]
    all_goals
      simp [vX, vXw, vXs, vXc, vX1, vX2, mm_up]
    all_goals
      repeat' split
    all_goals first | rfl | omega
theorem vX_u18 {M : mm_M} {k : Nat} {v : Int} : vX (mm_up M 18 k v) = mm_up (vX M) 3 k v := by
  funext o j
  all_goals
    rcases vX_cs o with rfl | rfl | rfl | rfl | rfl | rfl | rfl | rfl | rfl | rfl | rfl | rfl | rfl | ho
    case inr.inr.inr.inr.inr.inr.inr.inr.inr.inr.inr.inr.inr =>
      rw [vX_oth ho, mm_up_o _ (by omega), vX_oth ho]
    all_goals
      simp [vX, vXw, vXs, vXc, vX1, vX2, mm_up]
    all_goals
      repeat' split
    all_goals first | rfl | omega
theorem vX_u19 {M : mm_M} {k : Nat} {v : Int} : vX (mm_up M 19 k v) = mm_up (vX M) 4 k v := by
  funext o j
  all_goals
    rcases vX_cs o with rfl | rfl | rfl | rfl | rfl | rfl | rfl | rfl | rfl | rfl | rfl | rfl | rfl | ho
    case inr.inr.inr.inr.inr.inr.inr.inr.inr.inr.inr.inr.inr =>
      rw [vX_oth ho, mm_up_o _ (by omega), vX_oth ho]
    all_goals
      simp [vX, vXw, vXs, vXc, vX1, vX2, mm_up]
    all_goals
      repeat' split
    all_goals first | rfl | omega
theorem vX_u0 {M : mm_M} {v : Int} : vX (mm_up M 17 0 v) = vX M := by
  funext o j
  rfl
theorem vX_u1 {M : mm_M} {v : Int} : vX (mm_up M 17 1 v) = mm_up (vX M) 2 4 v := by
  funext o j
  all_goals
    rcases vX_cs o with rfl | rfl | rfl | rfl | rfl | rfl | rfl | rfl | rfl | rfl | rfl | rfl | rfl | ho
    case inr.inr.inr.inr.inr.inr.inr.inr.inr.inr.inr.inr.inr =>
      rw [vX_oth ho, mm_up_o _ (by omega), vX_oth ho]
    all_goals
      simp [vX, vXw, vXs, vXc, vX1, vX2, mm_up]
    all_goals
      repeat' split
    all_goals first | rfl | omega
theorem vX_u4 {M : mm_M} {v : Int} : vX (mm_up M 17 4 v) = mm_up (vX M) 2 5 v := by
  funext o j
  all_goals
    rcases vX_cs o with rfl | rfl | rfl | rfl | rfl | rfl | rfl | rfl | rfl | rfl | rfl | rfl | rfl | ho
    case inr.inr.inr.inr.inr.inr.inr.inr.inr.inr.inr.inr.inr =>
      rw [vX_oth ho, mm_up_o _ (by omega), vX_oth ho]
    all_goals
      simp [vX, vXw, vXs, vXc, vX1, vX2, mm_up]
    all_goals
      repeat' split
    all_goals first | rfl | omega
theorem vX_u5 {M : mm_M} {v : Int} : vX (mm_up M 17 5 v) = mm_up (vX M) 2 6 v := by
  funext o j
  all_goals
    rcases vX_cs o with rfl | rfl | rfl | rfl | rfl | rfl | rfl | rfl | rfl | rfl | rfl | rfl | rfl | ho
    case inr.inr.inr.inr.inr.inr.inr.inr.inr.inr.inr.inr.inr =>
      rw [vX_oth ho, mm_up_o _ (by omega), vX_oth ho]
    all_goals
      simp [vX, vXw, vXs, vXc, vX1, vX2, mm_up]
    all_goals
      repeat' split
    all_goals first | rfl | omega
theorem vX_u6 {M : mm_M} {v : Int} : vX (mm_up M 17 6 v) = mm_up (vX M) 2 7 v := by
  funext o j
  all_goals
    rcases vX_cs o with rfl | rfl | rfl | rfl | rfl | rfl | rfl | rfl | rfl | rfl | rfl | rfl | rfl | ho
    case inr.inr.inr.inr.inr.inr.inr.inr.inr.inr.inr.inr.inr =>
      rw [vX_oth ho, mm_up_o _ (by omega), vX_oth ho]
    all_goals
      simp [vX, vXw, vXs, vXc, vX1, vX2, mm_up]
    all_goals
      repeat' split
    all_goals first | rfl | omega
theorem vX_u10 {M : mm_M} {v : Int} : vX (mm_up M 17 10 v) = mm_up (vX M) 16 1 (if v = -1 then 0 else 8 + 2 * v) := by
  funext o j
  all_goals
    rcases vX_cs o with rfl | rfl | rfl | rfl | rfl | rfl | rfl | rfl | rfl | rfl | rfl | rfl | rfl | ho
    case inr.inr.inr.inr.inr.inr.inr.inr.inr.inr.inr.inr.inr =>
      rw [vX_oth ho, mm_up_o _ (by omega), vX_oth ho]
    all_goals
      simp [vX, vXw, vXs, vXc, vX1, vX2, mm_up]
    all_goals
      repeat' split
    all_goals first | rfl | omega
theorem vX_u11 {M : mm_M} {v : Int} : vX (mm_up M 17 11 v) = mm_up (vX M) 16 2 v := by
  funext o j
  all_goals
    rcases vX_cs o with rfl | rfl | rfl | rfl | rfl | rfl | rfl | rfl | rfl | rfl | rfl | rfl | rfl | ho
    case inr.inr.inr.inr.inr.inr.inr.inr.inr.inr.inr.inr.inr =>
      rw [vX_oth ho, mm_up_o _ (by omega), vX_oth ho]
    all_goals
      simp [vX, vXw, vXs, vXc, vX1, vX2, mm_up]
    all_goals
      repeat' split
    all_goals first | rfl | omega
theorem vX_u12 {M : mm_M} {v : Int} : vX (mm_up M 17 12 v) = mm_up (vX M) 16 3 v := by
  funext o j
  all_goals
    rcases vX_cs o with rfl | rfl | rfl | rfl | rfl | rfl | rfl | rfl | rfl | rfl | rfl | rfl | rfl | ho
    case inr.inr.inr.inr.inr.inr.inr.inr.inr.inr.inr.inr.inr =>
      rw [vX_oth ho, mm_up_o _ (by omega), vX_oth ho]
    all_goals
      simp [vX, vXw, vXs, vXc, vX1, vX2, mm_up]
    all_goals
      repeat' split
    all_goals first | rfl | omega
theorem vX_u13 {M : mm_M} {v : Int} : vX (mm_up M 17 13 v) = mm_up (vX M) 16 4 v := by
  funext o j
  all_goals
    rcases vX_cs o with rfl | rfl | rfl | rfl | rfl | rfl | rfl | rfl | rfl | rfl | rfl | rfl | rfl | ho
    case inr.inr.inr.inr.inr.inr.inr.inr.inr.inr.inr.inr.inr =>
      rw [vX_oth ho, mm_up_o _ (by omega), vX_oth ho]
    all_goals
      simp [vX, vXw, vXs, vXc, vX1, vX2, mm_up]
    all_goals
      repeat' split
    all_goals first | rfl | omega
theorem vX_u14 {M : mm_M} {v : Int} : vX (mm_up M 17 14 v) = mm_up (vX M) 1 4 v := by
  funext o j
  all_goals
    rcases vX_cs o with rfl | rfl | rfl | rfl | rfl | rfl | rfl | rfl | rfl | rfl | rfl | rfl | rfl | ho
    case inr.inr.inr.inr.inr.inr.inr.inr.inr.inr.inr.inr.inr =>
      rw [vX_oth ho, mm_up_o _ (by omega), vX_oth ho]
    all_goals
      simp [vX, vXw, vXs, vXc, vX1, vX2, mm_up]
    all_goals
      repeat' split
    all_goals first | rfl | omega
theorem vX_u15 {M : mm_M} {v : Int} : vX (mm_up M 17 15 v) = mm_up (vX M) 1 5 v := by
  funext o j
  all_goals
    rcases vX_cs o with rfl | rfl | rfl | rfl | rfl | rfl | rfl | rfl | rfl | rfl | rfl | rfl | rfl | ho
    case inr.inr.inr.inr.inr.inr.inr.inr.inr.inr.inr.inr.inr =>
      rw [vX_oth ho, mm_up_o _ (by omega), vX_oth ho]
    all_goals
      simp [vX, vXw, vXs, vXc, vX1, vX2, mm_up]
    all_goals
      repeat' split
    all_goals first | rfl | omega
theorem vX_u16 {M : mm_M} {v : Int} : vX (mm_up M 17 16 v) = mm_up (vX M) 1 6 v := by
  funext o j
  all_goals
    rcases vX_cs o with rfl | rfl | rfl | rfl | rfl | rfl | rfl | rfl | rfl | rfl | rfl | rfl | rfl | ho
    case inr.inr.inr.inr.inr.inr.inr.inr.inr.inr.inr.inr.inr =>
      rw [vX_oth ho, mm_up_o _ (by omega), vX_oth ho]
    all_goals
      simp [vX, vXw, vXs, vXc, vX1, vX2, mm_up]
    all_goals
      repeat' split
    all_goals first | rfl | omega
/-- a call: what its spec asks -/
theorem mm_ci {C : Nat → Option mm_Ca} {mu : Nat} {hn : Nat → Nat → Option Nat} {Qr : mm_Q} {how idx pc : Nat} {ls : mm_Ls} {st : List mm_V} {M : mm_M} {d : List Nat} {u : Nat} {Kn : mm_K} {Kj : Nat → mm_K} {h n rc mu' : Nat} {sp : mm_S} (hC : C idx = some (h, n, rc, sp, mu'))
    (he : (Nat.beq h how && (Nat.ble n st.length && (Nat.ble (mm_cats (st.drop n)) 8 && Nat.ble (u + mu') mu))) = true) (hrv : mm_rv st n rc M d)
    (hsp : sp (st.take n).reverse M d (fun o M' d' => match o with
        | .inl r => Kn ls (mm_push r (st.drop n)) M' d' (u + mu')
        | .inr k => match hn pc k with
          | none => Qr (.inr k) M' d'
          | some hpc => ∀ q : Nat, Kj hpc ls [mm_X q] M' d' (u + mu'))) : mm_call C mu hn Qr how idx pc ls st M d u Kn Kj := by
  simp only [Bool.and_eq_true] at he
  unfold mm_call
  rw [hC]
  exact ⟨Nat.eq_of_beq_eq_true he.1, Nat.le_of_ble_eq_true he.2.1, hrv, Nat.le_of_ble_eq_true he.2.2.1, Nat.le_of_ble_eq_true he.2.2.2, hsp⟩
theorem vX_e20 {M : mm_M} {k i a : Nat} {x y : Int} (hk : k < 4) (hi : i < 30) (ha : a = 30 * k + i) (hx : x = y) : vX (mm_up M 20 a x) = mm_up (vX M) (8 + 2 * k + 1) i y := by
  rw [ha, hx]
  exact vX_u20 hk hi
theorem vX_e21 {M : mm_M} {k a : Nat} {x y : Int} (hk : k < 4) (ha : a = k) (hx : x = y) : vX (mm_up M 21 a x) = mm_up (vX M) (8 + 2 * k) 2 y := by
  rw [ha, hx]
  exact vX_u21 hk
theorem vX_e22 {M : mm_M} {k a : Nat} {x y : Int} (hk : k < 4) (ha : a = k) (hx : x = y) : vX (mm_up M 22 a x) = mm_up (vX M) (8 + 2 * k) 3 y := by
  rw [ha, hx]
  exact vX_u22 hk
theorem vX_r20 {M : mm_M} {k i a : Nat} (hk : k < 4) (hi : i < 30) (ha : a = 30 * k + i) : M 20 a = vX M (8 + 2 * k + 1) i := by
  rw [ha, vX_i hk hi]
theorem mm_up_ob {M : mm_M} {o o' a b : Nat} {x : Int} (h : o' ≠ o) : mm_up M o a x o' b = M o' b := by
  rw [mm_up_o _ h]
theorem mm_c5 {A B C D E S : Prop} (a : A) (b : B) (c : C) (d : D) (e : E) (s : S) : A ∧ B ∧ C ∧ D ∧ E ∧ S := ⟨a, b, c, d, e, s⟩
theorem mm_a2 {A B : Prop} (a : A) (b : B) : A ∧ B := ⟨a, b⟩
theorem mm_a3 {A B C : Prop} (a : A) (b : B) (c : C) : A ∧ B ∧ C := ⟨a, b, c⟩
theorem mm_a4 {A B C D : Prop} (a : A) (b : B) (c : C) (d : D) : A ∧ B ∧ C ∧ D := ⟨a, b, c, d⟩
theorem mm_a5 {A B C D E : Prop} (a : A) (b : B) (c : C) (d : D) (e : E) : A ∧ B ∧ C ∧ D ∧ E := ⟨a, b, c, d, e⟩
theorem mm_a6 {A B C D E F : Prop} (a : A) (b : B) (c : C) (d : D) (e : E) (f : F) : A ∧ B ∧ C ∧ D ∧ E ∧ F := ⟨a, b, c, d, e, f⟩
theorem mm_a7 {A B C D E F G : Prop} (a : A) (b : B) (c : C) (d : D) (e : E) (f : F) (g : G) : A ∧ B ∧ C ∧ D ∧ E ∧ F ∧ G := ⟨a, b, c, d, e, f, g⟩
theorem mm_a8 {A B C D E F G H : Prop} (a : A) (b : B) (c : C) (d : D) (e : E) (f : F) (g : G) (h : H) : A ∧ B ∧ C ∧ D ∧ E ∧ F ∧ G ∧ H := ⟨a, b, c, d, e, f, g, h⟩
end
