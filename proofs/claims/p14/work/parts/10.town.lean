section
/-! the class's town -/
theorem tp1 (x : Int) : x / 2 ^ (1 : Int).toNat = x / 2 := by simp
theorem tp2 (x : Int) : x * 2 ^ (1 : Int).toNat = x * 2 := by simp
def sp_X1_isCorner : mm_S := fun av M d Q => match av with
  | [.inl a] =>  InI a ∧ ∀ r, (0 ≤ a ∧ a < 10 → r = 1) ∧ (¬ (0 ≤ a ∧ a < 10) → r = 0) → Q (.inl (some (mm_I r))) M d
  | _ => False
def ct_X1_isCorner : List (Nat × mm_Ca) := []
abbrev rr_X1_isCorner (Q : mm_Q) := mm_run (mm_look flX1) (mm_look ct_X1_isCorner) mm_x0 (mm_look ([] : List (Nat × Int))) (fun _ => none) 2 0 (fun _ _ => none) Q kdX1_isCorner
set_option maxRecDepth 20000 in
theorem rn_X1_isCorner : mm_RN flX1 ct_X1_isCorner mm_x0 [] 2 0 1 kdX1_isCorner sp_X1_isCorner := by
  intro av M d Q h
  unfold sp_X1_isCorner at h
  split at h
  · rename_i a
    obtain ⟨ha, hq⟩ := h
    have q0 := fun h => hq 0 ⟨fun h2 => absurd h2 h, fun _ => rfl⟩
    have q1 := fun h => hq 1 ⟨fun _ => rfl, fun h2 => absurd h h2⟩
    clear hq
    obtain ⟨K, hK, hK2⟩ : ∃ K : Nat → mm_K, (∀ t ls st M d u, K t ls st M d u → rr_X1_isCorner Q t ls st M d u) ∧ (∀ t ls st M d u, rr_X1_isCorner Q t ls st M d u → K t ls st M d u) := ⟨rr_X1_isCorner Q, fun _ _ _ _ _ _ h => h, fun _ _ _ _ _ _ h => h⟩
    refine ⟨Nat.le_of_ble_eq_true rfl, mm_run_at (stop := []) (S := K) kkX1_isCorner 90 ?_ (fun _ _ _ _ _ _ _ h => hK _ _ _ _ _ _ h)⟩
    repeat' (first | with_reducible assumption | ((with_reducible show mm_rv _ _ _ _ _); first | exact True.intro) | ((with_reducible show mm_bool _ _); first | exact True.intro | exact Or.inl rfl | exact Or.inr rfl | (show (_ : Int) = 0 ∨ _ = 1)) | refine And.intro ?_ ?_ | intro _ | with_reducible exact True.intro | exact rfl | with_reducible exact Or.inl rfl | with_reducible exact Or.inr rfl | exact Nat.le_of_ble_eq_true rfl)
    all_goals (try simp (disch := omega) only [InI, Int.toNat_natCast, Int.tmod_eq_emod_of_nonneg, Int.tdiv_eq_ediv_of_nonneg, true_implies, true_or, or_true, mm_l18, mm_l19, mm_l20, mm_l21, mm_l22] at *)
    all_goals first | omega | exact q0 (by omega) | exact q1 (by omega) | skip
  · exact h.elim
theorem plX1 : plainName RX1 = true := by decide
theorem n9X1 : ∀ q ∈ flX1, q.2.2 < 90 := by decide
theorem me_X1_isCorner {l : Launch} (hl : l.stackTraces = false) : mm_Met l yX1_isCorner cX1_isCorner 1 (some .boolean) [] 6 100 0 sp_X1_isCorner := mm_mt hl rn_X1_isCorner ⟨plX1, rfl⟩ kkX1_isCorner rfl ⟨Nat.le_of_ble_eq_true rfl, Nat.le_of_ble_eq_true rfl⟩ flkX1 (fun _ h => nomatch h) (trivial) (mm_xe0 _) n9X1
def sp_X1_size : mm_S := fun av M d Q => match av with
  | [.inr (.inr (.inl o))] =>  o = 2 ∧ Q (.inl (some (mm_I (M 2 4)))) M d
  | _ => False
def ct_X1_size : List (Nat × mm_Ca) := []
abbrev rr_X1_size (Q : mm_Q) := mm_run (mm_look flX1) (mm_look ct_X1_size) mm_x0 (mm_look ([] : List (Nat × Int))) (fun _ => none) 1 0 (fun _ _ => none) Q kdX1_size
set_option maxRecDepth 20000 in
theorem rn_X1_size : mm_RN flX1 ct_X1_size mm_x0 [] 1 0 1 kdX1_size sp_X1_size := by
  intro av M d Q h
  unfold sp_X1_size at h
  split at h
  · rename_i o
    obtain ⟨rfl, hq⟩ := h
    obtain ⟨K, hK, hK2⟩ : ∃ K : Nat → mm_K, (∀ t ls st M d u, K t ls st M d u → rr_X1_size Q t ls st M d u) ∧ (∀ t ls st M d u, rr_X1_size Q t ls st M d u → K t ls st M d u) := ⟨rr_X1_size Q, fun _ _ _ _ _ _ h => h, fun _ _ _ _ _ _ h => h⟩
    refine ⟨Nat.le_of_ble_eq_true rfl, mm_run_at (stop := []) (S := K) kkX1_size 90 ?_ (fun _ _ _ _ _ _ _ h => hK _ _ _ _ _ _ h)⟩
    repeat' (first | with_reducible assumption | ((with_reducible show mm_rv _ _ _ _ _); first | exact True.intro | exact mm_i2) | with_reducible exact mm_i2 | ((with_reducible show mm_bool _ _); first | exact True.intro | exact Or.inl rfl | exact Or.inr rfl | (show (_ : Int) = 0 ∨ _ = 1)) | refine And.intro ?_ ?_ | intro _ | with_reducible exact True.intro | exact rfl | with_reducible exact Or.inl rfl | with_reducible exact Or.inr rfl | exact Nat.le_of_ble_eq_true rfl)
    all_goals (try simp (disch := omega) only [InI, Int.toNat_natCast, Int.tmod_eq_emod_of_nonneg, Int.tdiv_eq_ediv_of_nonneg, true_implies, true_or, or_true, mm_l18, mm_l19, mm_l20, mm_l21, mm_l22] at *)
    all_goals first | omega | exact hq | skip
  · exact h.elim
theorem me_X1_size {l : Launch} (hl : l.stackTraces = false) : mm_Met l yX1_size cX1_size 1 (some .int) [] 6 100 0 sp_X1_size := mm_mt hl rn_X1_size ⟨plX1, rfl⟩ kkX1_size rfl ⟨Nat.le_of_ble_eq_true rfl, Nat.le_of_ble_eq_true rfl⟩ flkX1 (fun _ h => nomatch h) (trivial) (mm_xe0 _) n9X1
def sp_X1_hasRoomFor : mm_S := fun av M d Q => match av with
  | [.inr (.inr (.inl o)), .inl a] =>  o = 2 ∧ tW M ∧ (-100 ≤ a ∧ a ≤ 100) ∧ ∀ r, (M 2 4 + a ≤ 30 → r = 1) ∧ (30 < M 2 4 + a → r = 0) → Q (.inl (some (mm_I r))) M d
  | _ => False
def ct_X1_hasRoomFor : List (Nat × mm_Ca) := []
abbrev rr_X1_hasRoomFor (Q : mm_Q) := mm_run (mm_look flX1) (mm_look ct_X1_hasRoomFor) mm_x0 (mm_look ([] : List (Nat × Int))) (fun _ => none) 2 0 (fun _ _ => none) Q kdX1_hasRoomFor
set_option maxRecDepth 20000 in
theorem rn_X1_hasRoomFor : mm_RN flX1 ct_X1_hasRoomFor mm_x0 [] 2 0 2 kdX1_hasRoomFor sp_X1_hasRoomFor := by
  intro av M d Q h
  unfold sp_X1_hasRoomFor at h
  split at h
  · rename_i o a
    obtain ⟨rfl, ht, ha, hq⟩ := h
    have h1 := ht.1
    have q0 : 30 < M 2 4 + a → _ := fun h => hq 0 ⟨fun h2 => by omega, fun _ => rfl⟩
    have q1 : M 2 4 + a ≤ 30 → _ := fun h => hq 1 ⟨fun _ => rfl, fun h2 => by omega⟩
    clear hq ht
    obtain ⟨K, hK, hK2⟩ : ∃ K : Nat → mm_K, (∀ t ls st M d u, K t ls st M d u → rr_X1_hasRoomFor Q t ls st M d u) ∧ (∀ t ls st M d u, rr_X1_hasRoomFor Q t ls st M d u → K t ls st M d u) := ⟨rr_X1_hasRoomFor Q, fun _ _ _ _ _ _ h => h, fun _ _ _ _ _ _ h => h⟩
    refine ⟨Nat.le_of_ble_eq_true rfl, mm_run_at (stop := []) (S := K) kkX1_hasRoomFor 90 ?_ (fun _ _ _ _ _ _ _ h => hK _ _ _ _ _ _ h)⟩
    repeat' (first | with_reducible assumption | ((with_reducible show mm_rv _ _ _ _ _); first | exact True.intro | exact mm_i2) | with_reducible exact mm_i2 | ((with_reducible show mm_bool _ _); first | exact True.intro | exact Or.inl rfl | exact Or.inr rfl | (show (_ : Int) = 0 ∨ _ = 1)) | refine And.intro ?_ ?_ | intro _ | with_reducible exact True.intro | exact rfl | with_reducible exact Or.inl rfl | with_reducible exact Or.inr rfl | exact Nat.le_of_ble_eq_true rfl)
    all_goals (try simp (disch := omega) only [InI, Int.toNat_natCast, Int.tmod_eq_emod_of_nonneg, Int.tdiv_eq_ediv_of_nonneg, true_implies, true_or, or_true, mm_l18, mm_l19, mm_l20, mm_l21, mm_l22] at *)
    all_goals first | omega | exact q0 (by omega) | exact q1 (by omega) | skip
  · exact h.elim
theorem me_X1_hasRoomFor {l : Launch} (hl : l.stackTraces = false) : mm_Met l yX1_hasRoomFor cX1_hasRoomFor 2 (some .boolean) [] 6 100 0 sp_X1_hasRoomFor := mm_mt hl rn_X1_hasRoomFor ⟨plX1, rfl⟩ kkX1_hasRoomFor rfl ⟨Nat.le_of_ble_eq_true rfl, Nat.le_of_ble_eq_true rfl⟩ flkX1 (fun _ h => nomatch h) (trivial) (mm_xe0 _) n9X1
def sp_X1_isOneWay : mm_S := fun av M d Q => match av with
  | [.inr (.inr (.inl o))] =>  o = 2 ∧ tW M ∧ Q (.inl (some (mm_I (M 2 5)))) M d
  | _ => False
def ct_X1_isOneWay : List (Nat × mm_Ca) := []
abbrev rr_X1_isOneWay (Q : mm_Q) := mm_run (mm_look flX1) (mm_look ct_X1_isOneWay) mm_x0 (mm_look ([] : List (Nat × Int))) (fun _ => none) 2 0 (fun _ _ => none) Q kdX1_isOneWay
set_option maxRecDepth 20000 in
theorem rn_X1_isOneWay : mm_RN flX1 ct_X1_isOneWay mm_x0 [] 2 0 1 kdX1_isOneWay sp_X1_isOneWay := by
  intro av M d Q h
  unfold sp_X1_isOneWay at h
  split at h
  · rename_i o
    obtain ⟨rfl, ht, hq⟩ := h
    have h1 := ht.2.2.1
    clear ht
    obtain ⟨K, hK, hK2⟩ : ∃ K : Nat → mm_K, (∀ t ls st M d u, K t ls st M d u → rr_X1_isOneWay Q t ls st M d u) ∧ (∀ t ls st M d u, rr_X1_isOneWay Q t ls st M d u → K t ls st M d u) := ⟨rr_X1_isOneWay Q, fun _ _ _ _ _ _ h => h, fun _ _ _ _ _ _ h => h⟩
    refine ⟨Nat.le_of_ble_eq_true rfl, mm_run_at (stop := []) (S := K) kkX1_isOneWay 90 ?_ (fun _ _ _ _ _ _ _ h => hK _ _ _ _ _ _ h)⟩
    repeat' (first | with_reducible assumption | ((with_reducible show mm_rv _ _ _ _ _); first | exact True.intro | exact mm_i2) | with_reducible exact mm_i2 | ((with_reducible show mm_bool _ _); first | exact True.intro | exact Or.inl rfl | exact Or.inr rfl | (show (_ : Int) = 0 ∨ _ = 1)) | refine And.intro ?_ ?_ | intro _ | with_reducible exact True.intro | exact rfl | with_reducible exact Or.inl rfl | with_reducible exact Or.inr rfl | exact Nat.le_of_ble_eq_true rfl)
    all_goals (try simp (disch := omega) only [InI, Int.toNat_natCast, Int.tmod_eq_emod_of_nonneg, Int.tdiv_eq_ediv_of_nonneg, true_implies, true_or, or_true, mm_l18, mm_l19, mm_l20, mm_l21, mm_l22] at *)
    all_goals first | omega | exact hq | skip
  · exact h.elim
theorem me_X1_isOneWay {l : Launch} (hl : l.stackTraces = false) : mm_Met l yX1_isOneWay cX1_isOneWay 1 (some .boolean) [] 6 100 0 sp_X1_isOneWay := mm_mt hl rn_X1_isOneWay ⟨plX1, rfl⟩ kkX1_isOneWay rfl ⟨Nat.le_of_ble_eq_true rfl, Nat.le_of_ble_eq_true rfl⟩ flkX1 (fun _ h => nomatch h) (trivial) (mm_xe0 _) n9X1
def sp_X1_setOneWay : mm_S := fun av M d Q => match av with
  | [.inr (.inr (.inl o)), .inl a] =>  o = 2 ∧ (a = 0 ∨ a = 1) ∧ Q (.inl none) (mm_up M 2 5 a) d
  | _ => False
def ct_X1_setOneWay : List (Nat × mm_Ca) := []
abbrev rr_X1_setOneWay (Q : mm_Q) := mm_run (mm_look flX1) (mm_look ct_X1_setOneWay) mm_x0 (mm_look ([] : List (Nat × Int))) (fun _ => none) 0 0 (fun _ _ => none) Q kdX1_setOneWay
set_option maxRecDepth 20000 in
theorem rn_X1_setOneWay : mm_RN flX1 ct_X1_setOneWay mm_x0 [] 0 0 2 kdX1_setOneWay sp_X1_setOneWay := by
  intro av M d Q h
  unfold sp_X1_setOneWay at h
  split at h
  · rename_i o a
    obtain ⟨rfl, ha, hq⟩ := h
    obtain ⟨K, hK, hK2⟩ : ∃ K : Nat → mm_K, (∀ t ls st M d u, K t ls st M d u → rr_X1_setOneWay Q t ls st M d u) ∧ (∀ t ls st M d u, rr_X1_setOneWay Q t ls st M d u → K t ls st M d u) := ⟨rr_X1_setOneWay Q, fun _ _ _ _ _ _ h => h, fun _ _ _ _ _ _ h => h⟩
    refine ⟨Nat.le_of_ble_eq_true rfl, mm_run_at (stop := []) (S := K) kkX1_setOneWay 90 ?_ (fun _ _ _ _ _ _ _ h => hK _ _ _ _ _ _ h)⟩
    repeat' (first | with_reducible assumption | ((with_reducible show mm_rv _ _ _ _ _); first | exact True.intro | exact mm_i2) | with_reducible exact mm_i2 | ((with_reducible show mm_bool _ _); first | exact True.intro | exact Or.inl rfl | exact Or.inr rfl | (show (_ : Int) = 0 ∨ _ = 1)) | refine And.intro ?_ ?_ | intro _ | with_reducible exact True.intro | exact rfl | with_reducible exact Or.inl rfl | with_reducible exact Or.inr rfl | exact Nat.le_of_ble_eq_true rfl)
    all_goals (try simp (disch := omega) only [InI, Int.toNat_natCast, Int.tmod_eq_emod_of_nonneg, Int.tdiv_eq_ediv_of_nonneg, true_implies, true_or, or_true, mm_l18, mm_l19, mm_l20, mm_l21, mm_l22] at *)
    all_goals first | omega | exact hq | skip
  · exact h.elim
theorem me_X1_setOneWay {l : Launch} (hl : l.stackTraces = false) : mm_Met l yX1_setOneWay cX1_setOneWay 2 none [] 6 100 0 sp_X1_setOneWay := mm_mt hl rn_X1_setOneWay ⟨plX1, rfl⟩ kkX1_setOneWay rfl ⟨Nat.le_of_ble_eq_true rfl, Nat.le_of_ble_eq_true rfl⟩ flkX1 (fun _ h => nomatch h) (trivial) (mm_xe0 _) n9X1
def sp_X1_isOfWords : mm_S := fun av M d Q => match av with
  | [.inr (.inr (.inl o))] =>  o = 2 ∧ tW M ∧ ∀ r, (0 < M 2 6 → r = 1) ∧ (M 2 6 ≤ 0 → r = 0) → Q (.inl (some (mm_I r))) M d
  | _ => False
def ct_X1_isOfWords : List (Nat × mm_Ca) := []
abbrev rr_X1_isOfWords (Q : mm_Q) := mm_run (mm_look flX1) (mm_look ct_X1_isOfWords) mm_x0 (mm_look ([] : List (Nat × Int))) (fun _ => none) 2 0 (fun _ _ => none) Q kdX1_isOfWords
set_option maxRecDepth 20000 in
theorem rn_X1_isOfWords : mm_RN flX1 ct_X1_isOfWords mm_x0 [] 2 0 1 kdX1_isOfWords sp_X1_isOfWords := by
  intro av M d Q h
  unfold sp_X1_isOfWords at h
  split at h
  · rename_i o
    obtain ⟨rfl, ht, hq⟩ := h
    have h1 := ht.2.2.2
    have q0 : M 2 6 ≤ 0 → _ := fun h => hq 0 ⟨fun h2 => by omega, fun _ => rfl⟩
    have q1 : 0 < M 2 6 → _ := fun h => hq 1 ⟨fun _ => rfl, fun h2 => by omega⟩
    clear hq ht
    obtain ⟨K, hK, hK2⟩ : ∃ K : Nat → mm_K, (∀ t ls st M d u, K t ls st M d u → rr_X1_isOfWords Q t ls st M d u) ∧ (∀ t ls st M d u, rr_X1_isOfWords Q t ls st M d u → K t ls st M d u) := ⟨rr_X1_isOfWords Q, fun _ _ _ _ _ _ h => h, fun _ _ _ _ _ _ h => h⟩
    refine ⟨Nat.le_of_ble_eq_true rfl, mm_run_at (stop := []) (S := K) kkX1_isOfWords 90 ?_ (fun _ _ _ _ _ _ _ h => hK _ _ _ _ _ _ h)⟩
    repeat' (first | with_reducible assumption | ((with_reducible show mm_rv _ _ _ _ _); first | exact True.intro | exact mm_i2) | with_reducible exact mm_i2 | ((with_reducible show mm_bool _ _); first | exact True.intro | exact Or.inl rfl | exact Or.inr rfl | (show (_ : Int) = 0 ∨ _ = 1)) | refine And.intro ?_ ?_ | intro _ | with_reducible exact True.intro | exact rfl | with_reducible exact Or.inl rfl | with_reducible exact Or.inr rfl | exact Nat.le_of_ble_eq_true rfl)
    all_goals (try simp (disch := omega) only [InI, Int.toNat_natCast, Int.tmod_eq_emod_of_nonneg, Int.tdiv_eq_ediv_of_nonneg, true_implies, true_or, or_true, mm_l18, mm_l19, mm_l20, mm_l21, mm_l22] at *)
    all_goals first | omega | exact q0 (by omega) | exact q1 (by omega) | skip
  · exact h.elim
theorem me_X1_isOfWords {l : Launch} (hl : l.stackTraces = false) : mm_Met l yX1_isOfWords cX1_isOfWords 1 (some .boolean) [] 6 100 0 sp_X1_isOfWords := mm_mt hl rn_X1_isOfWords ⟨plX1, rfl⟩ kkX1_isOfWords rfl ⟨Nat.le_of_ble_eq_true rfl, Nat.le_of_ble_eq_true rfl⟩ flkX1 (fun _ h => nomatch h) (trivial) (mm_xe0 _) n9X1
def sp_X1_signCount : mm_S := fun av M d Q => match av with
  | [.inr (.inr (.inl o))] =>  o = 2 ∧ Q (.inl (some (mm_I (M 2 6)))) M d
  | _ => False
def ct_X1_signCount : List (Nat × mm_Ca) := []
abbrev rr_X1_signCount (Q : mm_Q) := mm_run (mm_look flX1) (mm_look ct_X1_signCount) mm_x0 (mm_look ([] : List (Nat × Int))) (fun _ => none) 1 0 (fun _ _ => none) Q kdX1_signCount
set_option maxRecDepth 20000 in
theorem rn_X1_signCount : mm_RN flX1 ct_X1_signCount mm_x0 [] 1 0 1 kdX1_signCount sp_X1_signCount := by
  intro av M d Q h
  unfold sp_X1_signCount at h
  split at h
  · rename_i o
    obtain ⟨rfl, hq⟩ := h
    obtain ⟨K, hK, hK2⟩ : ∃ K : Nat → mm_K, (∀ t ls st M d u, K t ls st M d u → rr_X1_signCount Q t ls st M d u) ∧ (∀ t ls st M d u, rr_X1_signCount Q t ls st M d u → K t ls st M d u) := ⟨rr_X1_signCount Q, fun _ _ _ _ _ _ h => h, fun _ _ _ _ _ _ h => h⟩
    refine ⟨Nat.le_of_ble_eq_true rfl, mm_run_at (stop := []) (S := K) kkX1_signCount 90 ?_ (fun _ _ _ _ _ _ _ h => hK _ _ _ _ _ _ h)⟩
    repeat' (first | with_reducible assumption | ((with_reducible show mm_rv _ _ _ _ _); first | exact True.intro | exact mm_i2) | with_reducible exact mm_i2 | ((with_reducible show mm_bool _ _); first | exact True.intro | exact Or.inl rfl | exact Or.inr rfl | (show (_ : Int) = 0 ∨ _ = 1)) | refine And.intro ?_ ?_ | intro _ | with_reducible exact True.intro | exact rfl | with_reducible exact Or.inl rfl | with_reducible exact Or.inr rfl | exact Nat.le_of_ble_eq_true rfl)
    all_goals (try simp (disch := omega) only [InI, Int.toNat_natCast, Int.tmod_eq_emod_of_nonneg, Int.tdiv_eq_ediv_of_nonneg, true_implies, true_or, or_true, mm_l18, mm_l19, mm_l20, mm_l21, mm_l22] at *)
    all_goals first | omega | exact hq | skip
  · exact h.elim
theorem me_X1_signCount {l : Launch} (hl : l.stackTraces = false) : mm_Met l yX1_signCount cX1_signCount 1 (some .int) [] 6 100 0 sp_X1_signCount := mm_mt hl rn_X1_signCount ⟨plX1, rfl⟩ kkX1_signCount rfl ⟨Nat.le_of_ble_eq_true rfl, Nat.le_of_ble_eq_true rfl⟩ flkX1 (fun _ h => nomatch h) (trivial) (mm_xe0 _) n9X1
def sp_X1_wordSize : mm_S := fun av M d Q => match av with
  | [.inr (.inr (.inl o))] =>  o = 2 ∧ Q (.inl (some (mm_I (M 2 7)))) M d
  | _ => False
def ct_X1_wordSize : List (Nat × mm_Ca) := []
abbrev rr_X1_wordSize (Q : mm_Q) := mm_run (mm_look flX1) (mm_look ct_X1_wordSize) mm_x0 (mm_look ([] : List (Nat × Int))) (fun _ => none) 1 0 (fun _ _ => none) Q kdX1_wordSize
set_option maxRecDepth 20000 in
theorem rn_X1_wordSize : mm_RN flX1 ct_X1_wordSize mm_x0 [] 1 0 1 kdX1_wordSize sp_X1_wordSize := by
  intro av M d Q h
  unfold sp_X1_wordSize at h
  split at h
  · rename_i o
    obtain ⟨rfl, hq⟩ := h
    obtain ⟨K, hK, hK2⟩ : ∃ K : Nat → mm_K, (∀ t ls st M d u, K t ls st M d u → rr_X1_wordSize Q t ls st M d u) ∧ (∀ t ls st M d u, rr_X1_wordSize Q t ls st M d u → K t ls st M d u) := ⟨rr_X1_wordSize Q, fun _ _ _ _ _ _ h => h, fun _ _ _ _ _ _ h => h⟩
    refine ⟨Nat.le_of_ble_eq_true rfl, mm_run_at (stop := []) (S := K) kkX1_wordSize 90 ?_ (fun _ _ _ _ _ _ _ h => hK _ _ _ _ _ _ h)⟩
    repeat' (first | with_reducible assumption | ((with_reducible show mm_rv _ _ _ _ _); first | exact True.intro | exact mm_i2) | with_reducible exact mm_i2 | ((with_reducible show mm_bool _ _); first | exact True.intro | exact Or.inl rfl | exact Or.inr rfl | (show (_ : Int) = 0 ∨ _ = 1)) | refine And.intro ?_ ?_ | intro _ | with_reducible exact True.intro | exact rfl | with_reducible exact Or.inl rfl | with_reducible exact Or.inr rfl | exact Nat.le_of_ble_eq_true rfl)
    all_goals (try simp (disch := omega) only [InI, Int.toNat_natCast, Int.tmod_eq_emod_of_nonneg, Int.tdiv_eq_ediv_of_nonneg, true_implies, true_or, or_true, mm_l18, mm_l19, mm_l20, mm_l21, mm_l22] at *)
    all_goals first | omega | exact hq | skip
  · exact h.elim
theorem me_X1_wordSize {l : Launch} (hl : l.stackTraces = false) : mm_Met l yX1_wordSize cX1_wordSize 1 (some .int) [] 6 100 0 sp_X1_wordSize := mm_mt hl rn_X1_wordSize ⟨plX1, rfl⟩ kkX1_wordSize rfl ⟨Nat.le_of_ble_eq_true rfl, Nat.le_of_ble_eq_true rfl⟩ flkX1 (fun _ h => nomatch h) (trivial) (mm_xe0 _) n9X1
def sp_X1_signOf : mm_S := fun av M d Q => match av with
  | [.inr (.inr (.inl o)), .inl a] =>  o = 2 ∧ tW M ∧ (0 ≤ a ∧ a < 100) ∧ ∀ r, (0 < M 2 6 → r = a % M 2 6 ∧ 0 ≤ r ∧ r < M 2 6) ∧ (M 2 6 ≤ 0 → r = 0) → Q (.inl (some (mm_I r))) M d
  | _ => False
def ct_X1_signOf : List (Nat × mm_Ca) := []
abbrev rr_X1_signOf (Q : mm_Q) := mm_run (mm_look flX1) (mm_look ct_X1_signOf) mm_x0 (mm_look ([] : List (Nat × Int))) (fun _ => none) 1 0 (fun _ _ => none) Q kdX1_signOf
set_option maxRecDepth 20000 in
theorem rn_X1_signOf : mm_RN flX1 ct_X1_signOf mm_x0 [] 1 0 2 kdX1_signOf sp_X1_signOf := by
  intro av M d Q h
  unfold sp_X1_signOf at h
  split at h
  · rename_i o a
    obtain ⟨rfl, ht, ha, hq⟩ := h
    have h1 := ht.2.2.2
    have q0 : M 2 6 ≤ 0 → _ := fun h => hq 0 ⟨fun h2 => by omega, fun _ => rfl⟩
    have q1 : 0 < M 2 6 → _ := fun h => hq (a.tmod (M 2 6)) ⟨fun _ => by
      rw [Int.tmod_eq_emod_of_nonneg ha.1]
      exact ⟨rfl, Int.emod_nonneg _ (by omega), Int.emod_lt_of_pos _ h⟩, fun h2 => by omega⟩
    clear hq ht
    obtain ⟨K, hK, hK2⟩ : ∃ K : Nat → mm_K, (∀ t ls st M d u, K t ls st M d u → rr_X1_signOf Q t ls st M d u) ∧ (∀ t ls st M d u, rr_X1_signOf Q t ls st M d u → K t ls st M d u) := ⟨rr_X1_signOf Q, fun _ _ _ _ _ _ h => h, fun _ _ _ _ _ _ h => h⟩
    refine ⟨Nat.le_of_ble_eq_true rfl, mm_run_at (stop := []) (S := K) kkX1_signOf 90 ?_ (fun _ _ _ _ _ _ _ h => hK _ _ _ _ _ _ h)⟩
    repeat' (first | with_reducible assumption | ((with_reducible show mm_rv _ _ _ _ _); first | exact True.intro | exact mm_i2) | with_reducible exact mm_i2 | ((with_reducible show mm_bool _ _); first | exact True.intro | exact Or.inl rfl | exact Or.inr rfl | (show (_ : Int) = 0 ∨ _ = 1)) | refine And.intro ?_ ?_ | intro _ | with_reducible exact True.intro | exact rfl | with_reducible exact Or.inl rfl | with_reducible exact Or.inr rfl | exact Nat.le_of_ble_eq_true rfl)
    all_goals first | (show InI _; exact ⟨by omega, by omega⟩) | omega | exact q0 (by omega) | exact q1 (by omega) | skip
  · exact h.elim
theorem me_X1_signOf {l : Launch} (hl : l.stackTraces = false) : mm_Met l yX1_signOf cX1_signOf 2 (some .int) [] 6 100 0 sp_X1_signOf := mm_mt hl rn_X1_signOf ⟨plX1, rfl⟩ kkX1_signOf rfl ⟨Nat.le_of_ble_eq_true rfl, Nat.le_of_ble_eq_true rfl⟩ flkX1 (fun _ h => nomatch h) (trivial) (mm_xe0 _) n9X1
def sp_X1_addStreet : mm_S := fun av M d Q => match av with
  | [.inr (.inr (.inl o)), .inl a, .inl b] =>  o = 2 ∧ tW M ∧ M 2 4 < 30 ∧ (0 ≤ a ∧ a < 10) ∧ (0 ≤ b ∧ b < 10) ∧ Q (.inl none) (mm_up (mm_up (mm_up M 3 (M 2 4).toNat a) 4 (M 2 4).toNat b) 2 4 (M 2 4 + 1)) d
  | _ => False
def ct_X1_addStreet : List (Nat × mm_Ca) := [(38, (1, 1, 0, sp_X1_isCorner, 0))]
abbrev rr_X1_addStreet (Q : mm_Q) := mm_run (mm_look flX1) (mm_look ct_X1_addStreet) mm_x0 (mm_look ([] : List (Nat × Int))) (fun _ => none) 0 0 (fun _ _ => none) Q kdX1_addStreet
set_option maxRecDepth 20000 in
theorem rn_X1_addStreet : mm_RN flX1 ct_X1_addStreet mm_x0 [] 0 0 3 kdX1_addStreet sp_X1_addStreet := by
  intro av M d Q h
  unfold sp_X1_addStreet at h
  split at h
  · rename_i o a b
    obtain ⟨rfl, ht, hn, ha, hb, hq⟩ := h
    have h1 := ht.1
    have e1 : ∀ x y z : Int, mm_up (mm_up M 3 x.toNat y) 4 x.toNat z 2 4 = M 2 4 := fun x y z => by simp [mm_up]
    have e2 : ∀ x y : Int, mm_up M 3 x.toNat y 2 4 = M 2 4 := fun x y => by simp [mm_up]
    clear ht
    obtain ⟨K, hK, hK2⟩ : ∃ K : Nat → mm_K, (∀ t ls st M d u, K t ls st M d u → rr_X1_addStreet Q t ls st M d u) ∧ (∀ t ls st M d u, rr_X1_addStreet Q t ls st M d u → K t ls st M d u) := ⟨rr_X1_addStreet Q, fun _ _ _ _ _ _ h => h, fun _ _ _ _ _ _ h => h⟩
    refine ⟨Nat.le_of_ble_eq_true rfl, mm_run_at (stop := []) (S := K) kkX1_addStreet 90 ?_ (fun _ _ _ _ _ _ _ h => hK _ _ _ _ _ _ h)⟩
    repeat' (first | with_reducible assumption | ((with_reducible show mm_rv _ _ _ _ _); first | exact True.intro | exact mm_i2 | exact mm_i3 | exact mm_i4) | with_reducible exact mm_i2 | with_reducible exact mm_i3 | with_reducible exact mm_i4 | ((with_reducible show mm_bool _ _); first | exact True.intro | exact Or.inl rfl | exact Or.inr rfl | (show (_ : Int) = 0 ∨ _ = 1)) | refine And.intro ?_ ?_ | intro _ | with_reducible exact True.intro | exact rfl | with_reducible exact Or.inl rfl | with_reducible exact Or.inr rfl | exact Nat.le_of_ble_eq_true rfl)
    all_goals (try simp (disch := omega) only [e1, e2, mm_l3, mm_l4, InI, Int.toNat_natCast, Int.tmod_eq_emod_of_nonneg, Int.tdiv_eq_ediv_of_nonneg, true_implies, true_or, or_true, mm_l18, mm_l19, mm_l20, mm_l21, mm_l22] at *)
    all_goals first | omega | exact hq | skip
  · exact h.elim
theorem me_X1_addStreet {l : Launch} (hl : l.stackTraces = false) : mm_Met l yX1_addStreet cX1_addStreet 3 none [] 7 120 0 sp_X1_addStreet := mm_mt hl rn_X1_addStreet ⟨plX1, rfl⟩ kkX1_addStreet rfl ⟨Nat.le_of_ble_eq_true rfl, Nat.le_of_ble_eq_true rfl⟩ flkX1 (fun _ h => nomatch h) (⟨mm_pe (me_X1_isCorner hl) mwX1_isCorner (mm_t1 236 rfl rfl) (Nat.le_of_ble_eq_true rfl) (Nat.le_of_ble_eq_true rfl), trivial⟩) (mm_xe0 _) n9X1
def sp_X1_endWords : mm_S := fun av M d Q => match av with
  | [.inr (.inr (.inl o))] =>  o = 2 ∧ Q (.inl none) (mm_up (mm_up M 2 6 0) 2 7 0) d
  | _ => False
def ct_X1_endWords : List (Nat × mm_Ca) := []
abbrev rr_X1_endWords (Q : mm_Q) := mm_run (mm_look flX1) (mm_look ct_X1_endWords) mm_x0 (mm_look ([] : List (Nat × Int))) (fun _ => none) 0 0 (fun _ _ => none) Q kdX1_endWords
set_option maxRecDepth 20000 in
theorem rn_X1_endWords : mm_RN flX1 ct_X1_endWords mm_x0 [] 0 0 1 kdX1_endWords sp_X1_endWords := by
  intro av M d Q h
  unfold sp_X1_endWords at h
  split at h
  · rename_i o
    obtain ⟨rfl, hq⟩ := h
    obtain ⟨K, hK, hK2⟩ : ∃ K : Nat → mm_K, (∀ t ls st M d u, K t ls st M d u → rr_X1_endWords Q t ls st M d u) ∧ (∀ t ls st M d u, rr_X1_endWords Q t ls st M d u → K t ls st M d u) := ⟨rr_X1_endWords Q, fun _ _ _ _ _ _ h => h, fun _ _ _ _ _ _ h => h⟩
    refine ⟨Nat.le_of_ble_eq_true rfl, mm_run_at (stop := []) (S := K) kkX1_endWords 90 ?_ (fun _ _ _ _ _ _ _ h => hK _ _ _ _ _ _ h)⟩
    repeat' (first | with_reducible assumption | ((with_reducible show mm_rv _ _ _ _ _); first | exact True.intro | exact mm_i2) | with_reducible exact mm_i2 | ((with_reducible show mm_bool _ _); first | exact True.intro | exact Or.inl rfl | exact Or.inr rfl | (show (_ : Int) = 0 ∨ _ = 1)) | refine And.intro ?_ ?_ | intro _ | with_reducible exact True.intro | exact rfl | with_reducible exact Or.inl rfl | with_reducible exact Or.inr rfl | exact Nat.le_of_ble_eq_true rfl)
    all_goals (try simp (disch := omega) only [InI, Int.toNat_natCast, Int.tmod_eq_emod_of_nonneg, Int.tdiv_eq_ediv_of_nonneg, true_implies, true_or, or_true, mm_l18, mm_l19, mm_l20, mm_l21, mm_l22] at *)
    all_goals first | omega | exact hq | skip
  · exact h.elim
theorem me_X1_endWords {l : Launch} (hl : l.stackTraces = false) : mm_Met l yX1_endWords cX1_endWords 1 none [] 6 100 0 sp_X1_endWords := mm_mt hl rn_X1_endWords ⟨plX1, rfl⟩ kkX1_endWords rfl ⟨Nat.le_of_ble_eq_true rfl, Nat.le_of_ble_eq_true rfl⟩ flkX1 (fun _ h => nomatch h) (trivial) (mm_xe0 _) n9X1
def sp_X1_fromOf : mm_S := fun av M d Q => match av with
  | [.inr (.inr (.inl o)), .inl s] =>  o = 2 ∧ tW M ∧ (0 ≤ s ∧ s < M 2 4) ∧ ∀ r, r = M 3 s.toNat ∧ 0 ≤ r ∧ r < 10 → Q (.inl (some (mm_I r))) M d
  | _ => False
def ct_X1_fromOf : List (Nat × mm_Ca) := []
abbrev rr_X1_fromOf (Q : mm_Q) := mm_run (mm_look flX1) (mm_look ct_X1_fromOf) mm_x0 (mm_look ([] : List (Nat × Int))) (fun _ => none) 1 0 (fun _ _ => none) Q kdX1_fromOf
set_option maxRecDepth 20000 in
theorem rn_X1_fromOf : mm_RN flX1 ct_X1_fromOf mm_x0 [] 1 0 2 kdX1_fromOf sp_X1_fromOf := by
  intro av M d Q h
  unfold sp_X1_fromOf at h
  split at h
  · rename_i o s
    obtain ⟨rfl, ht, hs, hq⟩ := h
    have h1 := ht.1
    have h2 := ht.2.1 s.toNat (by omega)
    have hq := hq _ ⟨rfl, h2.1⟩
    clear ht h2
    obtain ⟨K, hK, hK2⟩ : ∃ K : Nat → mm_K, (∀ t ls st M d u, K t ls st M d u → rr_X1_fromOf Q t ls st M d u) ∧ (∀ t ls st M d u, rr_X1_fromOf Q t ls st M d u → K t ls st M d u) := ⟨rr_X1_fromOf Q, fun _ _ _ _ _ _ h => h, fun _ _ _ _ _ _ h => h⟩
    refine ⟨Nat.le_of_ble_eq_true rfl, mm_run_at (stop := []) (S := K) kkX1_fromOf 90 ?_ (fun _ _ _ _ _ _ _ h => hK _ _ _ _ _ _ h)⟩
    repeat' (first | with_reducible assumption | ((with_reducible show mm_rv _ _ _ _ _); first | exact True.intro | exact mm_i2 | exact mm_i3) | with_reducible exact mm_i2 | with_reducible exact mm_i3 | ((with_reducible show mm_bool _ _); first | exact True.intro | exact Or.inl rfl | exact Or.inr rfl | (show (_ : Int) = 0 ∨ _ = 1)) | refine And.intro ?_ ?_ | intro _ | with_reducible exact True.intro | exact rfl | with_reducible exact Or.inl rfl | with_reducible exact Or.inr rfl | exact Nat.le_of_ble_eq_true rfl)
    all_goals (try simp (disch := omega) only [mm_l3, InI, Int.toNat_natCast, Int.tmod_eq_emod_of_nonneg, Int.tdiv_eq_ediv_of_nonneg, true_implies, true_or, or_true, mm_l18, mm_l19, mm_l20, mm_l21, mm_l22] at *)
    all_goals first | omega | exact hq | skip
  · exact h.elim
theorem me_X1_fromOf {l : Launch} (hl : l.stackTraces = false) : mm_Met l yX1_fromOf cX1_fromOf 2 (some .int) [] 6 100 0 sp_X1_fromOf := mm_mt hl rn_X1_fromOf ⟨plX1, rfl⟩ kkX1_fromOf rfl ⟨Nat.le_of_ble_eq_true rfl, Nat.le_of_ble_eq_true rfl⟩ flkX1 (fun _ h => nomatch h) (trivial) (mm_xe0 _) n9X1
def sp_X1_toOf : mm_S := fun av M d Q => match av with
  | [.inr (.inr (.inl o)), .inl s] =>  o = 2 ∧ tW M ∧ (0 ≤ s ∧ s < M 2 4) ∧ ∀ r, r = M 4 s.toNat ∧ 0 ≤ r ∧ r < 10 → Q (.inl (some (mm_I r))) M d
  | _ => False
def ct_X1_toOf : List (Nat × mm_Ca) := []
abbrev rr_X1_toOf (Q : mm_Q) := mm_run (mm_look flX1) (mm_look ct_X1_toOf) mm_x0 (mm_look ([] : List (Nat × Int))) (fun _ => none) 1 0 (fun _ _ => none) Q kdX1_toOf
set_option maxRecDepth 20000 in
theorem rn_X1_toOf : mm_RN flX1 ct_X1_toOf mm_x0 [] 1 0 2 kdX1_toOf sp_X1_toOf := by
  intro av M d Q h
  unfold sp_X1_toOf at h
  split at h
  · rename_i o s
    obtain ⟨rfl, ht, hs, hq⟩ := h
    have h1 := ht.1
    have h2 := ht.2.1 s.toNat (by omega)
    have hq := hq _ ⟨rfl, h2.2⟩
    clear ht h2
    obtain ⟨K, hK, hK2⟩ : ∃ K : Nat → mm_K, (∀ t ls st M d u, K t ls st M d u → rr_X1_toOf Q t ls st M d u) ∧ (∀ t ls st M d u, rr_X1_toOf Q t ls st M d u → K t ls st M d u) := ⟨rr_X1_toOf Q, fun _ _ _ _ _ _ h => h, fun _ _ _ _ _ _ h => h⟩
    refine ⟨Nat.le_of_ble_eq_true rfl, mm_run_at (stop := []) (S := K) kkX1_toOf 90 ?_ (fun _ _ _ _ _ _ _ h => hK _ _ _ _ _ _ h)⟩
    repeat' (first | with_reducible assumption | ((with_reducible show mm_rv _ _ _ _ _); first | exact True.intro | exact mm_i2 | exact mm_i4) | with_reducible exact mm_i2 | with_reducible exact mm_i4 | ((with_reducible show mm_bool _ _); first | exact True.intro | exact Or.inl rfl | exact Or.inr rfl | (show (_ : Int) = 0 ∨ _ = 1)) | refine And.intro ?_ ?_ | intro _ | with_reducible exact True.intro | exact rfl | with_reducible exact Or.inl rfl | with_reducible exact Or.inr rfl | exact Nat.le_of_ble_eq_true rfl)
    all_goals (try simp (disch := omega) only [mm_l4, InI, Int.toNat_natCast, Int.tmod_eq_emod_of_nonneg, Int.tdiv_eq_ediv_of_nonneg, true_implies, true_or, or_true, mm_l18, mm_l19, mm_l20, mm_l21, mm_l22] at *)
    all_goals first | omega | exact hq | skip
  · exact h.elim
theorem me_X1_toOf {l : Launch} (hl : l.stackTraces = false) : mm_Met l yX1_toOf cX1_toOf 2 (some .int) [] 6 100 0 sp_X1_toOf := mm_mt hl rn_X1_toOf ⟨plX1, rfl⟩ kkX1_toOf rfl ⟨Nat.le_of_ble_eq_true rfl, Nat.le_of_ble_eq_true rfl⟩ flkX1 (fun _ h => nomatch h) (trivial) (mm_xe0 _) n9X1
def sp_X1_isLoop : mm_S := fun av M d Q => match av with
  | [.inr (.inr (.inl o)), .inl s] =>  o = 2 ∧ tW M ∧ (0 ≤ s ∧ s < M 2 4) ∧ ∀ r, (M 3 s.toNat = M 4 s.toNat → r = 1) ∧ (M 3 s.toNat ≠ M 4 s.toNat → r = 0) → Q (.inl (some (mm_I r))) M d
  | _ => False
def ct_X1_isLoop : List (Nat × mm_Ca) := [(53, (0, 2, 11, sp_X1_fromOf, 0)), (57, (0, 2, 11, sp_X1_toOf, 0))]
abbrev rr_X1_isLoop (Q : mm_Q) := mm_run (mm_look flX1) (mm_look ct_X1_isLoop) mm_x0 (mm_look ([] : List (Nat × Int))) (fun _ => none) 2 0 (fun _ _ => none) Q kdX1_isLoop
set_option maxRecDepth 20000 in
theorem rn_X1_isLoop : mm_RN flX1 ct_X1_isLoop mm_x0 [] 2 0 2 kdX1_isLoop sp_X1_isLoop := by
  intro av M d Q h
  unfold sp_X1_isLoop at h
  split at h
  · rename_i o s
    obtain ⟨rfl, ht, hs, hq⟩ := h
    have q0 := fun h => hq 0 ⟨fun h2 => absurd h2 h, fun _ => rfl⟩
    have q1 := fun h => hq 1 ⟨fun _ => rfl, fun h2 => absurd h h2⟩
    clear hq
    obtain ⟨K, hK, hK2⟩ : ∃ K : Nat → mm_K, (∀ t ls st M d u, K t ls st M d u → rr_X1_isLoop Q t ls st M d u) ∧ (∀ t ls st M d u, rr_X1_isLoop Q t ls st M d u → K t ls st M d u) := ⟨rr_X1_isLoop Q, fun _ _ _ _ _ _ h => h, fun _ _ _ _ _ _ h => h⟩
    refine ⟨Nat.le_of_ble_eq_true rfl, mm_run_at (stop := []) (S := K) kkX1_isLoop 90 ?_ (fun _ _ _ _ _ _ _ h => hK _ _ _ _ _ _ h)⟩
    repeat' (first | with_reducible assumption | ((with_reducible show mm_rv _ _ _ _ _); first | exact True.intro | exact mm_i2) | with_reducible exact mm_i2 | ((with_reducible show mm_bool _ _); first | exact True.intro | exact Or.inl rfl | exact Or.inr rfl | (show (_ : Int) = 0 ∨ _ = 1)) | refine And.intro ?_ ?_ | intro _ | with_reducible exact True.intro | exact rfl | with_reducible exact Or.inl rfl | with_reducible exact Or.inr rfl | exact Nat.le_of_ble_eq_true rfl)
    all_goals (try simp (disch := omega) only [InI, Int.toNat_natCast, Int.tmod_eq_emod_of_nonneg, Int.tdiv_eq_ediv_of_nonneg, true_implies, true_or, or_true, mm_l18, mm_l19, mm_l20, mm_l21, mm_l22] at *)
    all_goals first | omega | exact q0 (by omega) | exact q1 (by omega) | skip
  · exact h.elim
theorem me_X1_isLoop {l : Launch} (hl : l.stackTraces = false) : mm_Met l yX1_isLoop cX1_isLoop 2 (some .boolean) [] 7 121 0 sp_X1_isLoop := mm_mt hl rn_X1_isLoop ⟨plX1, rfl⟩ kkX1_isLoop rfl ⟨Nat.le_of_ble_eq_true rfl, Nat.le_of_ble_eq_true rfl⟩ flkX1 (fun _ h => nomatch h) (⟨mm_pe (me_X1_fromOf hl) mwX1_fromOf (mm_t1 203 rfl rfl) (Nat.le_of_ble_eq_true rfl) (Nat.le_of_ble_eq_true rfl), mm_pe (me_X1_toOf hl) mwX1_toOf (mm_t1 199 rfl rfl) (Nat.le_of_ble_eq_true rfl) (Nat.le_of_ble_eq_true rfl), trivial⟩) (mm_xe0 _) n9X1
def sp_X1_goalOf : mm_S := fun av M d Q => match av with
  | [.inr (.inr (.inl o)), .inl s] =>  o = 2 ∧ tW M ∧ (0 ≤ s ∧ s < 2 * M 2 4) ∧ ∀ r, r = gl M s ∧ 0 ≤ r ∧ r < 10 → Q (.inl (some (mm_I r))) M d
  | _ => False
def ct_X1_goalOf : List (Nat × mm_Ca) := [(57, (0, 2, 11, sp_X1_toOf, 0)), (53, (0, 2, 11, sp_X1_fromOf, 0))]
abbrev rr_X1_goalOf (Q : mm_Q) := mm_run (mm_look flX1) (mm_look ct_X1_goalOf) mm_x0 (mm_look ([] : List (Nat × Int))) (fun _ => none) 1 0 (fun _ _ => none) Q kdX1_goalOf
set_option maxRecDepth 20000 in
theorem rn_X1_goalOf : mm_RN flX1 ct_X1_goalOf mm_x0 [] 1 0 3 kdX1_goalOf sp_X1_goalOf := by
  intro av M d Q h
  unfold sp_X1_goalOf at h
  split at h
  · rename_i o s
    obtain ⟨rfl, ht, hs, hq⟩ := h
    have h1 := ht.1
    have hi : InI s := ⟨by omega, by omega⟩
    have ea := mm_and1 hi
    have g0 : s % 2 = 0 → ∀ r, r = M 4 (s / 2).toNat ∧ 0 ≤ r ∧ r < 10 → _ := fun h r hr => hq r (by unfold gl; rw [if_pos h]; exact hr)
    have g1 : ¬ s % 2 = 0 → ∀ r, r = M 3 (s / 2).toNat ∧ 0 ≤ r ∧ r < 10 → _ := fun h r hr => hq r (by unfold gl; rw [if_neg h]; exact hr)
    clear hq
    obtain ⟨K, hK, hK2⟩ : ∃ K : Nat → mm_K, (∀ t ls st M d u, K t ls st M d u → rr_X1_goalOf Q t ls st M d u) ∧ (∀ t ls st M d u, rr_X1_goalOf Q t ls st M d u → K t ls st M d u) := ⟨rr_X1_goalOf Q, fun _ _ _ _ _ _ h => h, fun _ _ _ _ _ _ h => h⟩
    refine ⟨Nat.le_of_ble_eq_true rfl, mm_run_at (stop := []) (S := K) kkX1_goalOf 90 ?_ (fun _ _ _ _ _ _ _ h => hK _ _ _ _ _ _ h)⟩
    repeat' (first | with_reducible assumption | ((with_reducible show mm_rv _ _ _ _ _); first | exact True.intro | exact mm_i2) | with_reducible exact mm_i2 | ((with_reducible show mm_bool _ _); first | exact True.intro | exact Or.inl rfl | exact Or.inr rfl | (show (_ : Int) = 0 ∨ _ = 1)) | refine And.intro ?_ ?_ | intro _ | with_reducible exact True.intro | exact rfl | with_reducible exact Or.inl rfl | with_reducible exact Or.inr rfl | exact Nat.le_of_ble_eq_true rfl)
    all_goals (try simp (disch := omega) only [tp1, ea, InI, Int.toNat_natCast, Int.tmod_eq_emod_of_nonneg, Int.tdiv_eq_ediv_of_nonneg, true_implies, true_or, or_true, mm_l18, mm_l19, mm_l20, mm_l21, mm_l22] at *)
    all_goals first | omega | exact g0 (by omega) _ (by assumption) | exact g1 (by omega) _ (by assumption) | skip
  · exact h.elim
theorem me_X1_goalOf {l : Launch} (hl : l.stackTraces = false) : mm_Met l yX1_goalOf cX1_goalOf 3 (some .int) [] 7 121 0 sp_X1_goalOf := mm_mt hl rn_X1_goalOf ⟨plX1, rfl⟩ kkX1_goalOf rfl ⟨Nat.le_of_ble_eq_true rfl, Nat.le_of_ble_eq_true rfl⟩ flkX1 (fun _ h => nomatch h) (⟨mm_pe (me_X1_toOf hl) mwX1_toOf (mm_t1 199 rfl rfl) (Nat.le_of_ble_eq_true rfl) (Nat.le_of_ble_eq_true rfl), mm_pe (me_X1_fromOf hl) mwX1_fromOf (mm_t1 203 rfl rfl) (Nat.le_of_ble_eq_true rfl) (Nat.le_of_ble_eq_true rfl), trivial⟩) (mm_xe0 _) n9X1
def sp_X1_sourceOf : mm_S := fun av M d Q => match av with
  | [.inr (.inr (.inl o)), .inl s] =>  o = 2 ∧ tW M ∧ (0 ≤ s ∧ s < 2 * M 2 4) ∧ ∀ r, r = sr M s ∧ 0 ≤ r ∧ r < 10 → Q (.inl (some (mm_I r))) M d
  | _ => False
def ct_X1_sourceOf : List (Nat × mm_Ca) := [(60, (0, 2, 11, sp_X1_goalOf, 0))]
abbrev rr_X1_sourceOf (Q : mm_Q) := mm_run (mm_look flX1) (mm_look ct_X1_sourceOf) mm_x0 (mm_look ([] : List (Nat × Int))) (fun _ => none) 1 0 (fun _ _ => none) Q kdX1_sourceOf
set_option maxRecDepth 20000 in
theorem rn_X1_sourceOf : mm_RN flX1 ct_X1_sourceOf mm_x0 [] 1 0 2 kdX1_sourceOf sp_X1_sourceOf := by
  intro av M d Q h
  unfold sp_X1_sourceOf at h
  split at h
  · rename_i o s
    obtain ⟨rfl, ht, hs, hq⟩ := h
    have h1 := ht.1
    have hx := mm_xor1 (show 0 ≤ s ∧ s < 2147483647 by omega)
    have e : gl M (if s % 2 = 0 then s + 1 else s - 1) = sr M s := by
      unfold gl sr
      by_cases h2 : s % 2 = 0
      · rw [if_pos h2, if_neg (by omega), if_pos h2, show (s + 1) / 2 = s / 2 by omega]
      · rw [if_neg h2, if_pos (by omega), if_neg h2, show (s - 1) / 2 = s / 2 by omega]
    rw [← hx] at e
    have hb : 0 ≤ mm_xor s 1 ∧ mm_xor s 1 < 2 * M 2 4 := by
      rw [hx]
      split <;> omega
    have hq2 : ∀ r, r = gl M (mm_xor s 1) ∧ 0 ≤ r ∧ r < 10 → _ := fun r hr => hq r ⟨hr.1.trans e, hr.2⟩
    clear hq hx e
    obtain ⟨K, hK, hK2⟩ : ∃ K : Nat → mm_K, (∀ t ls st M d u, K t ls st M d u → rr_X1_sourceOf Q t ls st M d u) ∧ (∀ t ls st M d u, rr_X1_sourceOf Q t ls st M d u → K t ls st M d u) := ⟨rr_X1_sourceOf Q, fun _ _ _ _ _ _ h => h, fun _ _ _ _ _ _ h => h⟩
    refine ⟨Nat.le_of_ble_eq_true rfl, mm_run_at (stop := []) (S := K) kkX1_sourceOf 90 ?_ (fun _ _ _ _ _ _ _ h => hK _ _ _ _ _ _ h)⟩
    repeat' (first | with_reducible assumption | ((with_reducible show mm_rv _ _ _ _ _); first | exact True.intro | exact mm_i2) | with_reducible exact mm_i2 | ((with_reducible show mm_bool _ _); first | exact True.intro | exact Or.inl rfl | exact Or.inr rfl | (show (_ : Int) = 0 ∨ _ = 1)) | refine And.intro ?_ ?_ | intro _ | with_reducible exact True.intro | exact rfl | with_reducible exact Or.inl rfl | with_reducible exact Or.inr rfl | exact Nat.le_of_ble_eq_true rfl)
    all_goals (try simp (disch := omega) only [InI, Int.toNat_natCast, Int.tmod_eq_emod_of_nonneg, Int.tdiv_eq_ediv_of_nonneg, true_implies, true_or, or_true, mm_l18, mm_l19, mm_l20, mm_l21, mm_l22] at *)
    all_goals first | omega | exact hq2 _ (by assumption) | skip
  · exact h.elim
theorem me_X1_sourceOf {l : Launch} (hl : l.stackTraces = false) : mm_Met l yX1_sourceOf cX1_sourceOf 2 (some .int) [] 8 143 0 sp_X1_sourceOf := mm_mt hl rn_X1_sourceOf ⟨plX1, rfl⟩ kkX1_sourceOf rfl ⟨Nat.le_of_ble_eq_true rfl, Nat.le_of_ble_eq_true rfl⟩ flkX1 (fun _ h => nomatch h) (⟨mm_pe (me_X1_goalOf hl) mwX1_goalOf (mm_t2 110 rfl rfl) (Nat.le_of_ble_eq_true rfl) (Nat.le_of_ble_eq_true rfl), trivial⟩) (mm_xe0 _) n9X1
def sp_X1_leaving : mm_S := fun av M d Q => match av with
  | [.inr (.inr (.inl o)), .inl s, .inl c] =>  o = 2 ∧ tW M ∧ (0 ≤ s ∧ s < M 2 4) ∧ InI c ∧ ∀ r, r = lv M s c ∧ -1 ≤ r ∧ r < 2 * M 2 4 ∧ (0 ≤ r → r / 2 = s) → Q (.inl (some (mm_I r))) M d
  | _ => False
def ct_X1_leaving : List (Nat × mm_Ca) := [(53, (0, 2, 11, sp_X1_fromOf, 0)), (57, (0, 2, 11, sp_X1_toOf, 0))]
abbrev rr_X1_leaving (Q : mm_Q) := mm_run (mm_look flX1) (mm_look ct_X1_leaving) mm_x0 (mm_look ([] : List (Nat × Int))) (fun _ => none) 1 0 (fun _ _ => none) Q kdX1_leaving
set_option maxRecDepth 20000 in
theorem rn_X1_leaving : mm_RN flX1 ct_X1_leaving mm_x0 [] 1 0 3 kdX1_leaving sp_X1_leaving := by
  intro av M d Q h
  unfold sp_X1_leaving at h
  split at h
  · rename_i o s c
    obtain ⟨rfl, ht, hs, hc, hq⟩ := h
    have h1 := ht.1
    have h3 := ht.2.2.1
    have qa : M 3 s.toNat = c → ∀ r, r = 2 * s → _ := fun h r hr => hq r ⟨by unfold lv; rw [if_pos h]; exact hr, by omega, by omega, fun _ => by omega⟩
    have qb : M 3 s.toNat ≠ c → M 2 5 = 0 ∧ M 4 s.toNat = c → ∀ r, r = 2 * s + 1 → _ := fun h h2 r hr => hq r ⟨by unfold lv; rw [if_neg h, if_pos h2]; exact hr, by omega, by omega, fun _ => by omega⟩
    have qc : M 3 s.toNat ≠ c → ¬ (M 2 5 = 0 ∧ M 4 s.toNat = c) → _ := fun h h2 => hq (-1) ⟨by unfold lv; rw [if_neg h, if_neg h2], by omega, by omega, fun h => by omega⟩
    clear hq
    obtain ⟨K, hK, hK2⟩ : ∃ K : Nat → mm_K, (∀ t ls st M d u, K t ls st M d u → rr_X1_leaving Q t ls st M d u) ∧ (∀ t ls st M d u, rr_X1_leaving Q t ls st M d u → K t ls st M d u) := ⟨rr_X1_leaving Q, fun _ _ _ _ _ _ h => h, fun _ _ _ _ _ _ h => h⟩
    refine ⟨Nat.le_of_ble_eq_true rfl, mm_run_at (stop := []) (S := K) kkX1_leaving 90 ?_ (fun _ _ _ _ _ _ _ h => hK _ _ _ _ _ _ h)⟩
    repeat' (first | with_reducible assumption | ((with_reducible show mm_rv _ _ _ _ _); first | exact True.intro | exact mm_i2) | with_reducible exact mm_i2 | ((with_reducible show mm_bool _ _); first | exact True.intro | exact Or.inl rfl | exact Or.inr rfl | (show (_ : Int) = 0 ∨ _ = 1)) | refine And.intro ?_ ?_ | intro _ | with_reducible exact True.intro | exact rfl | with_reducible exact Or.inl rfl | with_reducible exact Or.inr rfl | exact Nat.le_of_ble_eq_true rfl)
    all_goals (try simp (disch := omega) only [InI, Int.toNat_natCast, Int.tmod_eq_emod_of_nonneg, Int.tdiv_eq_ediv_of_nonneg, true_implies, true_or, or_true, mm_l18, mm_l19, mm_l20, mm_l21, mm_l22] at *)
    all_goals first | omega | exact qa (by omega) _ (by omega) | exact qb (by omega) (by omega) _ (by omega) | exact qc (by omega) (by omega) | skip
  · exact h.elim
theorem me_X1_leaving {l : Launch} (hl : l.stackTraces = false) : mm_Met l yX1_leaving cX1_leaving 3 (some .int) [] 7 121 0 sp_X1_leaving := mm_mt hl rn_X1_leaving ⟨plX1, rfl⟩ kkX1_leaving rfl ⟨Nat.le_of_ble_eq_true rfl, Nat.le_of_ble_eq_true rfl⟩ flkX1 (fun _ h => nomatch h) (⟨mm_pe (me_X1_fromOf hl) mwX1_fromOf (mm_t1 203 rfl rfl) (Nat.le_of_ble_eq_true rfl) (Nat.le_of_ble_eq_true rfl), mm_pe (me_X1_toOf hl) mwX1_toOf (mm_t1 199 rfl rfl) (Nat.le_of_ble_eq_true rfl) (Nat.le_of_ble_eq_true rfl), trivial⟩) (mm_xe0 _) n9X1
def sp_X1_comingTo : mm_S := fun av M d Q => match av with
  | [.inr (.inr (.inl o)), .inl s, .inl c] =>  o = 2 ∧ tW M ∧ (0 ≤ s ∧ s < M 2 4) ∧ InI c ∧ ∀ r, r = cm M s c ∧ -1 ≤ r ∧ r < 2 * M 2 4 ∧ (0 ≤ r → r / 2 = s) → Q (.inl (some (mm_I r))) M d
  | _ => False
def ct_X1_comingTo : List (Nat × mm_Ca) := [(57, (0, 2, 11, sp_X1_toOf, 0)), (53, (0, 2, 11, sp_X1_fromOf, 0))]
abbrev rr_X1_comingTo (Q : mm_Q) := mm_run (mm_look flX1) (mm_look ct_X1_comingTo) mm_x0 (mm_look ([] : List (Nat × Int))) (fun _ => none) 1 0 (fun _ _ => none) Q kdX1_comingTo
set_option maxRecDepth 20000 in
theorem rn_X1_comingTo : mm_RN flX1 ct_X1_comingTo mm_x0 [] 1 0 3 kdX1_comingTo sp_X1_comingTo := by
  intro av M d Q h
  unfold sp_X1_comingTo at h
  split at h
  · rename_i o s c
    obtain ⟨rfl, ht, hs, hc, hq⟩ := h
    have h1 := ht.1
    have h3 := ht.2.2.1
    have qa : M 4 s.toNat = c → ∀ r, r = 2 * s → _ := fun h r hr => hq r ⟨by unfold cm; rw [if_pos h]; exact hr, by omega, by omega, fun _ => by omega⟩
    have qb : M 4 s.toNat ≠ c → M 2 5 = 0 ∧ M 3 s.toNat = c → ∀ r, r = 2 * s + 1 → _ := fun h h2 r hr => hq r ⟨by unfold cm; rw [if_neg h, if_pos h2]; exact hr, by omega, by omega, fun _ => by omega⟩
    have qc : M 4 s.toNat ≠ c → ¬ (M 2 5 = 0 ∧ M 3 s.toNat = c) → _ := fun h h2 => hq (-1) ⟨by unfold cm; rw [if_neg h, if_neg h2], by omega, by omega, fun h => by omega⟩
    clear hq
    obtain ⟨K, hK, hK2⟩ : ∃ K : Nat → mm_K, (∀ t ls st M d u, K t ls st M d u → rr_X1_comingTo Q t ls st M d u) ∧ (∀ t ls st M d u, rr_X1_comingTo Q t ls st M d u → K t ls st M d u) := ⟨rr_X1_comingTo Q, fun _ _ _ _ _ _ h => h, fun _ _ _ _ _ _ h => h⟩
    refine ⟨Nat.le_of_ble_eq_true rfl, mm_run_at (stop := []) (S := K) kkX1_comingTo 90 ?_ (fun _ _ _ _ _ _ _ h => hK _ _ _ _ _ _ h)⟩
    repeat' (first | with_reducible assumption | ((with_reducible show mm_rv _ _ _ _ _); first | exact True.intro | exact mm_i2) | with_reducible exact mm_i2 | ((with_reducible show mm_bool _ _); first | exact True.intro | exact Or.inl rfl | exact Or.inr rfl | (show (_ : Int) = 0 ∨ _ = 1)) | refine And.intro ?_ ?_ | intro _ | with_reducible exact True.intro | exact rfl | with_reducible exact Or.inl rfl | with_reducible exact Or.inr rfl | exact Nat.le_of_ble_eq_true rfl)
    all_goals (try simp (disch := omega) only [InI, Int.toNat_natCast, Int.tmod_eq_emod_of_nonneg, Int.tdiv_eq_ediv_of_nonneg, true_implies, true_or, or_true, mm_l18, mm_l19, mm_l20, mm_l21, mm_l22] at *)
    all_goals first | omega | exact qa (by omega) _ (by omega) | exact qb (by omega) (by omega) _ (by omega) | exact qc (by omega) (by omega) | skip
  · exact h.elim
theorem me_X1_comingTo {l : Launch} (hl : l.stackTraces = false) : mm_Met l yX1_comingTo cX1_comingTo 3 (some .int) [] 7 121 0 sp_X1_comingTo := mm_mt hl rn_X1_comingTo ⟨plX1, rfl⟩ kkX1_comingTo rfl ⟨Nat.le_of_ble_eq_true rfl, Nat.le_of_ble_eq_true rfl⟩ flkX1 (fun _ h => nomatch h) (⟨mm_pe (me_X1_toOf hl) mwX1_toOf (mm_t1 199 rfl rfl) (Nat.le_of_ble_eq_true rfl) (Nat.le_of_ble_eq_true rfl), mm_pe (me_X1_fromOf hl) mwX1_fromOf (mm_t1 203 rfl rfl) (Nat.le_of_ble_eq_true rfl) (Nat.le_of_ble_eq_true rfl), trivial⟩) (mm_xe0 _) n9X1
def sp_X1_between : mm_S := fun av M d Q => match av with
  | [.inr (.inr (.inl o)), .inl s, .inl a, .inl b] =>  o = 2 ∧ tW M ∧ (0 ≤ s ∧ s < M 2 4) ∧ InI a ∧ InI b ∧ ∀ r, r = bw M s a b ∧ -1 ≤ r ∧ r < 2 * M 2 4 ∧ (0 ≤ r → r / 2 = s) → Q (.inl (some (mm_I r))) M d
  | _ => False
def ct_X1_between : List (Nat × mm_Ca) := [(63, (0, 3, 11, sp_X1_leaving, 0)), (60, (0, 2, 11, sp_X1_goalOf, 0))]
abbrev rr_X1_between (Q : mm_Q) := mm_run (mm_look flX1) (mm_look ct_X1_between) mm_x0 (mm_look ([] : List (Nat × Int))) (fun _ => none) 1 0 (fun _ _ => none) Q kdX1_between
set_option maxRecDepth 20000 in
theorem rn_X1_between : mm_RN flX1 ct_X1_between mm_x0 [] 1 0 5 kdX1_between sp_X1_between := by
  intro av M d Q h
  unfold sp_X1_between at h
  split at h
  · rename_i o s a b
    obtain ⟨rfl, ht, hs, ha, hb, hq⟩ := h
    have h1 := ht.1
    have qa : ∀ r, r = lv M s a ∧ -1 ≤ r ∧ r < 2 * M 2 4 ∧ (0 ≤ r → r / 2 = s) → ∀ r2, r2 = gl M r ∧ 0 ≤ r2 ∧ r2 < 10 → 0 ≤ r → r2 = b → Q (.inl (some (mm_I r))) M d := fun r hr r2 hr2 h3 h4 => hq r ⟨by unfold bw; rw [← hr.1, if_pos ⟨h3, by omega⟩], hr.2⟩
    have qb : ∀ r, r = lv M s a ∧ -1 ≤ r ∧ r < 2 * M 2 4 ∧ (0 ≤ r → r / 2 = s) → ∀ r2, r2 = gl M r ∧ 0 ≤ r2 ∧ r2 < 10 → r2 ≠ b → Q (.inl (some (mm_I (-1)))) M d := fun r hr r2 hr2 h4 => hq (-1) ⟨by unfold bw; rw [← hr.1, if_neg (fun h => by omega)], by omega, by omega, fun h => by omega⟩
    have qc : ∀ r, r = lv M s a ∧ -1 ≤ r ∧ r < 2 * M 2 4 ∧ (0 ≤ r → r / 2 = s) → r < 0 → Q (.inl (some (mm_I (-1)))) M d := fun r hr h4 => hq (-1) ⟨by unfold bw; rw [← hr.1, if_neg (fun h => by omega)], by omega, by omega, fun h => by omega⟩
    clear hq
    obtain ⟨K, hK, hK2⟩ : ∃ K : Nat → mm_K, (∀ t ls st M d u, K t ls st M d u → rr_X1_between Q t ls st M d u) ∧ (∀ t ls st M d u, rr_X1_between Q t ls st M d u → K t ls st M d u) := ⟨rr_X1_between Q, fun _ _ _ _ _ _ h => h, fun _ _ _ _ _ _ h => h⟩
    refine ⟨Nat.le_of_ble_eq_true rfl, mm_run_at (stop := []) (S := K) kkX1_between 90 ?_ (fun _ _ _ _ _ _ _ h => hK _ _ _ _ _ _ h)⟩
    repeat' (first | with_reducible assumption | ((with_reducible show mm_rv _ _ _ _ _); first | exact True.intro | exact mm_i2) | with_reducible exact mm_i2 | ((with_reducible show mm_bool _ _); first | exact True.intro | exact Or.inl rfl | exact Or.inr rfl | (show (_ : Int) = 0 ∨ _ = 1)) | refine And.intro ?_ ?_ | intro _ | with_reducible exact True.intro | exact rfl | with_reducible exact Or.inl rfl | with_reducible exact Or.inr rfl | exact Nat.le_of_ble_eq_true rfl)
    all_goals first | omega | exact qa _ (by assumption) _ (by assumption) (by omega) (by omega) | exact qb _ (by assumption) _ (by assumption) (by omega) | exact qc _ (by assumption) (by omega) | skip
  · exact h.elim
theorem me_X1_between {l : Launch} (hl : l.stackTraces = false) : mm_Met l yX1_between cX1_between 5 (some .int) [] 8 143 0 sp_X1_between := mm_mt hl rn_X1_between ⟨plX1, rfl⟩ kkX1_between rfl ⟨Nat.le_of_ble_eq_true rfl, Nat.le_of_ble_eq_true rfl⟩ flkX1 (fun _ h => nomatch h) (⟨mm_pe (me_X1_leaving hl) mwX1_leaving (mm_t2 133 rfl rfl) (Nat.le_of_ble_eq_true rfl) (Nat.le_of_ble_eq_true rfl), mm_pe (me_X1_goalOf hl) mwX1_goalOf (mm_t2 110 rfl rfl) (Nat.le_of_ble_eq_true rfl) (Nat.le_of_ble_eq_true rfl), trivial⟩) (mm_xe0 _) n9X1
def sp_X1_allStreets : mm_S := fun av M d Q => match av with
  | [.inr (.inr (.inl o))] =>  o = 2 ∧ tW M ∧ ∀ r, r = 2 ^ (M 2 4).toNat - 1 ∧ 0 ≤ r ∧ r < 1073741824 → Q (.inl (some (mm_I r))) M d
  | _ => False
def ct_X1_allStreets : List (Nat × mm_Ca) := []
abbrev rr_X1_allStreets (Q : mm_Q) := mm_run (mm_look flX1) (mm_look ct_X1_allStreets) mm_x0 (mm_look ([] : List (Nat × Int))) (fun _ => none) 1 0 (fun _ _ => none) Q kdX1_allStreets
set_option maxRecDepth 20000 in
theorem rn_X1_allStreets : mm_RN flX1 ct_X1_allStreets mm_x0 [] 1 0 1 kdX1_allStreets sp_X1_allStreets := by
  intro av M d Q h
  unfold sp_X1_allStreets at h
  split at h
  · rename_i o
    obtain ⟨rfl, ht, hq⟩ := h
    have h1 := ht.1
    have h2 := pw_le (k := (M 2 4).toNat) (n := 30) (by omega)
    have h3 := pw_lt (k := (M 2 4).toNat) (by omega)
    have e1 := Int.one_mul (2 ^ (M 2 4).toNat)
    have hq := fun r h4 => hq r ⟨h4, by omega, by omega⟩
    clear ht
    obtain ⟨K, hK, hK2⟩ : ∃ K : Nat → mm_K, (∀ t ls st M d u, K t ls st M d u → rr_X1_allStreets Q t ls st M d u) ∧ (∀ t ls st M d u, rr_X1_allStreets Q t ls st M d u → K t ls st M d u) := ⟨rr_X1_allStreets Q, fun _ _ _ _ _ _ h => h, fun _ _ _ _ _ _ h => h⟩
    refine ⟨Nat.le_of_ble_eq_true rfl, mm_run_at (stop := []) (S := K) kkX1_allStreets 90 ?_ (fun _ _ _ _ _ _ _ h => hK _ _ _ _ _ _ h)⟩
    repeat' (first | with_reducible assumption | ((with_reducible show mm_rv _ _ _ _ _); first | exact True.intro | exact mm_i2) | with_reducible exact mm_i2 | ((with_reducible show mm_bool _ _); first | exact True.intro | exact Or.inl rfl | exact Or.inr rfl | (show (_ : Int) = 0 ∨ _ = 1)) | refine And.intro ?_ ?_ | intro _ | with_reducible exact True.intro | exact rfl | with_reducible exact Or.inl rfl | with_reducible exact Or.inr rfl | exact Nat.le_of_ble_eq_true rfl)
    all_goals (try simp (disch := omega) only [e1, InI, Int.toNat_natCast, Int.tmod_eq_emod_of_nonneg, Int.tdiv_eq_ediv_of_nonneg, true_implies, true_or, or_true, mm_l18, mm_l19, mm_l20, mm_l21, mm_l22] at *)
    all_goals first | omega | exact hq _ (by omega) | skip
  · exact h.elim
theorem me_X1_allStreets {l : Launch} (hl : l.stackTraces = false) : mm_Met l yX1_allStreets cX1_allStreets 1 (some .int) [] 6 100 0 sp_X1_allStreets := mm_mt hl rn_X1_allStreets ⟨plX1, rfl⟩ kkX1_allStreets rfl ⟨Nat.le_of_ble_eq_true rfl, Nat.le_of_ble_eq_true rfl⟩ flkX1 (fun _ h => nomatch h) (trivial) (mm_xe0 _) n9X1
end
section
/-! the class's town: loops -/
def sp_X3_powerOf : mm_S := fun av M d Q => match av with
  | [.inl a, .inl b] =>  (2 ≤ a ∧ a ≤ 5) ∧ (0 ≤ b ∧ b ≤ 4) ∧ Q (.inl (some (mm_I (a ^ b.toNat)))) M d
  | _ => False
def ct_X3_powerOf : List (Nat × mm_Ca) := []
abbrev rr_X3_powerOf (Q : mm_Q) := mm_run (mm_look flX3) (mm_look ct_X3_powerOf) mm_x0 (mm_look ([] : List (Nat × Int))) (fun _ => none) 1 0 (fun _ _ => none) Q kdX3_powerOf
set_option maxRecDepth 20000 in
theorem lp_X3_powerOf {M : mm_M} {d : List Nat} {Q : mm_Q} {a : Int} {b : Nat} (ha : 2 ≤ a ∧ a ≤ 5) (hb : b ≤ 4) (hq : Q (.inl (some (mm_I (a ^ b)))) M d) : ∀ (k i : Nat), i + k = b → rr_X3_powerOf Q 4 [some (mm_I a), some (mm_I b), some (mm_I (a ^ i)), some (mm_I i)] [] M d 0 := by
  intro k
  induction k with
  | zero =>
    intro i hi
    have e : i = b := by omega
    subst e
    obtain ⟨K, hK, hK2⟩ : ∃ K : Nat → mm_K, (∀ t ls st M d u, K t ls st M d u → rr_X3_powerOf Q t ls st M d u) ∧ (∀ t ls st M d u, rr_X3_powerOf Q t ls st M d u → K t ls st M d u) := ⟨rr_X3_powerOf Q, fun _ _ _ _ _ _ h => h, fun _ _ _ _ _ _ h => h⟩
    refine mm_run_at (stop := [9]) (S := K) kkX3_powerOf 90 ?_ (fun _ _ _ _ _ _ _ h => hK _ _ _ _ _ _ h)
    repeat' (first | with_reducible assumption | ((with_reducible show mm_rv _ _ _ _ _); first | exact True.intro | exact mm_i2) | with_reducible exact mm_i2 | ((with_reducible show mm_bool _ _); first | exact True.intro | exact Or.inl rfl | exact Or.inr rfl | (show (_ : Int) = 0 ∨ _ = 1)) | refine And.intro ?_ ?_ | intro _ | with_reducible exact True.intro | exact rfl | with_reducible exact Or.inl rfl | with_reducible exact Or.inr rfl | exact Nat.le_of_ble_eq_true rfl)
    all_goals (try simp (disch := omega) only [InI, Int.toNat_natCast, Int.tmod_eq_emod_of_nonneg, Int.tdiv_eq_ediv_of_nonneg, true_implies, true_or, or_true, mm_l18, mm_l19, mm_l20, mm_l21, mm_l22] at *)
    all_goals first | omega | exact hq | skip
  | succ k ih =>
    intro i hi
    have nx := ih (i + 1) (by omega)
    rw [Int.pow_succ] at nx
    obtain ⟨K, hK, hK2⟩ : ∃ K : Nat → mm_K, (∀ t ls st M d u, K t ls st M d u → rr_X3_powerOf Q t ls st M d u) ∧ (∀ t ls st M d u, rr_X3_powerOf Q t ls st M d u → K t ls st M d u) := ⟨rr_X3_powerOf Q, fun _ _ _ _ _ _ h => h, fun _ _ _ _ _ _ h => h⟩
    have nx : K 4 [some (mm_I a), some (mm_I b), some (mm_I (a ^ i * a)), some (mm_I ((i : Int) + 1))] [] M d 0 := hK2 _ _ _ _ _ _ nx
    clear ih hq
    refine mm_run_at (stop := [4, 19]) (S := K) kkX3_powerOf 90 ?_ (fun _ _ _ _ _ _ _ h => hK _ _ _ _ _ _ h)
    repeat' (first | with_reducible assumption | ((with_reducible show mm_rv _ _ _ _ _); first | exact True.intro | exact mm_i2) | with_reducible exact mm_i2 | ((with_reducible show mm_bool _ _); first | exact True.intro | exact Or.inl rfl | exact Or.inr rfl | (show (_ : Int) = 0 ∨ _ = 1)) | refine And.intro ?_ ?_ | intro _ | with_reducible exact True.intro | exact rfl | with_reducible exact Or.inl rfl | with_reducible exact Or.inr rfl | exact Nat.le_of_ble_eq_true rfl)
    all_goals (try simp (disch := omega) only [InI, Int.toNat_natCast, Int.tmod_eq_emod_of_nonneg, Int.tdiv_eq_ediv_of_nonneg, true_implies, true_or, or_true, mm_l18, mm_l19, mm_l20, mm_l21, mm_l22] at *)
    all_goals first | omega | exact nx | skip
set_option maxRecDepth 20000 in
theorem rn_X3_powerOf : mm_RN flX3 ct_X3_powerOf mm_x0 [] 1 0 4 kdX3_powerOf sp_X3_powerOf := by
  intro av M d Q h
  unfold sp_X3_powerOf at h
  split at h
  · rename_i a b
    obtain ⟨ha, hb, hq⟩ := h
    obtain ⟨b, rfl⟩ := Int.eq_ofNat_of_zero_le hb.1
    have k4 := lp_X3_powerOf ha (b := b) (by omega) hq b 0 (by omega)
    rw [Int.pow_zero] at k4
    clear hq
    obtain ⟨K, hK, hK2⟩ : ∃ K : Nat → mm_K, (∀ t ls st M d u, K t ls st M d u → rr_X3_powerOf Q t ls st M d u) ∧ (∀ t ls st M d u, rr_X3_powerOf Q t ls st M d u → K t ls st M d u) := ⟨rr_X3_powerOf Q, fun _ _ _ _ _ _ h => h, fun _ _ _ _ _ _ h => h⟩
    refine ⟨Nat.le_of_ble_eq_true rfl, mm_run_at (stop := [4]) (S := K) kkX3_powerOf 90 ?_ (fun _ _ _ _ _ _ _ h => hK _ _ _ _ _ _ h)⟩
    have k4 : K 4 [some (mm_I a), some (mm_I b), some (mm_I 1), some (mm_I 0)] [] M d 0 := hK2 _ _ _ _ _ _ k4
    repeat' (first | with_reducible assumption | ((with_reducible show mm_rv _ _ _ _ _); first | exact True.intro | exact mm_i2) | with_reducible exact mm_i2 | ((with_reducible show mm_bool _ _); first | exact True.intro | exact Or.inl rfl | exact Or.inr rfl | (show (_ : Int) = 0 ∨ _ = 1)) | refine And.intro ?_ ?_ | intro _ | with_reducible exact True.intro | exact rfl | with_reducible exact Or.inl rfl | with_reducible exact Or.inr rfl | exact Nat.le_of_ble_eq_true rfl)
    all_goals (try simp (disch := omega) only [InI, Int.toNat_natCast, Int.tmod_eq_emod_of_nonneg, Int.tdiv_eq_ediv_of_nonneg, true_implies, true_or, or_true, mm_l18, mm_l19, mm_l20, mm_l21, mm_l22] at *)
    all_goals first | omega | exact k4 | skip
  · exact h.elim
theorem plX3 : plainName RX3 = true := by decide
theorem n9X3 : ∀ q ∈ flX3, q.2.2 < 90 := by decide
theorem me_X3_powerOf {l : Launch} (hl : l.stackTraces = false) : mm_Met l yX3_powerOf cX3_powerOf 4 (some .int) [] 6 100 0 sp_X3_powerOf := mm_mt hl rn_X3_powerOf ⟨plX3, rfl⟩ kkX3_powerOf rfl ⟨Nat.le_of_ble_eq_true rfl, Nat.le_of_ble_eq_true rfl⟩ flkX3 (fun _ h => nomatch h) (trivial) (mm_xe0 _) n9X3
def sp_X1_addRing : mm_S := fun av M d Q => match av with
  | [.inr (.inr (.inl o)), .inl many, .inl b] =>  o = 2 ∧ tW M ∧ (1 ≤ many ∧ many ≤ 10) ∧ (0 ≤ b ∧ b ≤ 9) ∧ M 2 4 + many ≤ 30 ∧ ∀ M', ringI M M' many b (M 2 4).toNat many.toNat → Q (.inl none) M' d
  | _ => False
def ct_X1_addRing : List (Nat × mm_Ca) := [(42, (0, 3, 11, sp_X1_addStreet, 0))]
abbrev rr_X1_addRing (Q : mm_Q) := mm_run (mm_look flX1) (mm_look ct_X1_addRing) mm_x0 (mm_look ([] : List (Nat × Int))) (fun _ => none) 0 0 (fun _ _ => none) Q kdX1_addRing
set_option maxRecDepth 20000 in
theorem lp_X1_addRing {M0 : mm_M} {d : List Nat} {Q : mm_Q} {many b : Int} {c : Nat} (hm : 1 ≤ many ∧ many ≤ 10) (hb : 0 ≤ b ∧ b ≤ 9) (hc : c + many ≤ 30) (hq : ∀ M', ringI M0 M' many b c many.toNat → Q (.inl none) M' d) : ∀ (k i : Nat) (M : mm_M), i + k = many.toNat → ringI M0 M many b c i → rr_X1_addRing Q 2 [some (mm_R 2), some (mm_I many), some (mm_I b), some (mm_I i)] [] M d 0 := by
  intro k
  induction k with
  | zero =>
    intro i M hi hI
    have e : i = many.toNat := by omega
    have qe := hq M (by rw [← e]; exact hI)
    clear hq hI
    obtain ⟨K, hK, hK2⟩ : ∃ K : Nat → mm_K, (∀ t ls st M d u, K t ls st M d u → rr_X1_addRing Q t ls st M d u) ∧ (∀ t ls st M d u, rr_X1_addRing Q t ls st M d u → K t ls st M d u) := ⟨rr_X1_addRing Q, fun _ _ _ _ _ _ h => h, fun _ _ _ _ _ _ h => h⟩
    refine mm_run_at (stop := [7]) (S := K) kkX1_addRing 90 ?_ (fun _ _ _ _ _ _ _ h => hK _ _ _ _ _ _ h)
    repeat' (first | with_reducible assumption | ((with_reducible show mm_rv _ _ _ _ _); first | exact True.intro | exact mm_i2) | with_reducible exact mm_i2 | ((with_reducible show mm_bool _ _); first | exact True.intro | exact Or.inl rfl | exact Or.inr rfl | (show (_ : Int) = 0 ∨ _ = 1)) | refine And.intro ?_ ?_ | intro _ | with_reducible exact True.intro | exact rfl | with_reducible exact Or.inl rfl | with_reducible exact Or.inr rfl | exact Nat.le_of_ble_eq_true rfl)
    all_goals (try simp (disch := omega) only [InI, Int.toNat_natCast, Int.tmod_eq_emod_of_nonneg, Int.tdiv_eq_ediv_of_nonneg, true_implies, true_or, or_true, mm_l18, mm_l19, mm_l20, mm_l21, mm_l22] at *)
    all_goals first | omega | exact qe | skip
  | succ k ih =>
    intro i M hi hI
    obtain ⟨t1, t2, t3, t4, t5, t6⟩ := id hI
    have hr := Int.emod_nonneg ((i : Int) + b) (show many ≠ 0 by omega)
    have hr2 := Int.emod_lt_of_pos ((i : Int) + b) (show 0 < many by omega)
    have ha := addS_spec (a := i) (b := ((i : Int) + b) % many) (n := c + i) t1 (by omega) (by omega) (by omega) (by omega)
    have nx := ih (i + 1) (addS M i (((i : Int) + b) % many)) (by omega) ⟨ha.1, t2.tr ha.2.1, fun j hj => (ha.2.2.1 j hj).trans (t3 j hj), by rw [ha.2.2.2.1]; omega, fun j hj => by
      have := ha.2.2.2.2.1 j (by omega)
      rw [this.1, this.2]
      exact t5 j hj, fun k hk => by
      by_cases hk2 : k = i
      · subst hk2
        exact ha.2.2.2.2.2
      · have := ha.2.2.2.2.1 (c + k) (by omega)
        rw [this.1, this.2]
        exact t6 k (by omega)⟩
    clear ih hq hI ha t2 t3 t5 t6
    obtain ⟨K, hK, hK2⟩ : ∃ K : Nat → mm_K, (∀ t ls st M d u, K t ls st M d u → rr_X1_addRing Q t ls st M d u) ∧ (∀ t ls st M d u, rr_X1_addRing Q t ls st M d u → K t ls st M d u) := ⟨rr_X1_addRing Q, fun _ _ _ _ _ _ h => h, fun _ _ _ _ _ _ h => h⟩
    have nx : K 2 [some (mm_R 2), some (mm_I many), some (mm_I b), some (mm_I ((i : Int) + 1))] [] (addS M i (((i : Int) + b) % many)) d 0 := hK2 _ _ _ _ _ _ nx
    refine mm_run_at (stop := [2, 23]) (S := K) kkX1_addRing 90 ?_ (fun _ _ _ _ _ _ _ h => hK _ _ _ _ _ _ h)
    repeat' (first | with_reducible assumption | ((with_reducible show mm_rv _ _ _ _ _); first | exact True.intro | exact mm_i2) | with_reducible exact mm_i2 | ((with_reducible show mm_bool _ _); first | exact True.intro | exact Or.inl rfl | exact Or.inr rfl | (show (_ : Int) = 0 ∨ _ = 1)) | refine And.intro ?_ ?_ | intro _ | with_reducible exact True.intro | exact rfl | with_reducible exact Or.inl rfl | with_reducible exact Or.inr rfl | exact Nat.le_of_ble_eq_true rfl)
    all_goals (try simp (disch := omega) only [InI, Int.toNat_natCast, Int.tmod_eq_emod_of_nonneg, Int.tdiv_eq_ediv_of_nonneg, true_implies, true_or, or_true, mm_l18, mm_l19, mm_l20, mm_l21, mm_l22] at *)
    all_goals first | omega | exact nx | skip
set_option maxRecDepth 20000 in
theorem rn_X1_addRing : mm_RN flX1 ct_X1_addRing mm_x0 [] 0 0 4 kdX1_addRing sp_X1_addRing := by
  intro av M d Q h
  unfold sp_X1_addRing at h
  split at h
  · rename_i o many b
    obtain ⟨rfl, ht, hm, hb, hc, hq⟩ := h
    have h1 := ht.1
    have k2 := lp_X1_addRing (d := d) (Q := Q) (c := (M 2 4).toNat) hm hb (by omega) hq many.toNat 0 M (by omega) ⟨ht, fr.rf, fun _ _ => rfl, by omega, fun _ _ => ⟨rfl, rfl⟩, fun k hk => by omega⟩
    clear hq
    obtain ⟨K, hK, hK2⟩ : ∃ K : Nat → mm_K, (∀ t ls st M d u, K t ls st M d u → rr_X1_addRing Q t ls st M d u) ∧ (∀ t ls st M d u, rr_X1_addRing Q t ls st M d u → K t ls st M d u) := ⟨rr_X1_addRing Q, fun _ _ _ _ _ _ h => h, fun _ _ _ _ _ _ h => h⟩
    refine ⟨Nat.le_of_ble_eq_true rfl, mm_run_at (stop := [2]) (S := K) kkX1_addRing 90 ?_ (fun _ _ _ _ _ _ _ h => hK _ _ _ _ _ _ h)⟩
    have k2 := hK2 _ _ _ _ _ _ k2
    repeat' (first | with_reducible assumption | ((with_reducible show mm_rv _ _ _ _ _); first | exact True.intro | exact mm_i2) | with_reducible exact mm_i2 | ((with_reducible show mm_bool _ _); first | exact True.intro | exact Or.inl rfl | exact Or.inr rfl | (show (_ : Int) = 0 ∨ _ = 1)) | refine And.intro ?_ ?_ | intro _ | with_reducible exact True.intro | exact rfl | with_reducible exact Or.inl rfl | with_reducible exact Or.inr rfl | exact Nat.le_of_ble_eq_true rfl)
    all_goals (try simp (disch := omega) only [InI, Int.toNat_natCast, Int.tmod_eq_emod_of_nonneg, Int.tdiv_eq_ediv_of_nonneg, true_implies, true_or, or_true, mm_l18, mm_l19, mm_l20, mm_l21, mm_l22] at *)
    all_goals first | omega | exact k2 | skip
  · exact h.elim
theorem me_X1_addRing {l : Launch} (hl : l.stackTraces = false) : mm_Met l yX1_addRing cX1_addRing 4 none [] 8 142 0 sp_X1_addRing := mm_mt hl rn_X1_addRing ⟨plX1, rfl⟩ kkX1_addRing rfl ⟨Nat.le_of_ble_eq_true rfl, Nat.le_of_ble_eq_true rfl⟩ flkX1 (fun _ h => nomatch h) (⟨mm_pe (me_X1_addStreet hl) mwX1_addStreet (mm_t3 125 rfl rfl) (Nat.le_of_ble_eq_true rfl) (Nat.le_of_ble_eq_true rfl), trivial⟩) (mm_xe0 _) n9X1
def sp_X1_becomeWords : mm_S := fun av M d Q => match av with
  | [.inr (.inr (.inl o)), .inl a, .inl b] =>  o = 2 ∧ tW M ∧ M 2 4 = 0 ∧ (2 ≤ a ∧ a ≤ 5) ∧ (1 ≤ b ∧ b ≤ 4) ∧ a ^ b.toNat ≤ 30 ∧ ∀ M', wordI (mm_up (mm_up (mm_up M 2 6 a) 2 7 b) 2 5 1) M' a (a ^ (b.toNat - 1)) (a ^ b.toNat).toNat → Q (.inl none) M' d
  | _ => False
def ct_X1_becomeWords : List (Nat × mm_Ca) := [(46, (1, 2, 0, sp_X3_powerOf, 0)), (42, (0, 3, 11, sp_X1_addStreet, 0))]
abbrev rr_X1_becomeWords (Q : mm_Q) := mm_run (mm_look flX1) (mm_look ct_X1_becomeWords) mm_x0 (mm_look ([] : List (Nat × Int))) (fun _ => none) 0 0 (fun _ _ => none) Q kdX1_becomeWords
set_option maxRecDepth 20000 in
theorem lp_X1_becomeWords {M0 : mm_M} {d : List Nat} {Q : mm_Q} {a b hd : Int} {n : Nat} (ha : 2 ≤ a ∧ a ≤ 5) (hh : 1 ≤ hd ∧ hd ≤ 10) (hn : hd * a = n) (h30 : n ≤ 30) (hda : n ≤ 10 * a) (hq : ∀ M', wordI M0 M' a hd n → Q (.inl none) M' d) : ∀ (k i : Nat) (M : mm_M), i + k = n → wordI M0 M a hd i → rr_X1_becomeWords Q 37 [some (mm_R 2), some (mm_I a), some (mm_I b), some (mm_I hd), some (mm_I i)] [] M d 0 := by
  intro k
  induction k with
  | zero =>
    intro i M hi hI
    have e : i = n := by omega
    subst e
    have qe := hq M hI
    clear hq hI
    obtain ⟨K, hK, hK2⟩ : ∃ K : Nat → mm_K, (∀ t ls st M d u, K t ls st M d u → rr_X1_becomeWords Q t ls st M d u) ∧ (∀ t ls st M d u, rr_X1_becomeWords Q t ls st M d u → K t ls st M d u) := ⟨rr_X1_becomeWords Q, fun _ _ _ _ _ _ h => h, fun _ _ _ _ _ _ h => h⟩
    refine mm_run_at (stop := [45]) (S := K) kkX1_becomeWords 90 ?_ (fun _ _ _ _ _ _ _ h => hK _ _ _ _ _ _ h)
    repeat' (first | with_reducible assumption | ((with_reducible show mm_rv _ _ _ _ _); first | exact True.intro | exact mm_i2) | with_reducible exact mm_i2 | ((with_reducible show mm_bool _ _); first | exact True.intro | exact Or.inl rfl | exact Or.inr rfl | (show (_ : Int) = 0 ∨ _ = 1)) | refine And.intro ?_ ?_ | intro _ | with_reducible exact True.intro | exact rfl | with_reducible exact Or.inl rfl | with_reducible exact Or.inr rfl | exact Nat.le_of_ble_eq_true rfl)
    all_goals (try simp (disch := omega) only [InI, Int.toNat_natCast, Int.tmod_eq_emod_of_nonneg, Int.tdiv_eq_ediv_of_nonneg, true_implies, true_or, or_true, mm_l18, mm_l19, mm_l20, mm_l21, mm_l22] at *)
    all_goals first | omega | exact qe | skip
  | succ k ih =>
    intro i M hi hI
    obtain ⟨t1, t2, t3, t4, t6⟩ := id hI
    have hr := Int.emod_nonneg (i : Int) (show hd ≠ 0 by omega)
    have hr2 := Int.emod_lt_of_pos (i : Int) (show 0 < hd by omega)
    have hr3 := Int.ediv_nonneg (show 0 ≤ (i : Int) by omega) (show 0 ≤ a by omega)
    have hr4 : (i : Int) / a < 10 := Int.ediv_lt_of_lt_mul (by omega) (by omega)
    have ha := addS_spec (a := (i : Int) / a) (b := (i : Int) % hd) (n := i) t1 (by omega) (by omega) (by omega) (by omega)
    have nx := ih (i + 1) (addS M (i / a) (i % hd)) (by omega) ⟨ha.1, t2.tr ha.2.1, fun j hj => (ha.2.2.1 j hj).trans (t3 j hj), by rw [ha.2.2.2.1]; omega, fun k hk => by
      by_cases hk2 : k = i
      · subst hk2
        exact ha.2.2.2.2.2
      · have := ha.2.2.2.2.1 k (by omega)
        rw [this.1, this.2]
        exact t6 k (by omega)⟩
    clear ih hq hI ha t2 t3 t6
    obtain ⟨K, hK, hK2⟩ : ∃ K : Nat → mm_K, (∀ t ls st M d u, K t ls st M d u → rr_X1_becomeWords Q t ls st M d u) ∧ (∀ t ls st M d u, rr_X1_becomeWords Q t ls st M d u → K t ls st M d u) := ⟨rr_X1_becomeWords Q, fun _ _ _ _ _ _ h => h, fun _ _ _ _ _ _ h => h⟩
    have nx : K 37 [some (mm_R 2), some (mm_I a), some (mm_I b), some (mm_I hd), some (mm_I ((i : Int) + 1))] [] (addS M (i / a) (i % hd)) d 0 := hK2 _ _ _ _ _ _ nx
    refine mm_run_at (stop := [37, 63]) (S := K) kkX1_becomeWords 90 ?_ (fun _ _ _ _ _ _ _ h => hK _ _ _ _ _ _ h)
    repeat' (first | with_reducible assumption | ((with_reducible show mm_rv _ _ _ _ _); first | exact True.intro | exact mm_i2) | with_reducible exact mm_i2 | ((with_reducible show mm_bool _ _); first | exact True.intro | exact Or.inl rfl | exact Or.inr rfl | (show (_ : Int) = 0 ∨ _ = 1)) | refine And.intro ?_ ?_ | intro _ | with_reducible exact True.intro | exact rfl | with_reducible exact Or.inl rfl | with_reducible exact Or.inr rfl | exact Nat.le_of_ble_eq_true rfl)
    all_goals (try simp (disch := omega) only [InI, Int.toNat_natCast, Int.tmod_eq_emod_of_nonneg, Int.tdiv_eq_ediv_of_nonneg, true_implies, true_or, or_true, mm_l18, mm_l19, mm_l20, mm_l21, mm_l22] at *)
    all_goals first | omega | exact nx | skip
set_option maxRecDepth 20000 in
theorem rn_X1_becomeWords : mm_RN flX1 ct_X1_becomeWords mm_x0 [] 0 0 5 kdX1_becomeWords sp_X1_becomeWords := by
  intro av M d Q h
  unfold sp_X1_becomeWords at h
  split at h
  · rename_i o a b
    obtain ⟨rfl, ht, h0, ha, hb, hn, hq⟩ := h
    obtain ⟨b, rfl⟩ := Int.eq_ofNat_of_zero_le (show 0 ≤ b by omega)
    obtain ⟨b, rfl⟩ : ∃ k, b = k + 1 := ⟨b - 1, by omega⟩
    have e : (((b + 1 : Nat) : Int) - 1).toNat = b := by omega
    have hp : a ^ (b + 1) = a ^ b * a := Int.pow_succ ..
    have hp1 : 1 ≤ a ^ b := Int.pow_pos (by omega)
    have hn' : a ^ b * a ≤ 30 := by rw [← hp]; exact hn
    have hd10 : a ^ b ≤ 15 := by
      have : a ^ b * 2 ≤ a ^ b * a := Int.mul_le_mul_of_nonneg_left (by omega) (by omega)
      omega
    have hd9 : a ^ b ≤ 10 := by
      have hb4 : b ≤ 3 := by omega
      have hb5 : b = 0 ∨ b = 1 ∨ b = 2 ∨ b = 3 := by omega
      have ha5 : a = 2 ∨ a = 3 ∨ a = 4 ∨ a = 5 := by omega
      rcases hb5 with rfl | rfl | rfl | rfl <;> rcases ha5 with rfl | rfl | rfl | rfl <;> omega
    have hg0 : 0 ≤ a ^ b * a := Int.mul_nonneg (by omega) (by omega)
    have hda : a ^ b * a ≤ 10 * a := Int.mul_le_mul_of_nonneg_right hd9 (by omega)
    have hw : tW (mm_up (mm_up (mm_up M 2 6 a) 2 7 ((b + 1 : Nat) : Int)) 2 5 1) := by
      obtain ⟨t1, t2, t3, t4, t5⟩ := ht
      exact ⟨by simp [mm_up, h0], by simpa [mm_up] using t2, by simp [mm_up], by simp [mm_up]; omega, by simp [mm_up]; omega⟩
    have k37 := lp_X1_becomeWords (d := d) (Q := Q) (b := ((b + 1 : Nat) : Int)) (hd := a ^ b) (n := (a ^ b * a).toNat) ha ⟨by omega, by omega⟩ (by omega) (by omega) (by omega) (fun M' h => hq M' (by rw [show ((b + 1 : Nat) : Int).toNat = b + 1 by omega, hp]; exact h)) (a ^ b * a).toNat 0 _ (by omega) ⟨hw, fr.rf, fun _ _ => rfl, by simp [mm_up, h0], fun k hk => by omega⟩
    clear hq ht hw hn hda hn' hg0 hp
    obtain ⟨K, hK, hK2⟩ : ∃ K : Nat → mm_K, (∀ t ls st M d u, K t ls st M d u → rr_X1_becomeWords Q t ls st M d u) ∧ (∀ t ls st M d u, rr_X1_becomeWords Q t ls st M d u → K t ls st M d u) := ⟨rr_X1_becomeWords Q, fun _ _ _ _ _ _ h => h, fun _ _ _ _ _ _ h => h⟩
    refine ⟨Nat.le_of_ble_eq_true rfl, mm_run_at (stop := [37]) (S := K) kkX1_becomeWords 90 ?_ (fun _ _ _ _ _ _ _ h => hK _ _ _ _ _ _ h)⟩
    have k37 := hK2 _ _ _ _ _ _ k37
    repeat' (first | with_reducible assumption | ((with_reducible show mm_rv _ _ _ _ _); first | exact True.intro | exact mm_i2) | with_reducible exact mm_i2 | ((with_reducible show mm_bool _ _); first | exact True.intro | exact Or.inl rfl | exact Or.inr rfl | (show (_ : Int) = 0 ∨ _ = 1)) | refine And.intro ?_ ?_ | intro _ | with_reducible exact True.intro | exact rfl | with_reducible exact Or.inl rfl | with_reducible exact Or.inr rfl | exact Nat.le_of_ble_eq_true rfl)
    all_goals (try simp (disch := omega) only [e, InI, Int.toNat_natCast, Int.tmod_eq_emod_of_nonneg, Int.tdiv_eq_ediv_of_nonneg, true_implies, true_or, or_true, mm_l18, mm_l19, mm_l20, mm_l21, mm_l22] at *)
    all_goals first | omega | exact k37 | skip
  · exact h.elim
theorem me_X1_becomeWords {l : Launch} (hl : l.stackTraces = false) : mm_Met l yX1_becomeWords cX1_becomeWords 5 none [] 8 142 0 sp_X1_becomeWords := mm_mt hl rn_X1_becomeWords ⟨plX1, rfl⟩ kkX1_becomeWords rfl ⟨Nat.le_of_ble_eq_true rfl, Nat.le_of_ble_eq_true rfl⟩ flkX1 (fun _ h => nomatch h) (⟨mm_peN (host := RX3) (me_X3_powerOf hl) mwX3_powerOf (by decide +kernel) (Nat.le_of_ble_eq_true rfl) (Nat.le_of_ble_eq_true rfl), mm_pe (me_X1_addStreet hl) mwX1_addStreet (mm_t3 125 rfl rfl) (Nat.le_of_ble_eq_true rfl) (Nat.le_of_ble_eq_true rfl), trivial⟩) (mm_xe0 _) n9X1
def sp_X1_dropAll : mm_S := fun av M d Q => match av with
  | [.inr (.inr (.inl o))] =>  o = 2 ∧ Q (.inl none) (mm_up (mm_up (mm_up (mm_up M 2 4 0) 2 5 0) 2 6 0) 2 7 0) d
  | _ => False
def ct_X1_dropAll : List (Nat × mm_Ca) := [(50, (0, 1, 11, sp_X1_endWords, 0))]
abbrev rr_X1_dropAll (Q : mm_Q) := mm_run (mm_look flX1) (mm_look ct_X1_dropAll) mm_x0 (mm_look ([] : List (Nat × Int))) (fun _ => none) 0 0 (fun _ _ => none) Q kdX1_dropAll
set_option maxRecDepth 20000 in
theorem rn_X1_dropAll : mm_RN flX1 ct_X1_dropAll mm_x0 [] 0 0 1 kdX1_dropAll sp_X1_dropAll := by
  intro av M d Q h
  unfold sp_X1_dropAll at h
  split at h
  · rename_i o
    obtain ⟨rfl, hq⟩ := h
    obtain ⟨K, hK, hK2⟩ : ∃ K : Nat → mm_K, (∀ t ls st M d u, K t ls st M d u → rr_X1_dropAll Q t ls st M d u) ∧ (∀ t ls st M d u, rr_X1_dropAll Q t ls st M d u → K t ls st M d u) := ⟨rr_X1_dropAll Q, fun _ _ _ _ _ _ h => h, fun _ _ _ _ _ _ h => h⟩
    refine ⟨Nat.le_of_ble_eq_true rfl, mm_run_at (stop := []) (S := K) kkX1_dropAll 90 ?_ (fun _ _ _ _ _ _ _ h => hK _ _ _ _ _ _ h)⟩
    repeat' (first | with_reducible assumption | ((with_reducible show mm_rv _ _ _ _ _); first | exact True.intro | exact mm_i2) | with_reducible exact mm_i2 | ((with_reducible show mm_bool _ _); first | exact True.intro | exact Or.inl rfl | exact Or.inr rfl | (show (_ : Int) = 0 ∨ _ = 1)) | refine And.intro ?_ ?_ | intro _ | with_reducible exact True.intro | exact rfl | with_reducible exact Or.inl rfl | with_reducible exact Or.inr rfl | exact Nat.le_of_ble_eq_true rfl)
    all_goals (try simp (disch := omega) only [InI, Int.toNat_natCast, Int.tmod_eq_emod_of_nonneg, Int.tdiv_eq_ediv_of_nonneg, true_implies, true_or, or_true, mm_l18, mm_l19, mm_l20, mm_l21, mm_l22] at *)
    all_goals first | omega | exact hq | skip
  · exact h.elim
theorem me_X1_dropAll {l : Launch} (hl : l.stackTraces = false) : mm_Met l yX1_dropAll cX1_dropAll 1 none [] 7 120 0 sp_X1_dropAll := mm_mt hl rn_X1_dropAll ⟨plX1, rfl⟩ kkX1_dropAll rfl ⟨Nat.le_of_ble_eq_true rfl, Nat.le_of_ble_eq_true rfl⟩ flkX1 (fun _ h => nomatch h) (⟨mm_pe (me_X1_endWords hl) mwX1_endWords (mm_t1 143 rfl rfl) (Nat.le_of_ble_eq_true rfl) (Nat.le_of_ble_eq_true rfl), trivial⟩) (mm_xe0 _) n9X1
def sp_X1_dropStreet : mm_S := fun av M d Q => match av with
  | [.inr (.inr (.inl o)), .inl s] =>  o = 2 ∧ tW M ∧ (0 ≤ s ∧ s < M 2 4) ∧ ∀ M', tW M' ∧ fr [2, 3, 4] M M' ∧ (∀ j, j ≠ 4 → M' 2 j = M 2 j) ∧ M' 2 4 = M 2 4 - 1 ∧ (∀ i : Nat, i < s → M' 3 i = M 3 i ∧ M' 4 i = M 4 i) ∧ (∀ i : Nat, s ≤ i → i + 1 < M 2 4 → M' 3 i = M 3 (i + 1) ∧ M' 4 i = M 4 (i + 1)) → Q (.inl none) M' d
  | _ => False
def ct_X1_dropStreet : List (Nat × mm_Ca) := []
abbrev rr_X1_dropStreet (Q : mm_Q) := mm_run (mm_look flX1) (mm_look ct_X1_dropStreet) mm_x0 (mm_look ([] : List (Nat × Int))) (fun _ => none) 0 0 (fun _ _ => none) Q kdX1_dropStreet
set_option maxRecDepth 20000 in
theorem lp_X1_dropStreet {M0 : mm_M} {d : List Nat} {Q : mm_Q} {s n : Nat} {x2 : Int} (hs : s < n) (h30 : n ≤ 30) (hn : M0 2 4 = n) (hq : ∀ M', tW M' ∧ fr [3, 4] M0 M' ∧ (∀ i : Nat, i < s → M' 3 i = M0 3 i ∧ M' 4 i = M0 4 i) ∧ (∀ i : Nat, s ≤ i → i + 1 < n → M' 3 i = M0 3 (i + 1) ∧ M' 4 i = M0 4 (i + 1)) → Q (.inl none) (mm_up M' 2 4 (n - 1)) d) : ∀ (k i : Nat) (M : mm_M), i + k + 1 = n → s ≤ i → tW M → fr [3, 4] M0 M → (∀ j : Nat, j < s → M 3 j = M0 3 j ∧ M 4 j = M0 4 j) → (∀ j : Nat, s ≤ j → j < i → M 3 j = M0 3 (j + 1) ∧ M 4 j = M0 4 (j + 1)) → (∀ j : Nat, i ≤ j → M 3 j = M0 3 j ∧ M 4 j = M0 4 j) → rr_X1_dropStreet Q 15 [some (mm_R 2), some (mm_I s), some (mm_I i)] [] M d 0 := by
  intro k
  induction k with
  | zero =>
    intro i M hi hsi ht hf h1 h2 h3
    have e4 : M 2 4 = n := by rw [hf 2 (by simp)]; exact hn
    have qe := hq M ⟨ht, hf, h1, fun j hj hj2 => h2 j hj (by omega)⟩
    rw [← e4] at qe
    clear hq ht hf h1 h2 h3 hn
    obtain ⟨K, hK, hK2⟩ : ∃ K : Nat → mm_K, (∀ t ls st M d u, K t ls st M d u → rr_X1_dropStreet Q t ls st M d u) ∧ (∀ t ls st M d u, rr_X1_dropStreet Q t ls st M d u → K t ls st M d u) := ⟨rr_X1_dropStreet Q, fun _ _ _ _ _ _ h => h, fun _ _ _ _ _ _ h => h⟩
    refine mm_run_at (stop := [25]) (S := K) kkX1_dropStreet 90 ?_ (fun _ _ _ _ _ _ _ h => hK _ _ _ _ _ _ h)
    repeat' (first | with_reducible assumption | ((with_reducible show mm_rv _ _ _ _ _); first | exact True.intro | exact mm_i2) | with_reducible exact mm_i2 | ((with_reducible show mm_bool _ _); first | exact True.intro | exact Or.inl rfl | exact Or.inr rfl | (show (_ : Int) = 0 ∨ _ = 1)) | refine And.intro ?_ ?_ | intro _ | with_reducible exact True.intro | exact rfl | with_reducible exact Or.inl rfl | with_reducible exact Or.inr rfl | exact Nat.le_of_ble_eq_true rfl)
    all_goals (try simp (disch := omega) only [InI, Int.toNat_natCast, Int.tmod_eq_emod_of_nonneg, Int.tdiv_eq_ediv_of_nonneg, true_implies, true_or, or_true, mm_l18, mm_l19, mm_l20, mm_l21, mm_l22] at *)
    all_goals first | omega | exact qe | skip
  | succ k ih =>
    intro i M hi hsi ht hf h1 h2 h3
    have e4 : M 2 4 = n := by rw [hf 2 (by simp)]; exact hn
    have e5 : ((i : Int) + 1).toNat = i + 1 := by omega
    have e6 : ∀ v : Int, mm_up M 3 i v 4 = M 4 := fun v => by funext k; simp [mm_up]
    obtain ⟨t1, t2, t3, t4, t5⟩ := id ht
    have b1 := t2 (i + 1) (by omega)
    have nx := ih (i + 1) (mm_up (mm_up M 3 i (M 3 (i + 1))) 4 i (M 4 (i + 1))) (by omega) (by omega) ⟨by simpa [mm_up] using t1, fun j hj => by
      have b2 := t2 j hj
      simp only [mm_up]
      constructor <;> split <;> first | omega | simp_all, by simpa [mm_up] using t3, by simpa [mm_up] using t4, by simpa [mm_up] using t5⟩ ((hf.up (by simp)).up (by simp)) (fun j hj => by
      have := h1 j hj
      simp [mm_up, show j ≠ i by omega, this]) (fun j hj hj2 => by
      by_cases e : j = i
      · subst e
        have := h3 (j + 1) (by omega)
        simp [mm_up, this]
      · have := h2 j hj (by omega)
        simp [mm_up, e, this]) (fun j hj => by
      have := h3 j (by omega)
      simp [mm_up, show j ≠ i by omega, this])
    clear ih hq ht hf h1 h2 h3 t2 t3 t4 t5 hn
    obtain ⟨K, hK, hK2⟩ : ∃ K : Nat → mm_K, (∀ t ls st M d u, K t ls st M d u → rr_X1_dropStreet Q t ls st M d u) ∧ (∀ t ls st M d u, rr_X1_dropStreet Q t ls st M d u → K t ls st M d u) := ⟨rr_X1_dropStreet Q, fun _ _ _ _ _ _ h => h, fun _ _ _ _ _ _ h => h⟩
    have nx : K 15 [some (mm_R 2), some (mm_I s), some (mm_I ((i : Int) + 1))] [] (mm_up (mm_up M 3 i (M 3 (i + 1))) 4 i (M 4 (i + 1))) d 0 := hK2 _ _ _ _ _ _ nx
    refine mm_run_at (stop := [15, 59]) (S := K) kkX1_dropStreet 90 ?_ (fun _ _ _ _ _ _ _ h => hK _ _ _ _ _ _ h)
    repeat' (first | with_reducible assumption | ((with_reducible show mm_rv _ _ _ _ _); first | exact True.intro | exact mm_i2 | exact mm_i3 | exact mm_i4) | with_reducible exact mm_i2 | with_reducible exact mm_i3 | with_reducible exact mm_i4 | ((with_reducible show mm_bool _ _); first | exact True.intro | exact Or.inl rfl | exact Or.inr rfl | (show (_ : Int) = 0 ∨ _ = 1)) | refine And.intro ?_ ?_ | intro _ | with_reducible exact True.intro | exact rfl | with_reducible exact Or.inl rfl | with_reducible exact Or.inr rfl | exact Nat.le_of_ble_eq_true rfl)
    all_goals (try simp (disch := omega) only [e5, e6, mm_l3, mm_l4, InI, Int.toNat_natCast, Int.tmod_eq_emod_of_nonneg, Int.tdiv_eq_ediv_of_nonneg, true_implies, true_or, or_true, mm_l18, mm_l19, mm_l20, mm_l21, mm_l22] at *)
    all_goals first | omega | exact nx | skip
set_option maxRecDepth 20000 in
theorem rn_X1_dropStreet : mm_RN flX1 ct_X1_dropStreet mm_x0 [] 0 0 3 kdX1_dropStreet sp_X1_dropStreet := by
  intro av M d Q h
  unfold sp_X1_dropStreet at h
  split at h
  · rename_i o s
    obtain ⟨rfl, ht, hs, hq⟩ := h
    obtain ⟨s, rfl⟩ := Int.eq_ofNat_of_zero_le hs.1
    have h1 := ht.1
    obtain ⟨n, hn⟩ := Int.eq_ofNat_of_zero_le h1.1
    have k15 := lp_X1_dropStreet (d := d) (Q := Q) (s := s) (n := n) (x2 := 0) (by omega) (by omega) hn (fun M' hM => hq _ (by
      obtain ⟨⟨t1, t2, t3, t4, t5⟩, q2, q3, q4⟩ := hM
      have e2 := q2 2 (by simp)
      exact ⟨⟨by simp [mm_up]; omega, by simpa [mm_up] using t2, by simpa [mm_up] using t3, by simpa [mm_up] using t4, by simpa [mm_up] using t5⟩, (q2.mono (by simp)).up (by simp), fun j hj => by simp [mm_up, hj, e2], by simp [mm_up, hn], fun i hi => by simpa [mm_up] using q3 i (by omega), fun i hi hi2 => by simpa [mm_up] using q4 i (by omega) (by omega)⟩)) (n - s - 1) s M (by omega) (Nat.le_refl _) ht fr.rf (fun _ _ => ⟨rfl, rfl⟩) (fun j a b => by omega) (fun _ _ => ⟨rfl, rfl⟩)
    clear hq ht
    obtain ⟨K, hK, hK2⟩ : ∃ K : Nat → mm_K, (∀ t ls st M d u, K t ls st M d u → rr_X1_dropStreet Q t ls st M d u) ∧ (∀ t ls st M d u, rr_X1_dropStreet Q t ls st M d u → K t ls st M d u) := ⟨rr_X1_dropStreet Q, fun _ _ _ _ _ _ h => h, fun _ _ _ _ _ _ h => h⟩
    refine ⟨Nat.le_of_ble_eq_true rfl, mm_run_at (stop := [15]) (S := K) kkX1_dropStreet 90 ?_ (fun _ _ _ _ _ _ _ h => hK _ _ _ _ _ _ h)⟩
    have k15 := hK2 _ _ _ _ _ _ k15
    repeat' (first | with_reducible assumption | ((with_reducible show mm_rv _ _ _ _ _); first | exact True.intro | exact mm_i2) | with_reducible exact mm_i2 | ((with_reducible show mm_bool _ _); first | exact True.intro | exact Or.inl rfl | exact Or.inr rfl | (show (_ : Int) = 0 ∨ _ = 1)) | refine And.intro ?_ ?_ | intro _ | with_reducible exact True.intro | exact rfl | with_reducible exact Or.inl rfl | with_reducible exact Or.inr rfl | exact Nat.le_of_ble_eq_true rfl)
    all_goals (try simp (disch := omega) only [InI, Int.toNat_natCast, Int.tmod_eq_emod_of_nonneg, Int.tdiv_eq_ediv_of_nonneg, true_implies, true_or, or_true, mm_l18, mm_l19, mm_l20, mm_l21, mm_l22] at *)
    all_goals first | omega | exact k15 | skip
  · exact h.elim
theorem me_X1_dropStreet {l : Launch} (hl : l.stackTraces = false) : mm_Met l yX1_dropStreet cX1_dropStreet 3 none [] 6 100 0 sp_X1_dropStreet := mm_mt hl rn_X1_dropStreet ⟨plX1, rfl⟩ kkX1_dropStreet rfl ⟨Nat.le_of_ble_eq_true rfl, Nat.le_of_ble_eq_true rfl⟩ flkX1 (fun _ h => nomatch h) (trivial) (mm_xe0 _) n9X1
def sp_X1_swapEnds : mm_S := fun av M d Q => match av with
  | [.inr (.inr (.inl o))] =>  o = 2 ∧ tW M ∧ ∀ M', tW M' ∧ fr [3, 4] M M' ∧ (∀ i : Nat, i < M 2 4 → M' 3 i = M 4 i ∧ M' 4 i = M 3 i) → Q (.inl none) M' d
  | _ => False
def ct_X1_swapEnds : List (Nat × mm_Ca) := []
abbrev rr_X1_swapEnds (Q : mm_Q) := mm_run (mm_look flX1) (mm_look ct_X1_swapEnds) mm_x0 (mm_look ([] : List (Nat × Int))) (fun _ => none) 0 0 (fun _ _ => none) Q kdX1_swapEnds
set_option maxRecDepth 20000 in
theorem lp_X1_swapEnds {M0 : mm_M} {d : List Nat} {Q : mm_Q} {n : Nat} (h30 : n ≤ 30) (hn : M0 2 4 = n) (hq : ∀ M', tW M' ∧ fr [3, 4] M0 M' ∧ (∀ i : Nat, i < n → M' 3 i = M0 4 i ∧ M' 4 i = M0 3 i) → Q (.inl none) M' d) : ∀ (k i : Nat) (M : mm_M) (x2 : Option mm_V), i + k = n → tW M → fr [3, 4] M0 M → (∀ j : Nat, j < i → M 3 j = M0 4 j ∧ M 4 j = M0 3 j) → (∀ j : Nat, i ≤ j → M 3 j = M0 3 j ∧ M 4 j = M0 4 j) → rr_X1_swapEnds Q 2 [some (mm_R 2), some (mm_I i), x2] [] M d 0 := by
  intro k
  induction k with
  | zero =>
    intro i M x2 hi ht hf h1 h3
    have e4 : M 2 4 = n := by rw [hf 2 (by simp)]; exact hn
    have qe := hq M ⟨ht, hf, fun j hj => h1 j (by omega)⟩
    clear hq ht hf h1 h3 hn
    obtain ⟨K, hK, hK2⟩ : ∃ K : Nat → mm_K, (∀ t ls st M d u, K t ls st M d u → rr_X1_swapEnds Q t ls st M d u) ∧ (∀ t ls st M d u, rr_X1_swapEnds Q t ls st M d u → K t ls st M d u) := ⟨rr_X1_swapEnds Q, fun _ _ _ _ _ _ h => h, fun _ _ _ _ _ _ h => h⟩
    refine mm_run_at (stop := [10]) (S := K) kkX1_swapEnds 90 ?_ (fun _ _ _ _ _ _ _ h => hK _ _ _ _ _ _ h)
    repeat' (first | with_reducible assumption | ((with_reducible show mm_rv _ _ _ _ _); first | exact True.intro | exact mm_i2) | with_reducible exact mm_i2 | ((with_reducible show mm_bool _ _); first | exact True.intro | exact Or.inl rfl | exact Or.inr rfl | (show (_ : Int) = 0 ∨ _ = 1)) | refine And.intro ?_ ?_ | intro _ | with_reducible exact True.intro | exact rfl | with_reducible exact Or.inl rfl | with_reducible exact Or.inr rfl | exact Nat.le_of_ble_eq_true rfl)
    all_goals (try simp (disch := omega) only [InI, Int.toNat_natCast, Int.tmod_eq_emod_of_nonneg, Int.tdiv_eq_ediv_of_nonneg, true_implies, true_or, or_true, mm_l18, mm_l19, mm_l20, mm_l21, mm_l22] at *)
    all_goals first | omega | exact qe | skip
  | succ k ih =>
    intro i M x2 hi ht hf h1 h3
    have e4 : M 2 4 = n := by rw [hf 2 (by simp)]; exact hn
    have e6 : ∀ v : Int, mm_up M 3 i v 4 = M 4 := fun v => by funext k; simp [mm_up]
    obtain ⟨t1, t2, t3, t4, t5⟩ := id ht
    have b1 := t2 i (by omega)
    have nx := fun x2 => ih (i + 1) (mm_up (mm_up M 3 i (M 4 i)) 4 i (M 3 i)) x2 (by omega) ⟨by simpa [mm_up] using t1, fun j hj => by
      have b2 := t2 j hj
      simp only [mm_up]
      constructor <;> split <;> first | omega | simp_all, by simpa [mm_up] using t3, by simpa [mm_up] using t4, by simpa [mm_up] using t5⟩ ((hf.up (by simp)).up (by simp)) (fun j hj => by
      by_cases e : j = i
      · subst e
        have := h3 j (by omega)
        simp [mm_up, this]
      · have := h1 j (by omega)
        simp [mm_up, e, this]) (fun j hj => by
      have := h3 j (by omega)
      simp [mm_up, show j ≠ i by omega, this])
    clear ih hq ht hf h1 h3 t2 t3 t4 t5 hn
    obtain ⟨K, hK, hK2⟩ : ∃ K : Nat → mm_K, (∀ t ls st M d u, K t ls st M d u → rr_X1_swapEnds Q t ls st M d u) ∧ (∀ t ls st M d u, rr_X1_swapEnds Q t ls st M d u → K t ls st M d u) := ⟨rr_X1_swapEnds Q, fun _ _ _ _ _ _ h => h, fun _ _ _ _ _ _ h => h⟩
    have nx : ∀ x2, K 2 [some (mm_R 2), some (mm_I ((i : Int) + 1)), x2] [] (mm_up (mm_up M 3 i (M 4 i)) 4 i (M 3 i)) d 0 := fun x2 => hK2 _ _ _ _ _ _ (nx x2)
    refine mm_run_at (stop := [2, 42]) (S := K) kkX1_swapEnds 90 ?_ (fun _ _ _ _ _ _ _ h => hK _ _ _ _ _ _ h)
    repeat' (first | with_reducible assumption | ((with_reducible show mm_rv _ _ _ _ _); first | exact True.intro | exact mm_i2 | exact mm_i3 | exact mm_i4) | with_reducible exact mm_i2 | with_reducible exact mm_i3 | with_reducible exact mm_i4 | ((with_reducible show mm_bool _ _); first | exact True.intro | exact Or.inl rfl | exact Or.inr rfl | (show (_ : Int) = 0 ∨ _ = 1)) | refine And.intro ?_ ?_ | intro _ | with_reducible exact True.intro | exact rfl | with_reducible exact Or.inl rfl | with_reducible exact Or.inr rfl | exact Nat.le_of_ble_eq_true rfl)
    all_goals (try simp (disch := omega) only [e6, mm_l3, mm_l4, InI, Int.toNat_natCast, Int.tmod_eq_emod_of_nonneg, Int.tdiv_eq_ediv_of_nonneg, true_implies, true_or, or_true, mm_l18, mm_l19, mm_l20, mm_l21, mm_l22] at *)
    all_goals first | omega | exact nx _ | skip
set_option maxRecDepth 20000 in
theorem rn_X1_swapEnds : mm_RN flX1 ct_X1_swapEnds mm_x0 [] 0 0 3 kdX1_swapEnds sp_X1_swapEnds := by
  intro av M d Q h
  unfold sp_X1_swapEnds at h
  split at h
  · rename_i o
    obtain ⟨rfl, ht, hq⟩ := h
    have h1 := ht.1
    obtain ⟨n, hn⟩ := Int.eq_ofNat_of_zero_le h1.1
    have k2 := lp_X1_swapEnds (d := d) (Q := Q) (n := n) (by omega) hn (fun M' h => hq M' ⟨h.1, h.2.1, fun i hi => h.2.2 i (by omega)⟩) n 0 M none (by omega) ht fr.rf (fun j hj => by omega) (fun _ _ => ⟨rfl, rfl⟩)
    clear hq ht
    obtain ⟨K, hK, hK2⟩ : ∃ K : Nat → mm_K, (∀ t ls st M d u, K t ls st M d u → rr_X1_swapEnds Q t ls st M d u) ∧ (∀ t ls st M d u, rr_X1_swapEnds Q t ls st M d u → K t ls st M d u) := ⟨rr_X1_swapEnds Q, fun _ _ _ _ _ _ h => h, fun _ _ _ _ _ _ h => h⟩
    refine ⟨Nat.le_of_ble_eq_true rfl, mm_run_at (stop := [2]) (S := K) kkX1_swapEnds 90 ?_ (fun _ _ _ _ _ _ _ h => hK _ _ _ _ _ _ h)⟩
    have k2 := hK2 _ _ _ _ _ _ k2
    repeat' (first | with_reducible assumption | ((with_reducible show mm_rv _ _ _ _ _); first | exact True.intro | exact mm_i2) | with_reducible exact mm_i2 | ((with_reducible show mm_bool _ _); first | exact True.intro | exact Or.inl rfl | exact Or.inr rfl | (show (_ : Int) = 0 ∨ _ = 1)) | refine And.intro ?_ ?_ | intro _ | with_reducible exact True.intro | exact rfl | with_reducible exact Or.inl rfl | with_reducible exact Or.inr rfl | exact Nat.le_of_ble_eq_true rfl)
    all_goals (try simp (disch := omega) only [InI, Int.toNat_natCast, Int.tmod_eq_emod_of_nonneg, Int.tdiv_eq_ediv_of_nonneg, true_implies, true_or, or_true, mm_l18, mm_l19, mm_l20, mm_l21, mm_l22] at *)
    all_goals first | omega | exact k2 | skip
  · exact h.elim
theorem me_X1_swapEnds {l : Launch} (hl : l.stackTraces = false) : mm_Met l yX1_swapEnds cX1_swapEnds 3 none [] 6 100 0 sp_X1_swapEnds := mm_mt hl rn_X1_swapEnds ⟨plX1, rfl⟩ kkX1_swapEnds rfl ⟨Nat.le_of_ble_eq_true rfl, Nat.le_of_ble_eq_true rfl⟩ flkX1 (fun _ h => nomatch h) (trivial) (mm_xe0 _) n9X1
end
section
/-! the class's town: sets of streets -/
theorem sh_in {a : Int} {k : Nat} (h : 0 ≤ a ∧ a < 2147483648) : InI (a / 2 ^ k) := by
  have hp : (0 : Int) < 2 ^ k := Int.pow_pos (by decide)
  have h1 := Int.ediv_nonneg h.1 (Int.le_of_lt hp)
  have h2 := Int.ediv_le_self (2 ^ k) h.1
  exact ⟨by omega, by omega⟩
def sp_X1_isIn : mm_S := fun av M d Q => match av with
  | [.inl a, .inl s] =>  (0 ≤ a ∧ a < 2147483648) ∧ (0 ≤ s ∧ s < 31) ∧ ∀ r, (bt a s.toNat = 1 → r = 1) ∧ (bt a s.toNat = 0 → r = 0) → Q (.inl (some (mm_I r))) M d
  | _ => False
def ct_X1_isIn : List (Nat × mm_Ca) := []
abbrev rr_X1_isIn (Q : mm_Q) := mm_run (mm_look flX1) (mm_look ct_X1_isIn) mm_x0 (mm_look ([] : List (Nat × Int))) (fun _ => none) 2 0 (fun _ _ => none) Q kdX1_isIn
set_option maxRecDepth 20000 in
theorem rn_X1_isIn : mm_RN flX1 ct_X1_isIn mm_x0 [] 2 0 2 kdX1_isIn sp_X1_isIn := by
  intro av M d Q h
  unfold sp_X1_isIn at h
  split at h
  · rename_i a s
    obtain ⟨ha, hs, hq⟩ := h
    have ea : mm_and (a / 2 ^ s.toNat) 1 = bt a s.toNat := mm_and1 (sh_in ha)
    have hb := bt_01 a s.toNat
    have q0 : bt a s.toNat = 0 → _ := fun h => hq 0 ⟨fun h2 => by omega, fun _ => rfl⟩
    have q1 : bt a s.toNat = 1 → _ := fun h => hq 1 ⟨fun _ => rfl, fun h2 => by omega⟩
    clear hq
    obtain ⟨K, hK, hK2⟩ : ∃ K : Nat → mm_K, (∀ t ls st M d u, K t ls st M d u → rr_X1_isIn Q t ls st M d u) ∧ (∀ t ls st M d u, rr_X1_isIn Q t ls st M d u → K t ls st M d u) := ⟨rr_X1_isIn Q, fun _ _ _ _ _ _ h => h, fun _ _ _ _ _ _ h => h⟩
    refine ⟨Nat.le_of_ble_eq_true rfl, mm_run_at (stop := []) (S := K) kkX1_isIn 90 ?_ (fun _ _ _ _ _ _ _ h => hK _ _ _ _ _ _ h)⟩
    repeat' (first | with_reducible assumption | ((with_reducible show mm_rv _ _ _ _ _); first | exact True.intro | exact mm_i2) | with_reducible exact mm_i2 | ((with_reducible show mm_bool _ _); first | exact True.intro | exact Or.inl rfl | exact Or.inr rfl | (show (_ : Int) = 0 ∨ _ = 1)) | refine And.intro ?_ ?_ | intro _ | with_reducible exact True.intro | exact rfl | with_reducible exact Or.inl rfl | with_reducible exact Or.inr rfl | exact Nat.le_of_ble_eq_true rfl)
    all_goals (try simp (disch := omega) only [ea, InI, Int.toNat_natCast, Int.tmod_eq_emod_of_nonneg, Int.tdiv_eq_ediv_of_nonneg, true_implies, true_or, or_true, mm_l18, mm_l19, mm_l20, mm_l21, mm_l22] at *)
    all_goals first | omega | exact q0 (by omega) | exact q1 (by omega) | skip
  · exact h.elim
theorem me_X1_isIn {l : Launch} (hl : l.stackTraces = false) : mm_Met l yX1_isIn cX1_isIn 2 (some .boolean) [] 6 100 0 sp_X1_isIn := mm_mt hl rn_X1_isIn ⟨plX1, rfl⟩ kkX1_isIn rfl ⟨Nat.le_of_ble_eq_true rfl, Nat.le_of_ble_eq_true rfl⟩ flkX1 (fun _ h => nomatch h) (trivial) (mm_xe0 _) n9X1
def sp_X1_countWays : mm_S := fun av M d Q => match av with
  | [.inr (.inr (.inl o)), .inl S] =>  o = 2 ∧ tW M ∧ (0 ≤ S ∧ S < 1073741824) ∧ ∀ M', fr [5, 6] M M' ∧ (∀ c : Nat, c < 10 → M' 5 c = oc (M 3) S c (M 2 4).toNat ∧ M' 6 c = oc (M 4) S c (M 2 4).toNat) → Q (.inl none) M' d
  | _ => False
def ct_X1_countWays : List (Nat × mm_Ca) := []
abbrev rr_X1_countWays (Q : mm_Q) := mm_run (mm_look flX1) (mm_look ct_X1_countWays) mm_x0 (mm_look ([] : List (Nat × Int))) (fun _ => none) 0 0 (fun _ _ => none) Q kdX1_countWays
set_option maxRecDepth 20000 in
theorem lp2_X1_countWays {M0 : mm_M} {d : List Nat} {Q : mm_Q} {S : Int} {n : Nat} (ht : tW M0) (hS : 0 ≤ S ∧ S < 1073741824) (hn : M0 2 4 = n) (hq : ∀ M', fr [5, 6] M0 M' ∧ (∀ c : Nat, c < 10 → M' 5 c = oc (M0 3) S c n ∧ M' 6 c = oc (M0 4) S c n) → Q (.inl none) M' d) : ∀ (k i : Nat) (M : mm_M) (x3 : Option mm_V), i + k = n → fr [5, 6] M0 M → (∀ c : Nat, c < 10 → M 5 c = oc (M0 3) S c i ∧ M 6 c = oc (M0 4) S c i) → rr_X1_countWays Q 30 [some (mm_R 2), some (mm_I S), some (mm_I i), x3] [] M d 0 := by
  obtain ⟨t1, t2, -, -, -⟩ := id ht
  clear ht
  intro k
  induction k with
  | zero =>
    intro i M x3 hi hf h1
    have e4 : M 2 4 = n := by rw [hf 2 (by simp)]; exact hn
    have e : i = n := by omega
    have qe := hq M ⟨hf, by rw [← e]; exact h1⟩
    clear hq hf h1 t2
    obtain ⟨K, hK, hK2⟩ : ∃ K : Nat → mm_K, (∀ t ls st M d u, K t ls st M d u → rr_X1_countWays Q t ls st M d u) ∧ (∀ t ls st M d u, rr_X1_countWays Q t ls st M d u → K t ls st M d u) := ⟨rr_X1_countWays Q, fun _ _ _ _ _ _ h => h, fun _ _ _ _ _ _ h => h⟩
    refine mm_run_at (stop := [38]) (S := K) kkX1_countWays 90 ?_ (fun _ _ _ _ _ _ _ h => hK _ _ _ _ _ _ h)
    repeat' (first | with_reducible assumption | ((with_reducible show mm_rv _ _ _ _ _); first | exact True.intro | exact mm_i2) | with_reducible exact mm_i2 | ((with_reducible show mm_bool _ _); first | exact True.intro | exact Or.inl rfl | exact Or.inr rfl | (show (_ : Int) = 0 ∨ _ = 1)) | refine And.intro ?_ ?_ | intro _ | with_reducible exact True.intro | exact rfl | with_reducible exact Or.inl rfl | with_reducible exact Or.inr rfl | exact Nat.le_of_ble_eq_true rfl)
    all_goals (try simp (disch := omega) only [InI, Int.toNat_natCast, Int.tmod_eq_emod_of_nonneg, Int.tdiv_eq_ediv_of_nonneg, true_implies, true_or, or_true, mm_l18, mm_l19, mm_l20, mm_l21, mm_l22] at *)
    all_goals first | omega | exact qe | skip
  | succ k ih =>
    intro i M x3 hi hf h1
    have e1 : mm_and (S / 2 ^ i) 1 = bt S i := mm_and1 (sh_in ⟨hS.1, by omega⟩)
    have e3 : M 3 i = M0 3 i := by rw [hf 3 (by simp)]
    have e4 : M 2 4 = n := by rw [hf 2 (by simp)]; exact hn
    have e8 : M 4 i = M0 4 i := by rw [hf 4 (by simp)]
    have b1 := t2 i (by omega)
    have hb := bt_01 S i
    have e6 : ∀ k v, mm_up M 5 k v 4 i = M0 4 i := fun k v => by simp [mm_up, e8]
    have e7 : ∀ k v j, mm_up M 5 k v 6 j = M 6 j := fun k v j => by simp [mm_up]
    have nx := fun x3 => ih (i + 1) (mm_up (mm_up M 5 (M0 3 i).toNat (M 5 (M0 3 i).toNat + bt S i)) 6 (M0 4 i).toNat (M 6 (M0 4 i).toNat + bt S i)) x3 (by omega) ((hf.up (by simp)).up (by simp)) (fun c hc => by
      have h2 := h1 c hc
      have h3 := h1 (M0 3 i).toNat (by omega)
      have h4 := h1 (M0 4 i).toNat (by omega)
      constructor
      · simp only [mm_up, oc]
        by_cases e : M0 3 i = c
        · have e' : c = (M0 3 i).toNat := by omega
          rw [if_pos e]
          simp [e', h3.1]
        · have e' : ¬ c = (M0 3 i).toNat := by omega
          rw [if_neg e]
          simp [e', h2.1]
      · simp only [mm_up, oc]
        by_cases e : M0 4 i = c
        · have e' : c = (M0 4 i).toNat := by omega
          rw [if_pos e]
          simp [e', h4.2]
        · have e' : ¬ c = (M0 4 i).toNat := by omega
          rw [if_neg e]
          simp [e', h2.2])
    clear ih hq hf h1 t2
    obtain ⟨K, hK, hK2⟩ : ∃ K : Nat → mm_K, (∀ t ls st M d u, K t ls st M d u → rr_X1_countWays Q t ls st M d u) ∧ (∀ t ls st M d u, rr_X1_countWays Q t ls st M d u → K t ls st M d u) := ⟨rr_X1_countWays Q, fun _ _ _ _ _ _ h => h, fun _ _ _ _ _ _ h => h⟩
    have nx : ∀ x3, K 30 [some (mm_R 2), some (mm_I S), some (mm_I ((i : Int) + 1)), x3] [] (mm_up (mm_up M 5 (M0 3 i).toNat (M 5 (M0 3 i).toNat + bt S i)) 6 (M0 4 i).toNat (M 6 (M0 4 i).toNat + bt S i)) d 0 := fun x3 => hK2 _ _ _ _ _ _ (nx x3)
    refine mm_run_at (stop := [30, 80]) (S := K) kkX1_countWays 90 ?_ (fun _ _ _ _ _ _ _ h => hK _ _ _ _ _ _ h)
    repeat' (first | with_reducible assumption | ((with_reducible show mm_rv _ _ _ _ _); first | exact True.intro | exact mm_i2 | exact mm_i3 | exact mm_i4 | exact mm_i5 | exact mm_i6) | with_reducible exact mm_i2 | with_reducible exact mm_i3 | with_reducible exact mm_i4 | with_reducible exact mm_i5 | with_reducible exact mm_i6 | ((with_reducible show mm_bool _ _); first | exact True.intro | exact Or.inl rfl | exact Or.inr rfl | (show (_ : Int) = 0 ∨ _ = 1)) | refine And.intro ?_ ?_ | intro _ | with_reducible exact True.intro | exact rfl | with_reducible exact Or.inl rfl | with_reducible exact Or.inr rfl | exact Nat.le_of_ble_eq_true rfl)
    all_goals (try simp (disch := omega) only [e1, e3, e6, e7, mm_l3, mm_l4, mm_l5, mm_l6, InI, Int.toNat_natCast, Int.tmod_eq_emod_of_nonneg, Int.tdiv_eq_ediv_of_nonneg, true_implies, true_or, or_true, mm_l18, mm_l19, mm_l20, mm_l21, mm_l22] at *)
    all_goals first | omega | exact nx _ | skip
set_option maxRecDepth 20000 in
theorem lp_X1_countWays {M0 : mm_M} {d : List Nat} {Q : mm_Q} {S : Int} {n : Nat} (ht : tW M0) (hS : 0 ≤ S ∧ S < 1073741824) (hn : M0 2 4 = n) (hq : ∀ M', fr [5, 6] M0 M' ∧ (∀ c : Nat, c < 10 → M' 5 c = oc (M0 3) S c n ∧ M' 6 c = oc (M0 4) S c n) → Q (.inl none) M' d) : ∀ (k i : Nat) (M : mm_M), i + k = 10 → fr [5, 6] M0 M → (∀ c : Nat, c < i → M 5 c = 0 ∧ M 6 c = 0) → rr_X1_countWays Q 2 [some (mm_R 2), some (mm_I S), some (mm_I i), none] [] M d 0 := by
  intro k
  induction k with
  | zero =>
    intro i M hi hf h1
    have k30 := lp2_X1_countWays ht hS hn hq n 0 M none (by omega) hf (fun c hc => by simpa [oc] using h1 c (by omega))
    clear hq ht hf h1
    obtain ⟨K, hK, hK2⟩ : ∃ K : Nat → mm_K, (∀ t ls st M d u, K t ls st M d u → rr_X1_countWays Q t ls st M d u) ∧ (∀ t ls st M d u, rr_X1_countWays Q t ls st M d u → K t ls st M d u) := ⟨rr_X1_countWays Q, fun _ _ _ _ _ _ h => h, fun _ _ _ _ _ _ h => h⟩
    have k30 := hK2 _ _ _ _ _ _ k30
    refine mm_run_at (stop := [8, 30]) (S := K) kkX1_countWays 90 ?_ (fun _ _ _ _ _ _ _ h => hK _ _ _ _ _ _ h)
    repeat' (first | with_reducible assumption | ((with_reducible show mm_rv _ _ _ _ _); first | exact True.intro | exact mm_i2) | with_reducible exact mm_i2 | ((with_reducible show mm_bool _ _); first | exact True.intro | exact Or.inl rfl | exact Or.inr rfl | (show (_ : Int) = 0 ∨ _ = 1)) | refine And.intro ?_ ?_ | intro _ | with_reducible exact True.intro | exact rfl | with_reducible exact Or.inl rfl | with_reducible exact Or.inr rfl | exact Nat.le_of_ble_eq_true rfl)
    all_goals (try simp (disch := omega) only [InI, Int.toNat_natCast, Int.tmod_eq_emod_of_nonneg, Int.tdiv_eq_ediv_of_nonneg, true_implies, true_or, or_true, mm_l18, mm_l19, mm_l20, mm_l21, mm_l22] at *)
    all_goals first | omega | exact k30 | skip
  | succ k ih =>
    intro i M hi hf h1
    have nx := ih (i + 1) (mm_up (mm_up M 5 i 0) 6 i 0) (by omega) ((hf.up (by simp)).up (by simp)) (fun c hc => by
      by_cases e : c = i
      · simp [mm_up, e]
      · have := h1 c (by omega)
        simp [mm_up, e, this])
    clear ih hq ht hf h1
    obtain ⟨K, hK, hK2⟩ : ∃ K : Nat → mm_K, (∀ t ls st M d u, K t ls st M d u → rr_X1_countWays Q t ls st M d u) ∧ (∀ t ls st M d u, rr_X1_countWays Q t ls st M d u → K t ls st M d u) := ⟨rr_X1_countWays Q, fun _ _ _ _ _ _ h => h, fun _ _ _ _ _ _ h => h⟩
    have nx : K 2 [some (mm_R 2), some (mm_I S), some (mm_I ((i : Int) + 1)), none] [] (mm_up (mm_up M 5 i 0) 6 i 0) d 0 := hK2 _ _ _ _ _ _ nx
    refine mm_run_at (stop := [2, 28]) (S := K) kkX1_countWays 90 ?_ (fun _ _ _ _ _ _ _ h => hK _ _ _ _ _ _ h)
    repeat' (first | with_reducible assumption | ((with_reducible show mm_rv _ _ _ _ _); first | exact True.intro | exact mm_i2 | exact mm_i5 | exact mm_i6) | with_reducible exact mm_i2 | with_reducible exact mm_i5 | with_reducible exact mm_i6 | ((with_reducible show mm_bool _ _); first | exact True.intro | exact Or.inl rfl | exact Or.inr rfl | (show (_ : Int) = 0 ∨ _ = 1)) | refine And.intro ?_ ?_ | intro _ | with_reducible exact True.intro | exact rfl | with_reducible exact Or.inl rfl | with_reducible exact Or.inr rfl | exact Nat.le_of_ble_eq_true rfl)
    all_goals (try simp (disch := omega) only [mm_l5, mm_l6, InI, Int.toNat_natCast, Int.tmod_eq_emod_of_nonneg, Int.tdiv_eq_ediv_of_nonneg, true_implies, true_or, or_true, mm_l18, mm_l19, mm_l20, mm_l21, mm_l22] at *)
    all_goals first | omega | exact nx | skip
set_option maxRecDepth 20000 in
theorem rn_X1_countWays : mm_RN flX1 ct_X1_countWays mm_x0 [] 0 0 4 kdX1_countWays sp_X1_countWays := by
  intro av M d Q h
  unfold sp_X1_countWays at h
  split at h
  · rename_i o S
    obtain ⟨rfl, ht, hS, hq⟩ := h
    have h1 := ht.1
    obtain ⟨n, hn⟩ := Int.eq_ofNat_of_zero_le h1.1
    have k2 := lp_X1_countWays (d := d) (Q := Q) ht hS hn (fun M' h => hq M' (by rw [hn]; exact h)) 10 0 M (by omega) fr.rf (fun c hc => by omega)
    clear hq ht
    obtain ⟨K, hK, hK2⟩ : ∃ K : Nat → mm_K, (∀ t ls st M d u, K t ls st M d u → rr_X1_countWays Q t ls st M d u) ∧ (∀ t ls st M d u, rr_X1_countWays Q t ls st M d u → K t ls st M d u) := ⟨rr_X1_countWays Q, fun _ _ _ _ _ _ h => h, fun _ _ _ _ _ _ h => h⟩
    refine ⟨Nat.le_of_ble_eq_true rfl, mm_run_at (stop := [2]) (S := K) kkX1_countWays 90 ?_ (fun _ _ _ _ _ _ _ h => hK _ _ _ _ _ _ h)⟩
    have k2 := hK2 _ _ _ _ _ _ k2
    repeat' (first | with_reducible assumption | ((with_reducible show mm_rv _ _ _ _ _); first | exact True.intro | exact mm_i2) | with_reducible exact mm_i2 | ((with_reducible show mm_bool _ _); first | exact True.intro | exact Or.inl rfl | exact Or.inr rfl | (show (_ : Int) = 0 ∨ _ = 1)) | refine And.intro ?_ ?_ | intro _ | with_reducible exact True.intro | exact rfl | with_reducible exact Or.inl rfl | with_reducible exact Or.inr rfl | exact Nat.le_of_ble_eq_true rfl)
    all_goals (try simp (disch := omega) only [InI, Int.toNat_natCast, Int.tmod_eq_emod_of_nonneg, Int.tdiv_eq_ediv_of_nonneg, true_implies, true_or, or_true, mm_l18, mm_l19, mm_l20, mm_l21, mm_l22] at *)
    all_goals first | omega | exact k2 | skip
  · exact h.elim
theorem me_X1_countWays {l : Launch} (hl : l.stackTraces = false) : mm_Met l yX1_countWays cX1_countWays 4 none [] 6 100 0 sp_X1_countWays := mm_mt hl rn_X1_countWays ⟨plX1, rfl⟩ kkX1_countWays rfl ⟨Nat.le_of_ble_eq_true rfl, Nat.le_of_ble_eq_true rfl⟩ flkX1 (fun _ h => nomatch h) (trivial) (mm_xe0 _) n9X1
def sp_X1_outOf : mm_S := fun av M d Q => match av with
  | [.inr (.inr (.inl o)), .inl c] =>  o = 2 ∧ tW M ∧ (0 ≤ c ∧ c < 10) ∧ ∀ M' r, fr [5, 6] M M' ∧ r = oc (M 3) (2 ^ (M 2 4).toNat - 1) c (M 2 4).toNat ∧ 0 ≤ r ∧ r ≤ 30 → Q (.inl (some (mm_I r))) M' d
  | _ => False
def ct_X1_outOf : List (Nat × mm_Ca) := [(66, (0, 1, 11, sp_X1_allStreets, 0)), (70, (0, 2, 11, sp_X1_countWays, 0)), (38, (1, 1, 0, sp_X1_isCorner, 0))]
abbrev rr_X1_outOf (Q : mm_Q) := mm_run (mm_look flX1) (mm_look ct_X1_outOf) mm_x0 (mm_look ([] : List (Nat × Int))) (fun _ => none) 1 0 (fun _ _ => none) Q kdX1_outOf
set_option maxRecDepth 20000 in
theorem rn_X1_outOf : mm_RN flX1 ct_X1_outOf mm_x0 [] 1 0 2 kdX1_outOf sp_X1_outOf := by
  intro av M d Q h
  unfold sp_X1_outOf at h
  split at h
  · rename_i o c
    obtain ⟨rfl, ht, hc, hq⟩ := h
    have h1 := ht.1
    have ho := oc_le (M 3) (2 ^ (M 2 4).toNat - 1) c (M 2 4).toNat
    have q5 : ∀ r, r = 2 ^ (M 2 4).toNat - 1 ∧ 0 ≤ r ∧ r < 1073741824 → ∀ M', fr [5, 6] M M' ∧ (∀ c : Nat, c < 10 → M' 5 c = oc (M 3) r c (M 2 4).toNat ∧ M' 6 c = oc (M 4) r c (M 2 4).toNat) → Q (.inl (some (mm_I (M' 5 c.toNat)))) M' d := fun r hr M' h => by
      have h5 := (h.2 c.toNat (by omega)).1
      rw [hr.1, show ((c.toNat : Nat) : Int) = c by omega] at h5
      exact hq M' _ ⟨h.1, h5, by omega, by omega⟩
    clear hq ho
    obtain ⟨K, hK, hK2⟩ : ∃ K : Nat → mm_K, (∀ t ls st M d u, K t ls st M d u → rr_X1_outOf Q t ls st M d u) ∧ (∀ t ls st M d u, rr_X1_outOf Q t ls st M d u → K t ls st M d u) := ⟨rr_X1_outOf Q, fun _ _ _ _ _ _ h => h, fun _ _ _ _ _ _ h => h⟩
    refine ⟨Nat.le_of_ble_eq_true rfl, mm_run_at (stop := []) (S := K) kkX1_outOf 90 ?_ (fun _ _ _ _ _ _ _ h => hK _ _ _ _ _ _ h)⟩
    repeat' (first | with_reducible assumption | ((with_reducible show mm_rv _ _ _ _ _); first | exact True.intro | exact mm_i2 | exact mm_i5) | with_reducible exact mm_i2 | with_reducible exact mm_i5 | ((with_reducible show mm_bool _ _); first | exact True.intro | exact Or.inl rfl | exact Or.inr rfl | (show (_ : Int) = 0 ∨ _ = 1)) | refine And.intro ?_ ?_ | intro _ | with_reducible exact True.intro | exact rfl | with_reducible exact Or.inl rfl | with_reducible exact Or.inr rfl | exact Nat.le_of_ble_eq_true rfl)
    all_goals first | omega | (simp only [mm_l5] at *; omega) | exact q5 _ (by assumption) _ (by assumption) | skip
  · exact h.elim
theorem me_X1_outOf {l : Launch} (hl : l.stackTraces = false) : mm_Met l yX1_outOf cX1_outOf 2 (some .int) [] 7 123 0 sp_X1_outOf := mm_mt hl rn_X1_outOf ⟨plX1, rfl⟩ kkX1_outOf rfl ⟨Nat.le_of_ble_eq_true rfl, Nat.le_of_ble_eq_true rfl⟩ flkX1 (fun _ h => nomatch h) (⟨mm_pe (me_X1_allStreets hl) mwX1_allStreets (mm_t2 24 rfl rfl) (Nat.le_of_ble_eq_true rfl) (Nat.le_of_ble_eq_true rfl), mm_pe (me_X1_countWays hl) mwX1_countWays (mm_t1 228 rfl rfl) (Nat.le_of_ble_eq_true rfl) (Nat.le_of_ble_eq_true rfl), mm_pe (me_X1_isCorner hl) mwX1_isCorner (mm_t1 236 rfl rfl) (Nat.le_of_ble_eq_true rfl) (Nat.le_of_ble_eq_true rfl), trivial⟩) (mm_xe0 _) n9X1
def sp_X1_inOf : mm_S := fun av M d Q => match av with
  | [.inr (.inr (.inl o)), .inl c] =>  o = 2 ∧ tW M ∧ (0 ≤ c ∧ c < 10) ∧ ∀ M' r, fr [5, 6] M M' ∧ r = oc (M 4) (2 ^ (M 2 4).toNat - 1) c (M 2 4).toNat ∧ 0 ≤ r ∧ r ≤ 30 → Q (.inl (some (mm_I r))) M' d
  | _ => False
def ct_X1_inOf : List (Nat × mm_Ca) := [(66, (0, 1, 11, sp_X1_allStreets, 0)), (70, (0, 2, 11, sp_X1_countWays, 0)), (38, (1, 1, 0, sp_X1_isCorner, 0))]
abbrev rr_X1_inOf (Q : mm_Q) := mm_run (mm_look flX1) (mm_look ct_X1_inOf) mm_x0 (mm_look ([] : List (Nat × Int))) (fun _ => none) 1 0 (fun _ _ => none) Q kdX1_inOf
set_option maxRecDepth 20000 in
theorem rn_X1_inOf : mm_RN flX1 ct_X1_inOf mm_x0 [] 1 0 2 kdX1_inOf sp_X1_inOf := by
  intro av M d Q h
  unfold sp_X1_inOf at h
  split at h
  · rename_i o c
    obtain ⟨rfl, ht, hc, hq⟩ := h
    have h1 := ht.1
    have ho := oc_le (M 4) (2 ^ (M 2 4).toNat - 1) c (M 2 4).toNat
    have q6 : ∀ r, r = 2 ^ (M 2 4).toNat - 1 ∧ 0 ≤ r ∧ r < 1073741824 → ∀ M', fr [5, 6] M M' ∧ (∀ c : Nat, c < 10 → M' 5 c = oc (M 3) r c (M 2 4).toNat ∧ M' 6 c = oc (M 4) r c (M 2 4).toNat) → Q (.inl (some (mm_I (M' 6 c.toNat)))) M' d := fun r hr M' h => by
      have h5 := (h.2 c.toNat (by omega)).2
      rw [hr.1, show ((c.toNat : Nat) : Int) = c by omega] at h5
      exact hq M' _ ⟨h.1, h5, by omega, by omega⟩
    clear hq ho
    obtain ⟨K, hK, hK2⟩ : ∃ K : Nat → mm_K, (∀ t ls st M d u, K t ls st M d u → rr_X1_inOf Q t ls st M d u) ∧ (∀ t ls st M d u, rr_X1_inOf Q t ls st M d u → K t ls st M d u) := ⟨rr_X1_inOf Q, fun _ _ _ _ _ _ h => h, fun _ _ _ _ _ _ h => h⟩
    refine ⟨Nat.le_of_ble_eq_true rfl, mm_run_at (stop := []) (S := K) kkX1_inOf 90 ?_ (fun _ _ _ _ _ _ _ h => hK _ _ _ _ _ _ h)⟩
    repeat' (first | with_reducible assumption | ((with_reducible show mm_rv _ _ _ _ _); first | exact True.intro | exact mm_i2 | exact mm_i6) | with_reducible exact mm_i2 | with_reducible exact mm_i6 | ((with_reducible show mm_bool _ _); first | exact True.intro | exact Or.inl rfl | exact Or.inr rfl | (show (_ : Int) = 0 ∨ _ = 1)) | refine And.intro ?_ ?_ | intro _ | with_reducible exact True.intro | exact rfl | with_reducible exact Or.inl rfl | with_reducible exact Or.inr rfl | exact Nat.le_of_ble_eq_true rfl)
    all_goals first | omega | (simp only [mm_l6] at *; omega) | exact q6 _ (by assumption) _ (by assumption) | skip
  · exact h.elim
theorem me_X1_inOf {l : Launch} (hl : l.stackTraces = false) : mm_Met l yX1_inOf cX1_inOf 2 (some .int) [] 7 123 0 sp_X1_inOf := mm_mt hl rn_X1_inOf ⟨plX1, rfl⟩ kkX1_inOf rfl ⟨Nat.le_of_ble_eq_true rfl, Nat.le_of_ble_eq_true rfl⟩ flkX1 (fun _ h => nomatch h) (⟨mm_pe (me_X1_allStreets hl) mwX1_allStreets (mm_t2 24 rfl rfl) (Nat.le_of_ble_eq_true rfl) (Nat.le_of_ble_eq_true rfl), mm_pe (me_X1_countWays hl) mwX1_countWays (mm_t1 228 rfl rfl) (Nat.le_of_ble_eq_true rfl) (Nat.le_of_ble_eq_true rfl), mm_pe (me_X1_isCorner hl) mwX1_isCorner (mm_t1 236 rfl rfl) (Nat.le_of_ble_eq_true rfl) (Nat.le_of_ble_eq_true rfl), trivial⟩) (mm_xe0 _) n9X1
def sp_X1_isOddAsCounted : mm_S := fun av M d Q => match av with
  | [.inr (.inr (.inl o)), .inl c] =>  o = 2 ∧ tW M ∧ (0 ≤ c ∧ c < 10) ∧ (0 ≤ M 5 c.toNat ∧ M 5 c.toNat ≤ 30) ∧ (0 ≤ M 6 c.toNat ∧ M 6 c.toNat ≤ 30) ∧ ∀ r, (M 2 5 = 0 → r = (M 5 c.toNat + M 6 c.toNat) % 2) ∧ (M 2 5 ≠ 0 → M 5 c.toNat = M 6 c.toNat → r = 0) ∧ (M 2 5 ≠ 0 → M 5 c.toNat ≠ M 6 c.toNat → r = 1) → Q (.inl (some (mm_I r))) M d
  | _ => False
def ct_X1_isOddAsCounted : List (Nat × mm_Ca) := [(38, (1, 1, 0, sp_X1_isCorner, 0))]
abbrev rr_X1_isOddAsCounted (Q : mm_Q) := mm_run (mm_look flX1) (mm_look ct_X1_isOddAsCounted) mm_x0 (mm_look ([] : List (Nat × Int))) (fun _ => none) 2 0 (fun _ _ => none) Q kdX1_isOddAsCounted
set_option maxRecDepth 20000 in
theorem rn_X1_isOddAsCounted : mm_RN flX1 ct_X1_isOddAsCounted mm_x0 [] 2 0 2 kdX1_isOddAsCounted sp_X1_isOddAsCounted := by
  intro av M d Q h
  unfold sp_X1_isOddAsCounted at h
  split at h
  · rename_i o c
    obtain ⟨rfl, ht, hc, h5, h6, hq⟩ := h
    have h1 := ht.2.2.1
    have q0 : (M 2 5 = 0 ∧ (M 5 c.toNat + M 6 c.toNat) % 2 = 0) ∨ (M 2 5 ≠ 0 ∧ M 5 c.toNat = M 6 c.toNat) → _ := fun h => hq 0 ⟨fun h2 => by omega, fun _ _ => rfl, fun h2 h3 => by omega⟩
    have q1 : (M 2 5 = 0 ∧ (M 5 c.toNat + M 6 c.toNat) % 2 ≠ 0) ∨ (M 2 5 ≠ 0 ∧ M 5 c.toNat ≠ M 6 c.toNat) → _ := fun h => hq 1 ⟨fun h2 => by omega, fun h2 h3 => by omega, fun _ _ => rfl⟩
    clear hq ht
    obtain ⟨K, hK, hK2⟩ : ∃ K : Nat → mm_K, (∀ t ls st M d u, K t ls st M d u → rr_X1_isOddAsCounted Q t ls st M d u) ∧ (∀ t ls st M d u, rr_X1_isOddAsCounted Q t ls st M d u → K t ls st M d u) := ⟨rr_X1_isOddAsCounted Q, fun _ _ _ _ _ _ h => h, fun _ _ _ _ _ _ h => h⟩
    refine ⟨Nat.le_of_ble_eq_true rfl, mm_run_at (stop := []) (S := K) kkX1_isOddAsCounted 90 ?_ (fun _ _ _ _ _ _ _ h => hK _ _ _ _ _ _ h)⟩
    repeat' (first | with_reducible assumption | ((with_reducible show mm_rv _ _ _ _ _); first | exact True.intro | exact mm_i2 | exact mm_i5 | exact mm_i6) | with_reducible exact mm_i2 | with_reducible exact mm_i5 | with_reducible exact mm_i6 | ((with_reducible show mm_bool _ _); first | exact True.intro | exact Or.inl rfl | exact Or.inr rfl | (show (_ : Int) = 0 ∨ _ = 1)) | refine And.intro ?_ ?_ | intro _ | with_reducible exact True.intro | exact rfl | with_reducible exact Or.inl rfl | with_reducible exact Or.inr rfl | exact Nat.le_of_ble_eq_true rfl)
    all_goals (try simp (disch := omega) only [mm_l5, mm_l6, InI, Int.toNat_natCast, Int.tmod_eq_emod_of_nonneg, Int.tdiv_eq_ediv_of_nonneg, true_implies, true_or, or_true, mm_l18, mm_l19, mm_l20, mm_l21, mm_l22] at *)
    all_goals first | omega | exact q0 (by omega) | exact q1 (by omega) | skip
  · exact h.elim
theorem me_X1_isOddAsCounted {l : Launch} (hl : l.stackTraces = false) : mm_Met l yX1_isOddAsCounted cX1_isOddAsCounted 2 (some .boolean) [] 7 120 0 sp_X1_isOddAsCounted := mm_mt hl rn_X1_isOddAsCounted ⟨plX1, rfl⟩ kkX1_isOddAsCounted rfl ⟨Nat.le_of_ble_eq_true rfl, Nat.le_of_ble_eq_true rfl⟩ flkX1 (fun _ h => nomatch h) (⟨mm_pe (me_X1_isCorner hl) mwX1_isCorner (mm_t1 236 rfl rfl) (Nat.le_of_ble_eq_true rfl) (Nat.le_of_ble_eq_true rfl), trivial⟩) (mm_xe0 _) n9X1
def sp_X1_oddCount : mm_S := fun av M d Q => match av with
  | [.inr (.inr (.inl o)), .inl S] =>  o = 2 ∧ tW M ∧ (0 ≤ S ∧ S < 1073741824) ∧ ∀ M' r, fr [5, 6] M M' ∧ (∀ c : Nat, c < 10 → M' 5 c = oc (M 3) S c (M 2 4).toNat ∧ M' 6 c = oc (M 4) S c (M 2 4).toNat) ∧ r = odn (M 3) (M 4) (M 2 4).toNat (M 2 5) S 10 ∧ 0 ≤ r ∧ r ≤ 10 → Q (.inl (some (mm_I r))) M' d
  | _ => False
def ct_X1_oddCount : List (Nat × mm_Ca) := [(70, (0, 2, 11, sp_X1_countWays, 0)), (74, (0, 2, 11, sp_X1_isOddAsCounted, 0))]
abbrev rr_X1_oddCount (Q : mm_Q) := mm_run (mm_look flX1) (mm_look ct_X1_oddCount) mm_x0 (mm_look ([] : List (Nat × Int))) (fun _ => none) 1 0 (fun _ _ => none) Q kdX1_oddCount
set_option maxRecDepth 20000 in
theorem lp_X1_oddCount {M : mm_M} {d : List Nat} {Q : mm_Q} {S : Int} {F T : Nat → Int} {n : Nat} (ht : tW M) (hn : n ≤ 30) (hM : ∀ c : Nat, c < 10 → M 5 c = oc F S c n ∧ M 6 c = oc T S c n) (hq : 0 ≤ odn F T n (M 2 5) S 10 ∧ odn F T n (M 2 5) S 10 ≤ 10 → Q (.inl (some (mm_I (odn F T n (M 2 5) S 10)))) M d) : ∀ (k i : Nat), i + k = 10 → (0 ≤ odn F T n (M 2 5) S i ∧ odn F T n (M 2 5) S i ≤ i) → rr_X1_oddCount Q 9 [some (mm_R 2), some (mm_I S), some (mm_I (odn F T n (M 2 5) S i)), some (mm_I i)] [] M d 0 := by
  have h4 := ht.2.2.1
  intro k
  induction k with
  | zero =>
    intro i hi hb
    have e : i = 10 := by omega
    subst e
    have qe := hq (by omega)
    clear hq hM
    obtain ⟨K, hK, hK2⟩ : ∃ K : Nat → mm_K, (∀ t ls st M d u, K t ls st M d u → rr_X1_oddCount Q t ls st M d u) ∧ (∀ t ls st M d u, rr_X1_oddCount Q t ls st M d u → K t ls st M d u) := ⟨rr_X1_oddCount Q, fun _ _ _ _ _ _ h => h, fun _ _ _ _ _ _ h => h⟩
    refine mm_run_at (stop := [15]) (S := K) kkX1_oddCount 90 ?_ (fun _ _ _ _ _ _ _ h => hK _ _ _ _ _ _ h)
    repeat' (first | with_reducible assumption | ((with_reducible show mm_rv _ _ _ _ _); first | exact True.intro | exact mm_i2) | with_reducible exact mm_i2 | ((with_reducible show mm_bool _ _); first | exact True.intro | exact Or.inl rfl | exact Or.inr rfl | (show (_ : Int) = 0 ∨ _ = 1)) | refine And.intro ?_ ?_ | intro _ | with_reducible exact True.intro | exact rfl | with_reducible exact Or.inl rfl | with_reducible exact Or.inr rfl | exact Nat.le_of_ble_eq_true rfl)
    all_goals (try simp (disch := omega) only [InI, Int.toNat_natCast, Int.tmod_eq_emod_of_nonneg, Int.tdiv_eq_ediv_of_nonneg, true_implies, true_or, or_true, mm_l18, mm_l19, mm_l20, mm_l21, mm_l22] at *)
    all_goals first | omega | exact qe | skip
  | succ k ih =>
    intro i hi hb
    have h1 := hM i (by omega)
    have h2 := oc_le F S i n
    have h3 := oc_le T S i n
    have e : odn F T n (M 2 5) S (i + 1) = odn F T n (M 2 5) S i + (if M 2 5 = 0 then (oc F S i n + oc T S i n) % 2 else if oc F S i n = oc T S i n then 0 else 1) := rfl
    rw [← h1.1, ← h1.2] at e
    rw [← h1.1] at h2
    rw [← h1.2] at h3
    have g0 : (M 2 5 = 0 ∧ (M 5 i + M 6 i) % 2 = 0) ∨ (M 2 5 ≠ 0 ∧ M 5 i = M 6 i) → odn F T n (M 2 5) S (i + 1) = odn F T n (M 2 5) S i := fun h => by
      rcases h with h | h
      · rw [e, if_pos h.1, h.2, Int.add_zero]
      · rw [e, if_neg h.1, if_pos h.2, Int.add_zero]
    have g1 : (M 2 5 = 0 ∧ (M 5 i + M 6 i) % 2 = 1) ∨ (M 2 5 ≠ 0 ∧ M 5 i ≠ M 6 i) → odn F T n (M 2 5) S (i + 1) = odn F T n (M 2 5) S i + 1 := fun h => by
      rcases h with h | h
      · rw [e, if_pos h.1, h.2]
      · rw [e, if_neg h.1, if_neg h.2]
    obtain ⟨x, ex⟩ : ∃ x, x = odn F T n (M 2 5) S i := ⟨_, rfl⟩
    have nx := ih (i + 1) (by omega)
    rw [← ex] at hb g0 g1 ⊢
    clear ih hq hM e h1
    obtain ⟨K, hK, hK2⟩ : ∃ K : Nat → mm_K, (∀ t ls st M d u, K t ls st M d u → rr_X1_oddCount Q t ls st M d u) ∧ (∀ t ls st M d u, rr_X1_oddCount Q t ls st M d u → K t ls st M d u) := ⟨rr_X1_oddCount Q, fun _ _ _ _ _ _ h => h, fun _ _ _ _ _ _ h => h⟩
    have n0 : ∀ r, ((M 2 5 = 0 → r = (M 5 i + M 6 i) % 2) ∧ (M 2 5 ≠ 0 → M 5 i = M 6 i → r = 0) ∧ (M 2 5 ≠ 0 → M 5 i ≠ M 6 i → r = 1)) → r = 0 → K 9 [some (mm_R 2), some (mm_I S), some (mm_I x), some (mm_I ((i : Int) + 1))] [] M d 0 := fun r hr h => by
      have e := g0 (by omega)
      rw [e] at nx
      exact hK2 _ _ _ _ _ _ (nx (by omega))
    have n1 : ∀ r, ((M 2 5 = 0 → r = (M 5 i + M 6 i) % 2) ∧ (M 2 5 ≠ 0 → M 5 i = M 6 i → r = 0) ∧ (M 2 5 ≠ 0 → M 5 i ≠ M 6 i → r = 1)) → r ≠ 0 → K 9 [some (mm_R 2), some (mm_I S), some (mm_I (x + 1)), some (mm_I ((i : Int) + 1))] [] M d 0 := fun r hr h => by
      have e := g1 (by omega)
      rw [e] at nx
      exact hK2 _ _ _ _ _ _ (nx (by omega))
    clear nx g0 g1
    refine mm_run_at (stop := [9, 32]) (S := K) kkX1_oddCount 90 ?_ (fun _ _ _ _ _ _ _ h => hK _ _ _ _ _ _ h)
    repeat' (first | with_reducible assumption | ((with_reducible show mm_rv _ _ _ _ _); first | exact True.intro | exact mm_i2) | with_reducible exact mm_i2 | ((with_reducible show mm_bool _ _); first | exact True.intro | exact Or.inl rfl | exact Or.inr rfl | (show (_ : Int) = 0 ∨ _ = 1)) | refine And.intro ?_ ?_ | intro _ | with_reducible exact True.intro | exact rfl | with_reducible exact Or.inl rfl | with_reducible exact Or.inr rfl | exact Nat.le_of_ble_eq_true rfl)
    all_goals (try simp (disch := omega) only [InI, Int.toNat_natCast, Int.tmod_eq_emod_of_nonneg, Int.tdiv_eq_ediv_of_nonneg, true_implies, true_or, or_true, mm_l18, mm_l19, mm_l20, mm_l21, mm_l22] at *)
    all_goals first | omega | exact n0 _ (by assumption) (by omega) | exact n1 _ (by assumption) (by omega) | skip
set_option maxRecDepth 20000 in
theorem rn_X1_oddCount : mm_RN flX1 ct_X1_oddCount mm_x0 [] 1 0 4 kdX1_oddCount sp_X1_oddCount := by
  intro av M d Q h
  unfold sp_X1_oddCount at h
  split at h
  · rename_i o S
    obtain ⟨rfl, ht, hS, hq⟩ := h
    have h1 := ht.1
    have k9 : ∀ M', fr [5, 6] M M' ∧ (∀ c : Nat, c < 10 → M' 5 c = oc (M 3) S c (M 2 4).toNat ∧ M' 6 c = oc (M 4) S c (M 2 4).toNat) → _ := fun M' h => by
      have e2 : M' 2 = M 2 := h.1 2 (by simp)
      exact lp_X1_oddCount (M := M') (d := d) (Q := Q) (S := S) (F := M 3) (T := M 4) (n := (M 2 4).toNat) (ht.fr h.1 (by simp) (by simp) (by simp)) (by omega) h.2 (fun hb => hq M' _ ⟨h.1, h.2, by rw [e2], hb⟩) 10 0 (by omega) (by simp [odn])
    clear hq
    obtain ⟨K, hK, hK2⟩ : ∃ K : Nat → mm_K, (∀ t ls st M d u, K t ls st M d u → rr_X1_oddCount Q t ls st M d u) ∧ (∀ t ls st M d u, rr_X1_oddCount Q t ls st M d u → K t ls st M d u) := ⟨rr_X1_oddCount Q, fun _ _ _ _ _ _ h => h, fun _ _ _ _ _ _ h => h⟩
    refine ⟨Nat.le_of_ble_eq_true rfl, mm_run_at (stop := [9]) (S := K) kkX1_oddCount 90 ?_ (fun _ _ _ _ _ _ _ h => hK _ _ _ _ _ _ h)⟩
    have k9 : ∀ M', fr [5, 6] M M' ∧ (∀ c : Nat, c < 10 → M' 5 c = oc (M 3) S c (M 2 4).toNat ∧ M' 6 c = oc (M 4) S c (M 2 4).toNat) → K 9 [some (mm_R 2), some (mm_I S), some (mm_I 0), some (mm_I 0)] [] M' d 0 := fun M' h => hK2 _ _ _ _ _ _ (k9 M' h)
    repeat' (first | with_reducible assumption | ((with_reducible show mm_rv _ _ _ _ _); first | exact True.intro | exact mm_i2) | with_reducible exact mm_i2 | ((with_reducible show mm_bool _ _); first | exact True.intro | exact Or.inl rfl | exact Or.inr rfl | (show (_ : Int) = 0 ∨ _ = 1)) | refine And.intro ?_ ?_ | intro _ | with_reducible exact True.intro | exact rfl | with_reducible exact Or.inl rfl | with_reducible exact Or.inr rfl | exact Nat.le_of_ble_eq_true rfl)
    all_goals (try simp (disch := omega) only [InI, Int.toNat_natCast, Int.tmod_eq_emod_of_nonneg, Int.tdiv_eq_ediv_of_nonneg, true_implies, true_or, or_true, mm_l18, mm_l19, mm_l20, mm_l21, mm_l22] at *)
    all_goals first | omega | exact k9 _ (by assumption) | skip
  · exact h.elim
theorem me_X1_oddCount {l : Launch} (hl : l.stackTraces = false) : mm_Met l yX1_oddCount cX1_oddCount 4 (some .int) [] 8 141 0 sp_X1_oddCount := mm_mt hl rn_X1_oddCount ⟨plX1, rfl⟩ kkX1_oddCount rfl ⟨Nat.le_of_ble_eq_true rfl, Nat.le_of_ble_eq_true rfl⟩ flkX1 (fun _ h => nomatch h) (⟨mm_pe (me_X1_countWays hl) mwX1_countWays (mm_t1 228 rfl rfl) (Nat.le_of_ble_eq_true rfl) (Nat.le_of_ble_eq_true rfl), mm_pe (me_X1_isOddAsCounted hl) mwX1_isOddAsCounted (mm_t1 232 rfl rfl) (Nat.le_of_ble_eq_true rfl) (Nat.le_of_ble_eq_true rfl), trivial⟩) (mm_xe0 _) n9X1
end
