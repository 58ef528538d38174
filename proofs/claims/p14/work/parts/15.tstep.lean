/-! the class's town: sums, and steps on -/
/-- the corners below c together -/
def ocs (F : Nat → Int) (S : Int) (n : Nat) : Nat → Int
  | 0 => 0
  | c + 1 => ocs F S n c + oc F S c n
theorem ocs_s (F : Nat → Int) (S : Int) (n : Nat) : ∀ c : Nat, 0 ≤ F n → ocs F S (n + 1) c = ocs F S n c + (if F n < c then bt S n else 0)
  | 0, h => by simp only [ocs]; rw [if_neg (by omega)]; rfl
  | c + 1, h => by
    simp only [ocs, oc]
    rw [ocs_s F S n c h]
    by_cases e : F n = c
    · rw [if_pos e, if_neg (by omega), if_pos (by omega)]; omega
    · by_cases e2 : F n < c
      · rw [if_neg e, if_pos e2, if_pos (by omega)]; omega
      · rw [if_neg e, if_neg e2, if_neg (by omega)]; omega
theorem ocs_all {F : Nat → Int} {S : Int} : ∀ n : Nat, (∀ k, k < n → 0 ≤ F k ∧ F k < 10) → (∀ k, k < n → bt S k = 1) → ocs F S n 10 = n
  | 0, _, _ => by simp [ocs, oc]
  | n + 1, h, h2 => by
    have h3 := h n (by omega)
    rw [ocs_s F S n 10 h3.1, if_pos (by omega), h2 n (by omega), ocs_all n (fun k hk => h k (by omega)) (fun k hk => h2 k (by omega))]
    omega
theorem ocs_le {F : Nat → Int} {S : Int} {n : Nat} : ∀ c : Nat, 0 ≤ ocs F S n c ∧ ocs F S n c ≤ c * n
  | 0 => by simp [ocs]
  | c + 1 => by
    have h := oc_le F S c n
    have h2 := ocs_le (F := F) (S := S) (n := n) c
    simp only [ocs]
    rw [show ((c + 1 : Nat) : Int) * n = c * n + n by rw [show ((c + 1 : Nat) : Int) = (c : Int) + 1 by omega, Int.add_mul, Int.one_mul]]
    omega
theorem odn_ev {F T : Nat → Int} {n : Nat} {ow S : Int} (h : ow = 0) : ∀ c : Nat, (odn F T n ow S c - (ocs F S n c + ocs T S n c)) % 2 = 0
  | 0 => by simp [odn, ocs]
  | c + 1 => by
    have h1 := odn_ev (F := F) (T := T) (n := n) (S := S) h c
    simp only [odn, ocs]
    rw [if_pos h]
    omega
def sp_X1_waysAddUp : mm_S := fun av M d Q => match av with
  | [.inr (.inr (.inl o))] =>  o = 2 ∧ tW M ∧ ∀ M', fr [5, 6] M M' → Q (.inl (some (mm_I 1))) M' d
  | _ => False
def ct_X1_waysAddUp : List (Nat × mm_Ca) := [(66, (0, 1, 11, sp_X1_allStreets, 0)), (87, (0, 2, 11, sp_X1_oddCount, 0))]
abbrev rr_X1_waysAddUp (Q : mm_Q) := mm_run (mm_look flX1) (mm_look ct_X1_waysAddUp) mm_x0 (mm_look ([] : List (Nat × Int))) (fun _ => none) 2 0 (fun _ _ => none) Q kdX1_waysAddUp
set_option maxRecDepth 20000 in
theorem lp_X1_waysAddUp {M : mm_M} {d : List Nat} {Q : mm_Q} {F T : Nat → Int} {S x1 : Int} {n : Nat} (hn : M 2 4 = n) (h30 : n ≤ 30) (h1 : ∀ c : Nat, c < 10 → M 5 c = oc F S c n ∧ M 6 c = oc T S c n) (hw : M 2 5 = 0 ∨ M 2 5 = 1) (hx : 0 ≤ x1 ∧ x1 ≤ 10) (ho : M 2 5 = 0 → x1 % 2 = 0) (hF : ocs F S n 10 = n) (hT : ocs T S n 10 = n) (hq : Q (.inl (some (mm_I 1))) M d) : ∀ (k i : Nat), i + k = 10 → rr_X1_waysAddUp Q 16 [some (mm_R 2), some (mm_I x1), some (mm_I (ocs F S n i)), some (mm_I (ocs T S n i)), some (mm_I i)] [] M d 0 := by
  intro k
  induction k with
  | zero =>
    intro i hi
    have e : i = 10 := by omega
    subst e
    rw [hF, hT]
    clear h1 hF hT
    obtain ⟨K, hK, hK2⟩ : ∃ K : Nat → mm_K, (∀ t ls st M d u, K t ls st M d u → rr_X1_waysAddUp Q t ls st M d u) ∧ (∀ t ls st M d u, rr_X1_waysAddUp Q t ls st M d u → K t ls st M d u) := ⟨rr_X1_waysAddUp Q, fun _ _ _ _ _ _ h => h, fun _ _ _ _ _ _ h => h⟩
    refine mm_run_at (stop := [23]) (S := K) kkX1_waysAddUp 90 ?_ (fun _ _ _ _ _ _ _ h => hK _ _ _ _ _ _ h)
    repeat' (first | with_reducible assumption | ((with_reducible show mm_rv _ _ _ _ _); first | exact True.intro | exact mm_i2) | with_reducible exact mm_i2 | ((with_reducible show mm_bool _ _); first | exact True.intro | exact Or.inl rfl | exact Or.inr rfl | (show (_ : Int) = 0 ∨ _ = 1)) | refine And.intro ?_ ?_ | intro _ | with_reducible exact True.intro | exact rfl | with_reducible exact Or.inl rfl | with_reducible exact Or.inr rfl | exact Nat.le_of_ble_eq_true rfl)
    all_goals (try simp (disch := omega) only [InI, Int.toNat_natCast, Int.tmod_eq_emod_of_nonneg, Int.tdiv_eq_ediv_of_nonneg, true_implies, true_or, or_true, mm_l18, mm_l19, mm_l20, mm_l21, mm_l22] at *)
    all_goals first | omega | exact hq | skip
  | succ k ih =>
    intro i hi
    have h2 := h1 i (by omega)
    have nx := ih (i + 1) (by omega)
    simp only [ocs] at nx
    rw [← h2.1, ← h2.2] at nx
    clear ih hq h1 hF hT h2 ho
    obtain ⟨K, hK, hK2⟩ : ∃ K : Nat → mm_K, (∀ t ls st M d u, K t ls st M d u → rr_X1_waysAddUp Q t ls st M d u) ∧ (∀ t ls st M d u, rr_X1_waysAddUp Q t ls st M d u → K t ls st M d u) := ⟨rr_X1_waysAddUp Q, fun _ _ _ _ _ _ h => h, fun _ _ _ _ _ _ h => h⟩
    have nx : K 16 [some (mm_R 2), some (mm_I x1), some (mm_I (ocs F S n i + M 5 i)), some (mm_I (ocs T S n i + M 6 i)), some (mm_I ((i : Int) + 1))] [] M d 0 := hK2 _ _ _ _ _ _ nx
    refine mm_run_at (stop := [16, 49]) (S := K) kkX1_waysAddUp 90 ?_ (fun _ _ _ _ _ _ _ h => hK _ _ _ _ _ _ h)
    repeat' (first | with_reducible assumption | ((with_reducible show mm_rv _ _ _ _ _); first | exact True.intro | exact mm_i2 | exact mm_i5 | exact mm_i6) | with_reducible exact mm_i2 | with_reducible exact mm_i5 | with_reducible exact mm_i6 | ((with_reducible show mm_bool _ _); first | exact True.intro | exact Or.inl rfl | exact Or.inr rfl | (show (_ : Int) = 0 ∨ _ = 1)) | refine And.intro ?_ ?_ | intro _ | with_reducible exact True.intro | exact rfl | with_reducible exact Or.inl rfl | with_reducible exact Or.inr rfl | exact Nat.le_of_ble_eq_true rfl)
    all_goals (try simp (disch := omega) only [mm_l5, mm_l6, InI, Int.toNat_natCast, Int.tmod_eq_emod_of_nonneg, Int.tdiv_eq_ediv_of_nonneg, true_implies, true_or, or_true, mm_l18, mm_l19, mm_l20, mm_l21, mm_l22] at *)
    all_goals first | omega | exact nx | skip
set_option maxRecDepth 20000 in
theorem rn_X1_waysAddUp : mm_RN flX1 ct_X1_waysAddUp mm_x0 [] 2 0 5 kdX1_waysAddUp sp_X1_waysAddUp := by
  intro av M d Q h
  unfold sp_X1_waysAddUp at h
  split at h
  · rename_i o
    obtain ⟨rfl, ht, hq⟩ := h
    have t1 := ht.1
    obtain ⟨n, hn⟩ := Int.eq_ofNat_of_zero_le t1.1
    have k16 : ∀ r, (r = 2 ^ (M 2 4).toNat - 1 ∧ 0 ≤ r ∧ r < 1073741824) → ∀ M' r2, (fr [5, 6] M M' ∧ (∀ c : Nat, c < 10 → M' 5 c = oc (M 3) r c (M 2 4).toNat ∧ M' 6 c = oc (M 4) r c (M 2 4).toNat) ∧ r2 = odn (M 3) (M 4) (M 2 4).toNat (M 2 5) r 10 ∧ 0 ≤ r2 ∧ r2 ≤ 10) → rr_X1_waysAddUp Q 16 [some (mm_R 2), some (mm_I r2), some (mm_I 0), some (mm_I 0), some (mm_I 0)] [] M' d 0 := by
      intro r hr M' r2 ⟨h5, h6, h7, h8⟩
      have e2 : M' 2 = M 2 := h5 2 (by simp)
      have t2 := ht.2.1
      have hS : ∀ k, k < n → bt r k = 1 := fun k hk => by
        have := bt_all n k
        rw [hr.1, hn, Int.toNat_natCast, this, if_pos hk]
      rw [hn, Int.toNat_natCast] at h6 h7
      have hF := ocs_all (F := M 3) (S := r) n (fun k hk => (t2 k (by omega)).1) hS
      have hT := ocs_all (F := M 4) (S := r) n (fun k hk => (t2 k (by omega)).2) hS
      refine lp_X1_waysAddUp (M := M') (F := M 3) (T := M 4) (S := r) (n := n) (by rw [e2]; exact hn) (by omega) h6 (by rw [e2]; exact ht.2.2.1) h8 (fun h => ?_) hF hT (hq M' h5) 10 0 (by omega)
      rw [e2] at h
      have := odn_ev (F := M 3) (T := M 4) (n := n) (S := r) h 10
      rw [h7]
      omega
    clear hq
    obtain ⟨K, hK, hK2⟩ : ∃ K : Nat → mm_K, (∀ t ls st M d u, K t ls st M d u → rr_X1_waysAddUp Q t ls st M d u) ∧ (∀ t ls st M d u, rr_X1_waysAddUp Q t ls st M d u → K t ls st M d u) := ⟨rr_X1_waysAddUp Q, fun _ _ _ _ _ _ h => h, fun _ _ _ _ _ _ h => h⟩
    refine ⟨Nat.le_of_ble_eq_true rfl, mm_run_at (stop := [16]) (S := K) kkX1_waysAddUp 90 ?_ (fun _ _ _ _ _ _ _ h => hK _ _ _ _ _ _ h)⟩
    have k16 := fun r hr M' r2 h => hK2 _ _ _ _ _ _ (k16 r hr M' r2 h)
    repeat' (first | with_reducible assumption | ((with_reducible show mm_rv _ _ _ _ _); first | exact True.intro | exact mm_i2) | with_reducible exact mm_i2 | ((with_reducible show mm_bool _ _); first | exact True.intro | exact Or.inl rfl | exact Or.inr rfl | (show (_ : Int) = 0 ∨ _ = 1)) | refine And.intro ?_ ?_ | intro _ | with_reducible exact True.intro | exact rfl | with_reducible exact Or.inl rfl | with_reducible exact Or.inr rfl | exact Nat.le_of_ble_eq_true rfl)
    all_goals (try simp (disch := omega) only [InI, Int.toNat_natCast, Int.tmod_eq_emod_of_nonneg, Int.tdiv_eq_ediv_of_nonneg, true_implies, true_or, or_true, mm_l18, mm_l19, mm_l20, mm_l21, mm_l22] at *)
    all_goals first | omega | exact k16 _ (by assumption) _ _ (by assumption) | skip
  · exact h.elim
theorem me_X1_waysAddUp {l : Launch} (hl : l.stackTraces = false) : mm_Met l yX1_waysAddUp cX1_waysAddUp 5 (some .boolean) [] 9 164 0 sp_X1_waysAddUp := mm_mt hl rn_X1_waysAddUp ⟨plX1, rfl⟩ kkX1_waysAddUp rfl ⟨Nat.le_of_ble_eq_true rfl, Nat.le_of_ble_eq_true rfl⟩ flkX1 (fun _ h => nomatch h) (⟨mm_pe (me_X1_allStreets hl) mwX1_allStreets (mm_t2 24 rfl rfl) (Nat.le_of_ble_eq_true rfl) (Nat.le_of_ble_eq_true rfl), mm_pe (me_X1_oddCount hl) mwX1_oddCount (mm_t2 30 rfl rfl) (Nat.le_of_ble_eq_true rfl) (Nat.le_of_ble_eq_true rfl), trivial⟩) (mm_xe0 _) n9X1
theorem isIn_ex {a : Int} (k : Nat) {r : Int} (h : (bt a k = 1 → r = 1) ∧ (bt a k = 0 → r = 0)) : r = bt a k := by
  rcases bt_01 a k with e | e
  · rw [e]; exact h.2 e
  · rw [e]; exact h.1 e
def sp_X1_stepOn : mm_S := fun av M d Q => match av with
  | [.inr (.inr (.inl o)), .inl S, .inl c, .inl up] =>  o = 2 ∧ tW M ∧ (0 ≤ S ∧ S < 1073741824) ∧ InI c ∧ (up = 0 ∨ up = 1) ∧ ∀ r, onR M S c up r ∧ -1 ≤ r ∧ r < 2 * M 2 4 ∧ (0 ≤ r → bt S (r / 2).toNat = 1) → Q (.inl (some (mm_I r))) M d
  | _ => False
def ct_X1_stepOn : List (Nat × mm_Ca) := [(80, (1, 2, 0, sp_X1_isIn, 0)), (63, (0, 3, 11, sp_X1_leaving, 0))]
abbrev rr_X1_stepOn (Q : mm_Q) := mm_run (mm_look flX1) (mm_look ct_X1_stepOn) mm_x0 (mm_look ([] : List (Nat × Int))) (fun _ => none) 1 0 (fun _ _ => none) Q kdX1_stepOn
set_option maxRecDepth 20000 in
theorem lp_X1_stepOn {M : mm_M} {d : List Nat} {Q : mm_Q} {S c up w : Int} {n : Nat} (ht : tW M) (hn : M 2 4 = n) (hS : 0 ≤ S ∧ S < 1073741824) (hc : InI c) (hq : ∀ r, onR M S c up r ∧ -1 ≤ r ∧ r < 2 * n ∧ (0 ≤ r → bt S (r / 2).toNat = 1) → Q (.inl (some (mm_I r))) M d) : ∀ (k : Nat) (i : Int) (x6 : Option mm_V), ((up = 1 ∧ w = 1 ∧ i + k = n ∧ 0 ≤ i) ∨ (up = 0 ∧ w = -1 ∧ i + 1 = k ∧ i < n)) → (-1 ≤ i ∧ i ≤ n) → (∀ s' : Nat, s' < n → (up = 1 → s' < i) → (up = 0 → i < s') → bt S s' = 1 → lv M s' c = -1) → rr_X1_stepOn Q 27 [some (mm_R 2), some (mm_I S), some (mm_I c), some (mm_I up), some (mm_I w), some (mm_I i), x6] [] M d 0 := by
  have t1 := ht.1
  have hnn : (M 2 4).toNat = n := by omega
  intro k
  induction k with
  | zero =>
    intro i x6 hh hi hv
    have h9 : Q (.inl (some (mm_I (-1)))) M d := hq (-1) ⟨Or.inl ⟨rfl, fun s hs => hv s (by omega) (by omega) (by omega)⟩, by omega, by omega, by omega⟩
    clear hq hv
    obtain ⟨K, hK, hK2⟩ : ∃ K : Nat → mm_K, (∀ t ls st M d u, K t ls st M d u → rr_X1_stepOn Q t ls st M d u) ∧ (∀ t ls st M d u, rr_X1_stepOn Q t ls st M d u → K t ls st M d u) := ⟨rr_X1_stepOn Q, fun _ _ _ _ _ _ h => h, fun _ _ _ _ _ _ h => h⟩
    refine mm_run_at (stop := [41]) (S := K) kkX1_stepOn 90 ?_ (fun _ _ _ _ _ _ _ h => hK _ _ _ _ _ _ h)
    repeat' (first | with_reducible assumption | ((with_reducible show mm_rv _ _ _ _ _); first | exact True.intro | exact mm_i2) | with_reducible exact mm_i2 | ((with_reducible show mm_bool _ _); first | exact True.intro | exact Or.inl rfl | exact Or.inr rfl | (show (_ : Int) = 0 ∨ _ = 1)) | refine And.intro ?_ ?_ | intro _ | with_reducible exact True.intro | exact rfl | with_reducible exact Or.inl rfl | with_reducible exact Or.inr rfl | exact Nat.le_of_ble_eq_true rfl)
    all_goals (try simp (disch := omega) only [InI, Int.toNat_natCast, Int.tmod_eq_emod_of_nonneg, Int.tdiv_eq_ediv_of_nonneg, true_implies, true_or, or_true, mm_l18, mm_l19, mm_l20, mm_l21, mm_l22] at *)
    all_goals first | omega | exact h9 | skip
  | succ k ih =>
    intro i x6 hh hi hv
    have step : ∀ x6, (bt S i.toNat = 1 → lv M i c = -1) → rr_X1_stepOn Q 27 [some (mm_R 2), some (mm_I S), some (mm_I c), some (mm_I up), some (mm_I w), some (mm_I (i + w)), x6] [] M d 0 := fun x6 hl => ih (i + w) x6 (by omega) (by omega) (fun s' hs' a b hb => by
      by_cases e : i = s'
      · subst e
        exact hl hb
      · exact hv s' hs' (by omega) (by omega) hb)
    have hb := bt_01 S i.toNat
    have nC : ∀ r : Int, ((bt S i.toNat = 1 → r = 1) ∧ (bt S i.toNat = 0 → r = 0)) → r ≠ 0 → ∀ r2, (r2 = lv M i c ∧ -1 ≤ r2 ∧ r2 < 2 * M 2 4 ∧ (0 ≤ r2 → r2 / 2 = i)) → 0 ≤ r2 → 0 ≤ i → i < n → Q (.inl (some (mm_I r2))) M d := fun r hr h r2 hr3 h2 h3 h4 => by
      have hb1 : bt S i.toNat = 1 := by
        rcases hb with z | z
        · exact absurd (hr.2 z) h
        · exact z
      refine hq r2 ⟨Or.inr ⟨i.toNat, by omega, hb1, by rw [hr3.1, show ((i.toNat : Nat) : Int) = i by omega], h2, fun s' hs' a b hb2 => hv s' (by omega) (by omega) (by omega) hb2⟩, by omega, by omega, fun _ => ?_⟩
      rw [hr3.2.2.2 h2]
      exact hb1
    clear ih hq hv
    obtain ⟨K, hK, hK2⟩ : ∃ K : Nat → mm_K, (∀ t ls st M d u, K t ls st M d u → rr_X1_stepOn Q t ls st M d u) ∧ (∀ t ls st M d u, rr_X1_stepOn Q t ls st M d u → K t ls st M d u) := ⟨rr_X1_stepOn Q, fun _ _ _ _ _ _ h => h, fun _ _ _ _ _ _ h => h⟩
    have nA : ∀ r : Int, ((bt S i.toNat = 1 → r = 1) ∧ (bt S i.toNat = 0 → r = 0)) → r = 0 → ∀ x6, K 27 [some (mm_R 2), some (mm_I S), some (mm_I c), some (mm_I up), some (mm_I w), some (mm_I (i + w)), x6] [] M d 0 := fun r hr h x6 => hK2 _ _ _ _ _ _ (step x6 (fun h9 => by have := hr.1 h9; omega))
    have nB : ∀ r2, (r2 = lv M i c ∧ -1 ≤ r2 ∧ r2 < 2 * M 2 4 ∧ (0 ≤ r2 → r2 / 2 = i)) → r2 < 0 → ∀ x6, K 27 [some (mm_R 2), some (mm_I S), some (mm_I c), some (mm_I up), some (mm_I w), some (mm_I (i + w)), x6] [] M d 0 := fun r2 hr3 h x6 => hK2 _ _ _ _ _ _ (step x6 (fun _ => by rw [← hr3.1]; omega))
    clear step
    refine mm_run_at (stop := [27, 81]) (S := K) kkX1_stepOn 90 ?_ (fun _ _ _ _ _ _ _ h => hK _ _ _ _ _ _ h)
    repeat' (first | with_reducible assumption | ((with_reducible show mm_rv _ _ _ _ _); first | exact True.intro | exact mm_i2) | with_reducible exact mm_i2 | ((with_reducible show mm_bool _ _); first | exact True.intro | exact Or.inl rfl | exact Or.inr rfl | (show (_ : Int) = 0 ∨ _ = 1)) | refine And.intro ?_ ?_ | intro _ | with_reducible exact True.intro | exact rfl | with_reducible exact Or.inl rfl | with_reducible exact Or.inr rfl | exact Nat.le_of_ble_eq_true rfl)
    all_goals (try simp (disch := omega) only [InI, Int.toNat_natCast, Int.tmod_eq_emod_of_nonneg, Int.tdiv_eq_ediv_of_nonneg, true_implies, true_or, or_true, mm_l18, mm_l19, mm_l20, mm_l21, mm_l22] at *)
    all_goals first | omega | exact nA _ (by assumption) (by omega) _ | exact nB _ (by assumption) (by omega) _ | exact nC _ (by assumption) (by omega) _ (by assumption) (by omega) (by omega) (by omega) | skip
set_option maxRecDepth 20000 in
theorem rn_X1_stepOn : mm_RN flX1 ct_X1_stepOn mm_x0 [] 1 0 7 kdX1_stepOn sp_X1_stepOn := by
  intro av M d Q h
  unfold sp_X1_stepOn at h
  split at h
  · rename_i o S c up
    obtain ⟨rfl, ht, hS, hc, hu, hq⟩ := h
    have h1 := ht.1
    obtain ⟨n, hn⟩ := Int.eq_ofNat_of_zero_le h1.1
    have kA : ∀ w i : Int, ((up = 1 ∧ w = 1 ∧ i = 0) ∨ (up = 0 ∧ w = -1 ∧ i = n - 1)) → rr_X1_stepOn Q 27 [some (mm_R 2), some (mm_I S), some (mm_I c), some (mm_I up), some (mm_I w), some (mm_I i), none] [] M d 0 := fun w i h9 => lp_X1_stepOn ht hn hS hc (fun r h9 => hq r (by rw [hn]; exact h9)) n i none (by omega) (by omega) (fun s' hs' a b => by omega)
    clear hq
    obtain ⟨K, hK, hK2⟩ : ∃ K : Nat → mm_K, (∀ t ls st M d u, K t ls st M d u → rr_X1_stepOn Q t ls st M d u) ∧ (∀ t ls st M d u, rr_X1_stepOn Q t ls st M d u → K t ls st M d u) := ⟨rr_X1_stepOn Q, fun _ _ _ _ _ _ h => h, fun _ _ _ _ _ _ h => h⟩
    refine ⟨Nat.le_of_ble_eq_true rfl, mm_run_at (stop := [27]) (S := K) kkX1_stepOn 90 ?_ (fun _ _ _ _ _ _ _ h => hK _ _ _ _ _ _ h)⟩
    have kA := fun w i h => hK2 _ _ _ _ _ _ (kA w i h)
    repeat' (first | with_reducible assumption | ((with_reducible show mm_rv _ _ _ _ _); first | exact True.intro | exact mm_i2) | with_reducible exact mm_i2 | ((with_reducible show mm_bool _ _); first | exact True.intro | exact Or.inl rfl | exact Or.inr rfl | (show (_ : Int) = 0 ∨ _ = 1)) | refine And.intro ?_ ?_ | intro _ | with_reducible exact True.intro | exact rfl | with_reducible exact Or.inl rfl | with_reducible exact Or.inr rfl | exact Nat.le_of_ble_eq_true rfl)
    all_goals (try simp (disch := omega) only [InI, Int.toNat_natCast, Int.tmod_eq_emod_of_nonneg, Int.tdiv_eq_ediv_of_nonneg, true_implies, true_or, or_true, mm_l18, mm_l19, mm_l20, mm_l21, mm_l22] at *)
    all_goals first | omega | exact kA _ _ (by omega) | skip
  · exact h.elim
theorem me_X1_stepOn {l : Launch} (hl : l.stackTraces = false) : mm_Met l yX1_stepOn cX1_stepOn 7 (some .int) [] 8 143 0 sp_X1_stepOn := mm_mt hl rn_X1_stepOn ⟨plX1, rfl⟩ kkX1_stepOn rfl ⟨Nat.le_of_ble_eq_true rfl, Nat.le_of_ble_eq_true rfl⟩ flkX1 (fun _ h => nomatch h) (⟨mm_pe (me_X1_isIn hl) mwX1_isIn (mm_t2 11 rfl rfl) (Nat.le_of_ble_eq_true rfl) (Nat.le_of_ble_eq_true rfl), mm_pe (me_X1_leaving hl) mwX1_leaving (mm_t2 133 rfl rfl) (Nat.le_of_ble_eq_true rfl) (Nat.le_of_ble_eq_true rfl), trivial⟩) (mm_xe0 _) n9X1
theorem inI3 {A P : Prop} {r : Int} (h : A ∧ (P → r = 1) ∧ (¬ P → r = 0)) : -2147483648 ≤ r ∧ r < 2147483648 := inI2 h.2
def sp_X1_stepToWhole : mm_S := fun av M d Q => match av with
  | [.inr (.inr (.inl o)), .inl S, .inl c, .inl b, .inl up] =>  o = 2 ∧ tW M ∧ (0 ≤ S ∧ S < 1073741824) ∧ InI c ∧ (-1 ≤ b ∧ b ≤ M 2 4) ∧ (up = 0 ∨ up = 1) ∧ ∀ M' r, fr [5, 6] M M' ∧ whR M S c b up r ∧ -1 ≤ r ∧ r < 2 * M 2 4 ∧ (0 ≤ r → bt S (r / 2).toNat = 1) → Q (.inl (some (mm_I r))) M' d
  | _ => False
def ct_X1_stepToWhole : List (Nat × mm_Ca) := [(80, (1, 2, 0, sp_X1_isIn, 0)), (63, (0, 3, 11, sp_X1_leaving, 0)), (60, (0, 2, 11, sp_X1_goalOf, 0)), (90, (0, 3, 11, sp_X1_isStartOf, 0))]
abbrev rr_X1_stepToWhole (Q : mm_Q) := mm_run (mm_look flX1) (mm_look ct_X1_stepToWhole) mm_x0 (mm_look ([] : List (Nat × Int))) (fun _ => none) 1 0 (fun _ _ => none) Q kdX1_stepToWhole
set_option maxRecDepth 20000 in
theorem whS_fr {M M' : mm_M} {S c : Int} {s : Nat} (hf : fr [5, 6] M M') : whS M' S c s ↔ whS M S c s := by
  have e2 : M' 2 = M 2 := hf 2 (by simp)
  have e3 : M' 3 = M 3 := hf 3 (by simp)
  have e4 : M' 4 = M 4 := hf 4 (by simp)
  unfold whS lv gl
  rw [e2, e3, e4]
set_option maxRecDepth 20000 in
theorem lp_X1_stepToWhole {M0 : mm_M} {d : List Nat} {Q : mm_Q} {S c b up w : Int} {n : Nat} (ht0 : tW M0) (hn0 : M0 2 4 = n) (hS : 0 ≤ S ∧ S < 1073741824) (hc : InI c) (hu : up = 1 ∨ up = 0) (hq : ∀ M' r, fr [5, 6] M0 M' ∧ whR M0 S c b up r ∧ -1 ≤ r ∧ r < 2 * n ∧ (0 ≤ r → bt S (r / 2).toNat = 1) → Q (.inl (some (mm_I r))) M' d) : ∀ (k : Nat) (i : Int) (M : mm_M) (x7 : Option mm_V), ((up = 1 ∧ w = 1 ∧ n ≤ i + k ∧ b < i ∧ 0 ≤ i) ∨ (up = 0 ∧ w = -1 ∧ i + 1 ≤ k ∧ i < b ∧ i < n)) → (-2 ≤ i ∧ i ≤ 31) → fr [5, 6] M0 M → (∀ s' : Nat, s' < n → (up = 1 → b < s' ∧ s' < i) → (up = 0 → s' < b ∧ i < s') → ¬ whS M0 S c s') → rr_X1_stepToWhole Q 18 [some (mm_R 2), some (mm_I S), some (mm_I c), some (mm_I b), some (mm_I up), some (mm_I w), some (mm_I i), x7] [] M d 0 := by
  have t1 := ht0.1
  have hnn : (M0 2 4).toNat = n := by omega
  have h9 : ∀ (i : Int) (M : mm_M), fr [5, 6] M0 M → (∀ s' : Nat, s' < n → (up = 1 → b < s' ∧ s' < i) → (up = 0 → s' < b ∧ i < s') → ¬ whS M0 S c s') → (up = 1 → n ≤ i) → (up = 0 → i < 0) → Q (.inl (some (mm_I (-1)))) M d := fun i M hf hv a1 a0 => hq M (-1) ⟨hf, Or.inl ⟨rfl, fun s hs b1 b0 => hv s (by omega) (fun e => ⟨b1 e, by omega⟩) (fun e => ⟨b0 e, by omega⟩)⟩, by omega, by omega, by omega⟩
  clear hu
  intro k
  induction k with
  | zero =>
    intro i M x7 hh hi hf hv
    have hn : M 2 4 = n := by rw [hf 2 (by simp)]; exact hn0
    have q := h9 i M hf hv
    clear hq h9 hv hf
    obtain ⟨K, hK, hK2⟩ : ∃ K : Nat → mm_K, (∀ t ls st M d u, K t ls st M d u → rr_X1_stepToWhole Q t ls st M d u) ∧ (∀ t ls st M d u, rr_X1_stepToWhole Q t ls st M d u → K t ls st M d u) := ⟨rr_X1_stepToWhole Q, fun _ _ _ _ _ _ h => h, fun _ _ _ _ _ _ h => h⟩
    refine mm_run_at (stop := [32]) (S := K) kkX1_stepToWhole 90 ?_ (fun _ _ _ _ _ _ _ h => hK _ _ _ _ _ _ h)
    repeat' (first | with_reducible assumption | ((with_reducible show mm_rv _ _ _ _ _); first | exact True.intro | exact mm_i2) | with_reducible exact mm_i2 | ((with_reducible show mm_bool _ _); first | exact True.intro | exact Or.inl rfl | exact Or.inr rfl | (show (_ : Int) = 0 ∨ _ = 1)) | refine And.intro ?_ ?_ | intro _ | with_reducible exact True.intro | exact rfl | with_reducible exact Or.inl rfl | with_reducible exact Or.inr rfl | exact Nat.le_of_ble_eq_true rfl)
    all_goals (try simp (disch := omega) only [InI, Int.toNat_natCast, Int.tmod_eq_emod_of_nonneg, Int.tdiv_eq_ediv_of_nonneg, true_implies, true_or, or_true, mm_l18, mm_l19, mm_l20, mm_l21, mm_l22] at *)
    all_goals first | omega | exact q (by omega) (by omega) | skip
  | succ k ih =>
    intro i M x7 hh hi hf hv
    have hn : M 2 4 = n := by rw [hf 2 (by simp)]; exact hn0
    have ht : tW M := ht0.fr hf (by simp) (by simp) (by simp)
    have q := h9 i M hf hv
    have step : ∀ M2 x7, 0 ≤ i → i < n → fr [5, 6] M0 M2 → ¬ whS M0 S c i.toNat → rr_X1_stepToWhole Q 18 [some (mm_R 2), some (mm_I S), some (mm_I c), some (mm_I b), some (mm_I up), some (mm_I w), some (mm_I (i + w)), x7] [] M2 d 0 := fun M2 x7 b0 b1 hf2 hl => ih (i + w) M2 x7 (by omega) (by omega) hf2 (fun s' hs' a b2 => by
      by_cases e : s' = i.toNat
      · subst e
        exact hl
      · exact hv s' hs' (by omega) (by omega))
    have hb := bt_01 S i.toNat
    have hcl : 0 ≤ i → i < n → 0 ≤ mm_and S (mm_xor (1 * 2 ^ i.toNat) (-1)) ∧ mm_and S (mm_xor (1 * 2 ^ i.toNat) (-1)) < 1073741824 := fun h8 h9 => (clr_spec (S := S) (s := i.toNat) hS (by omega)).1
    have e2 : M 2 = M0 2 := hf 2 (by simp)
    have e3 : M 3 = M0 3 := hf 3 (by simp)
    have e4 : M 4 = M0 4 := hf 4 (by simp)
    have hl0 : lv M i c = lv M0 i c := by unfold lv; rw [e2, e3, e4]
    clear e2 e3 e4 h9 ih
    have sA : ∀ r : Int, ((bt S i.toNat = 1 → r = 1) ∧ (bt S i.toNat = 0 → r = 0)) → r = 0 → ¬ whS M0 S c i.toNat := fun r hr h h9 => by
      have := hr.1 h9.1
      omega
    have sB : ∀ r2, (r2 = lv M i c ∧ -1 ≤ r2 ∧ r2 < 2 * M 2 4 ∧ (0 ≤ r2 → r2 / 2 = i)) → r2 < 0 → 0 ≤ i → ¬ whS M0 S c i.toNat := fun r2 hr3 h h3 h8 => by
      have h7 := ((whS_fr hf).mpr h8).2.1
      rw [show ((i.toNat : Nat) : Int) = i by omega, ← hr3.1] at h7
      omega
    have sC : ∀ r2, (r2 = lv M i c ∧ -1 ≤ r2 ∧ r2 < 2 * M 2 4 ∧ (0 ≤ r2 → r2 / 2 = i)) → 0 ≤ i → ∀ r3, (r3 = gl M r2 ∧ 0 ≤ r3 ∧ r3 < 10) → ∀ (M' : mm_M) (r5 : Int), (fr [5, 6] M M' ∧ (ST (M 3) (M 4) (M 2 4).toNat (M 2 5) (mm_and S (mm_xor (1 * 2 ^ i.toNat) (-1))) r3 → r5 = 1) ∧ (¬ ST (M 3) (M 4) (M 2 4).toNat (M 2 5) (mm_and S (mm_xor (1 * 2 ^ i.toNat) (-1))) r3 → r5 = 0)) → r5 = 0 → fr [5, 6] M0 M' ∧ ¬ whS M0 S c i.toNat := fun r2 hr3 h3 r3 hr4 M' r5 hr5 h8 => ⟨hf.tr hr5.1, fun h7 => by
      have h6 := ((whS_fr hf).mpr h7).2.2
      rw [show ((i.toNat : Nat) : Int) = i by omega, ← hr3.1, ← hr4.1] at h6
      have := hr5.2.1 h6
      omega⟩
    have nC : ∀ r : Int, ((bt S i.toNat = 1 → r = 1) ∧ (bt S i.toNat = 0 → r = 0)) → r ≠ 0 → ∀ r2, (r2 = lv M i c ∧ -1 ≤ r2 ∧ r2 < 2 * M 2 4 ∧ (0 ≤ r2 → r2 / 2 = i)) → 0 ≤ r2 → 0 ≤ i → i < n → ∀ r3, (r3 = gl M r2 ∧ 0 ≤ r3 ∧ r3 < 10) → ∀ (M' : mm_M) (r5 : Int), (fr [5, 6] M M' ∧ (ST (M 3) (M 4) (M 2 4).toNat (M 2 5) (mm_and S (mm_xor (1 * 2 ^ i.toNat) (-1))) r3 → r5 = 1) ∧ (¬ ST (M 3) (M 4) (M 2 4).toNat (M 2 5) (mm_and S (mm_xor (1 * 2 ^ i.toNat) (-1))) r3 → r5 = 0)) → r5 ≠ 0 → Q (.inl (some (mm_I r2))) M' d := fun r hr h r2 hr3 h2 h3 h4 r3 hr4 M' r5 hr5 h8 => by
      have hb1 : bt S i.toNat = 1 := by
        rcases hb with z | z
        · exact absurd (hr.2 z) h
        · exact z
      have hd := hr3.2.2.2 h2
      have h6 : ST (M 3) (M 4) (M 2 4).toNat (M 2 5) (clr S i.toNat) r3 := Classical.byContradiction fun h7 => h8 (hr5.2.2 h7)
      have h7 : whS M S c i.toNat := ⟨hb1, by rw [show ((i.toNat : Nat) : Int) = i by omega, ← hr3.1]; exact h2, by rw [show ((i.toNat : Nat) : Int) = i by omega, ← hr3.1, ← hr4.1]; exact h6⟩
      exact hq M' r2 ⟨hf.tr hr5.1, Or.inr ⟨i.toNat, by omega, by omega, by omega, (whS_fr hf).mp h7, by rw [hr3.1, hl0, show ((i.toNat : Nat) : Int) = i by omega], h2, fun s' hs' a b2 => hv s' (by omega) (by omega) (by omega)⟩, by omega, by omega, fun _ => by rw [hd]; exact hb1⟩
    clear hq hv hl0
    obtain ⟨K, hK, hK2⟩ : ∃ K : Nat → mm_K, (∀ t ls st M d u, K t ls st M d u → rr_X1_stepToWhole Q t ls st M d u) ∧ (∀ t ls st M d u, rr_X1_stepToWhole Q t ls st M d u → K t ls st M d u) := ⟨rr_X1_stepToWhole Q, fun _ _ _ _ _ _ h => h, fun _ _ _ _ _ _ h => h⟩
    have step := fun M2 x7 b0 b1 h1 h2 => hK2 _ _ _ _ _ _ (step M2 x7 b0 b1 h1 h2)
    have nA := fun r hr h b0 b1 x7 => step M x7 b0 b1 hf (sA r hr h)
    have nB := fun r2 hr3 h h3 b1 x7 => step M x7 h3 b1 hf (sB r2 hr3 h h3)
    have nD := fun r2 hr3 h3 b1 r3 hr4 M' r5 hr5 h8 x7 => step M' x7 h3 b1 (sC r2 hr3 h3 r3 hr4 M' r5 hr5 h8).1 (sC r2 hr3 h3 r3 hr4 M' r5 hr5 h8).2
    clear step sA sB sC
    refine mm_run_at (stop := [18]) (S := K) kkX1_stepToWhole 90 ?_ (fun _ _ _ _ _ _ _ h => hK _ _ _ _ _ _ h)
    repeat' (first | with_reducible assumption | ((with_reducible show mm_rv _ _ _ _ _); first | exact True.intro | exact mm_i2) | with_reducible exact mm_i2 | ((with_reducible show mm_bool _ _); first | exact True.intro | exact Or.inl rfl | exact Or.inr rfl | (show (_ : Int) = 0 ∨ _ = 1)) | refine And.intro ?_ ?_ | intro _ | with_reducible exact True.intro | exact rfl | with_reducible exact Or.inl rfl | with_reducible exact Or.inr rfl | exact Nat.le_of_ble_eq_true rfl)
    all_goals (try simp (disch := omega) only [InI, Int.toNat_natCast, Int.tmod_eq_emod_of_nonneg, Int.tdiv_eq_ediv_of_nonneg, true_implies, true_or, or_true, mm_l18, mm_l19, mm_l20, mm_l21, mm_l22] at *)
    all_goals first | omega | exact (inI3 (by assumption)).1 | exact (inI3 (by assumption)).2 | exact nA _ (by assumption) (by omega) (by omega) (by omega) _ | exact nB _ (by assumption) (by omega) (by omega) (by omega) _ | exact nD _ (by assumption) (by omega) (by omega) _ (by assumption) _ _ (by assumption) (by omega) _ | exact nC _ (by assumption) (by omega) _ (by assumption) (by omega) (by omega) (by omega) _ (by assumption) _ _ (by assumption) (by omega) | exact q (by omega) (by omega) | skip
set_option maxRecDepth 20000 in
theorem rn_X1_stepToWhole : mm_RN flX1 ct_X1_stepToWhole mm_x0 [] 1 0 8 kdX1_stepToWhole sp_X1_stepToWhole := by
  intro av M d Q h
  unfold sp_X1_stepToWhole at h
  split at h
  · rename_i o S c b up
    obtain ⟨rfl, ht, hS, hc, hb, hu, hq⟩ := h
    have h1 := ht.1
    obtain ⟨n, hn⟩ := Int.eq_ofNat_of_zero_le h1.1
    have kA : ∀ w i : Int, ((up = 1 ∧ w = 1 ∧ i = b + 1) ∨ (up = 0 ∧ w = -1 ∧ i = b - 1)) → rr_X1_stepToWhole Q 18 [some (mm_R 2), some (mm_I S), some (mm_I c), some (mm_I b), some (mm_I up), some (mm_I w), some (mm_I i), none] [] M d 0 := fun w i h9 => lp_X1_stepToWhole ht hn hS hc (by omega) (fun M' r h9 => hq M' r (by rw [hn]; exact h9)) 32 i M none (by omega) (by omega) fr.rf (fun s' hs' a b => by omega)
    clear hq
    obtain ⟨K, hK, hK2⟩ : ∃ K : Nat → mm_K, (∀ t ls st M d u, K t ls st M d u → rr_X1_stepToWhole Q t ls st M d u) ∧ (∀ t ls st M d u, rr_X1_stepToWhole Q t ls st M d u → K t ls st M d u) := ⟨rr_X1_stepToWhole Q, fun _ _ _ _ _ _ h => h, fun _ _ _ _ _ _ h => h⟩
    refine ⟨Nat.le_of_ble_eq_true rfl, mm_run_at (stop := [18]) (S := K) kkX1_stepToWhole 90 ?_ (fun _ _ _ _ _ _ _ h => hK _ _ _ _ _ _ h)⟩
    have kA := fun w i h => hK2 _ _ _ _ _ _ (kA w i h)
    repeat' (first | with_reducible assumption | ((with_reducible show mm_rv _ _ _ _ _); first | exact True.intro | exact mm_i2) | with_reducible exact mm_i2 | ((with_reducible show mm_bool _ _); first | exact True.intro | exact Or.inl rfl | exact Or.inr rfl | (show (_ : Int) = 0 ∨ _ = 1)) | refine And.intro ?_ ?_ | intro _ | with_reducible exact True.intro | exact rfl | with_reducible exact Or.inl rfl | with_reducible exact Or.inr rfl | exact Nat.le_of_ble_eq_true rfl)
    all_goals (try simp (disch := omega) only [InI, Int.toNat_natCast, Int.tmod_eq_emod_of_nonneg, Int.tdiv_eq_ediv_of_nonneg, true_implies, true_or, or_true, mm_l18, mm_l19, mm_l20, mm_l21, mm_l22] at *)
    all_goals first | omega | exact kA _ _ (by omega) | skip
  · exact h.elim
theorem me_X1_stepToWhole {l : Launch} (hl : l.stackTraces = false) : mm_Met l yX1_stepToWhole cX1_stepToWhole 8 (some .int) [] 10 187 0 sp_X1_stepToWhole := mm_mt hl rn_X1_stepToWhole ⟨plX1, rfl⟩ kkX1_stepToWhole rfl ⟨Nat.le_of_ble_eq_true rfl, Nat.le_of_ble_eq_true rfl⟩ flkX1 (fun _ h => nomatch h) (⟨mm_pe (me_X1_isIn hl) mwX1_isIn (mm_t2 11 rfl rfl) (Nat.le_of_ble_eq_true rfl) (Nat.le_of_ble_eq_true rfl), mm_pe (me_X1_leaving hl) mwX1_leaving (mm_t2 133 rfl rfl) (Nat.le_of_ble_eq_true rfl) (Nat.le_of_ble_eq_true rfl), mm_pe (me_X1_goalOf hl) mwX1_goalOf (mm_t2 110 rfl rfl) (Nat.le_of_ble_eq_true rfl) (Nat.le_of_ble_eq_true rfl), mm_pe (me_X1_isStartOf hl) mwX1_isStartOf (mm_t2 25 rfl rfl) (Nat.le_of_ble_eq_true rfl) (Nat.le_of_ble_eq_true rfl), trivial⟩) (mm_xe0 _) n9X1

