/-! the model: rounds that come in; the whole -/
theorem and_dis {V : mm_M} {w v : Nat} {a b : Int} (ha : 0 ≤ a ∧ a < 1073741824) (hb : 0 ≤ b ∧ b < 1073741824) (hv : wV V v) (h1 : V 2 4 ≤ 30) (sa : ∀ s : Nat, bt a s = 1 ↔ ∃ i : Nat, i < V w 2 ∧ V (w + 1) i / 2 = s) (sb : ∀ s : Nat, bt b s = 1 ↔ ∃ i : Nat, i < V v 2 ∧ V (v + 1) i / 2 = s) : (0 ≤ mm_and a b ∧ mm_and a b < 2147483648) ∧ (mm_and a b = 0 ↔ ∀ j : Nat, j < V v 2 → wN V w (V (v + 1) j / 2)) := by
  obtain ⟨h2, h3⟩ := mm_and_bt (a := a) (b := b) ⟨ha.1, by omega⟩ ⟨hb.1, by omega⟩
  refine ⟨h2, ?_, ?_⟩
  · intro h j hj i hi e
    have u := hv.2.2 j hj
    have x1 := (sa (V (v + 1) j / 2).toNat).mpr ⟨i, hi, by omega⟩
    have x2 := (sb (V (v + 1) j / 2).toNat).mpr ⟨j, hj, by omega⟩
    have := h3 (V (v + 1) j / 2).toNat
    rw [h, bt_0, x1, x2] at this
    omega
  · intro h
    have h4 : ∀ k, bt (mm_and a b) k = 0 := by
      intro k
      rw [h3 k]
      rcases bt_01 a k with e1 | e1 <;> rcases bt_01 b k with e2 | e2 <;> rw [e1, e2]
      · rfl
      · rfl
      · rfl
      · exfalso
        obtain ⟨i, i1, i2⟩ := (sa k).mp e1
        obtain ⟨j, j1, j2⟩ := (sb k).mp e2
        exact h j j1 i i1 (by omega)
    have h5 := bt_lt (n := 0) h2 (fun k _ _ => h4 k)
    simp at h5
    omega
def sp_X5_isNoRound : mm_S := fun av M d Q => match av with
  | [.inr (.inr (.inl o)), .inl k, .inl v] =>  o = 17 ∧ tX M ∧ (0 ≤ k ∧ k < 4) ∧ (0 ≤ v ∧ v < 4) ∧ mV M k.toNat ∧ mV M v.toNat ∧ ∀ r, (r = 0 ∨ r = 1) ∧ (r = 0 ↔ rdR (vX M) (8 + 2 * k.toNat) (8 + 2 * v.toNat)) → Q (.inl (some (mm_I r))) M d
  | _ => False
def ct_X5_isNoRound : List (Nat × mm_Ca) := [(137, (0, 2, 14, sp_X5_isHome, 0)), (111, (0, 2, 14, sp_X5_setOf, 0))]
abbrev rr_X5_isNoRound (Q : mm_Q) := mm_run (mm_look flX5) (mm_look ct_X5_isNoRound) mm_x0 (mm_look ([] : List (Nat × Int))) (fun _ => none) 2 0 (fun _ _ => none) Q kdX5_isNoRound
set_option maxRecDepth 20000 in
theorem rn_X5_isNoRound : mm_RN flX5 ct_X5_isNoRound mm_x0 [] 2 0 3 kdX5_isNoRound sp_X5_isNoRound := by
  intro av M d Q h
  unfold sp_X5_isNoRound at h
  split at h
  · rename_i o k v
    obtain ⟨rfl, ht, hk, hv, h1, h2, hq⟩ := h
    obtain ⟨k, rfl⟩ := Int.eq_ofNat_of_zero_le hk.1
    obtain ⟨v, rfl⟩ := Int.eq_ofNat_of_zero_le hv.1
    simp only [Int.toNat_natCast] at *
    have hk4 : k < 4 := by omega
    have hv4 : v < 4 := by omega
    have t1 := ht.1
    have v1 := h1.1
    have u1 := h2.1
    have env := vX_n (M := M) hv4
    have hwv := (mV_i hv4).mp h2
    have q1 : ¬ rdR (vX M) (8 + 2 * k) (8 + 2 * v) → Q (.inl (some (mm_I 1))) M d := fun h => hq 1 ⟨Or.inr rfl, ⟨fun h => by omega, fun h2 => absurd h2 h⟩⟩
    have q0 : rdR (vX M) (8 + 2 * k) (8 + 2 * v) → Q (.inl (some (mm_I 0))) M d := fun h => hq 0 ⟨Or.inl rfl, ⟨fun _ => h, fun _ => rfl⟩⟩
    have n1 : (k : Int) = v → ¬ rdR (vX M) (8 + 2 * k) (8 + 2 * v) := fun h h2 => h2.1 (by omega)
    have n2 : M 21 v = 0 → ¬ rdR (vX M) (8 + 2 * k) (8 + 2 * v) := fun h h2 => h2.2.1 (by rw [env]; exact h)
    have n3 : ¬ (cor (vX M) (8 + 2 * v) (vX M (8 + 2 * v) 2) = vX M (8 + 2 * v) 3) → ¬ rdR (vX M) (8 + 2 * k) (8 + 2 * v) := fun h h2 => h h2.2.2.1
    obtain ⟨K, hK, hK2⟩ : ∃ K : Nat → mm_K, (∀ t ls st M d u, K t ls st M d u → rr_X5_isNoRound Q t ls st M d u) ∧ (∀ t ls st M d u, rr_X5_isNoRound Q t ls st M d u → K t ls st M d u) := ⟨rr_X5_isNoRound Q, fun _ _ _ _ _ _ h => h, fun _ _ _ _ _ _ h => h⟩
    have k22 : (k : Int) ≠ v → M 21 v ≠ 0 → (cor (vX M) (8 + 2 * v) (vX M (8 + 2 * v) 2) = vX M (8 + 2 * v) 3) → K 22 [some (mm_R 17), some (mm_I k), some (mm_I v)] [] M d 0 := by
      intro e1 e2 e3
      have dis : ∀ a b, ((0 ≤ a ∧ a < 1073741824) ∧ (∀ s : Nat, bt a s = 1 ↔ ∃ i : Nat, i < M 21 k ∧ M 20 (30 * k + i) / 2 = s)) → ((0 ≤ b ∧ b < 1073741824) ∧ (∀ s : Nat, bt b s = 1 ↔ ∃ i : Nat, i < M 21 v ∧ M 20 (30 * v + i) / 2 = s)) → (0 ≤ mm_and a b ∧ mm_and a b < 2147483648) ∧ (mm_and a b = 0 ↔ rdR (vX M) (8 + 2 * k) (8 + 2 * v)) := by
        intro a b ha hb
        have h3 := and_dis (V := vX M) (w := 8 + 2 * k) (v := 8 + 2 * v) ha.1 hb.1 hwv (by rw [vX_24]; omega) (vX_set hk4 h1 ha.2) (vX_set hv4 h2 hb.2)
        refine ⟨h3.1, h3.2.trans ⟨fun h => ⟨by omega, by rw [env]; exact e2, e3, h⟩, fun h => h.2.2.2⟩⟩
      refine hK2 _ _ _ _ _ _ ?_
      refine mm_run_at (stop := []) (S := K) kkX5_isNoRound 90 ?_ (fun _ _ _ _ _ _ _ h => hK _ _ _ _ _ _ h)
      refine mm_c5 rfl (Nat.le_of_ble_eq_true rfl) (by exact mm_i17) (Nat.le_of_ble_eq_true rfl) (Nat.le_of_ble_eq_true rfl) (mm_a5 rfl ht hk h1 (fun a ha => ?_))
      refine mm_c5 rfl (Nat.le_of_ble_eq_true rfl) (by exact mm_i17) (Nat.le_of_ble_eq_true rfl) (Nat.le_of_ble_eq_true rfl) (mm_a5 rfl ht hv h2 (fun b hb => ?_))
      have h3 := dis a b ha hb
      refine mm_a3 ⟨by omega, by omega⟩ (fun h => mm_a3 (Or.inl rfl) (Nat.le_refl _) (q0 (h3.2.mp h))) (fun h => mm_a3 (Or.inr rfl) (Nat.le_refl _) (q1 (fun h4 => h (h3.2.mpr h4))))
    have k19 : (k : Int) ≠ v → M 21 v ≠ 0 → ∀ r, (r = 0 ∨ r = 1) ∧ (r = 1 ↔ cor (vX M) (8 + 2 * v) (vX M (8 + 2 * v) 2) = vX M (8 + 2 * v) 3) → K 19 [some (mm_R 17), some (mm_I k), some (mm_I v)] [mm_I r] M d 0 := by
      intro e1 e2 r hr
      have k22 := fun h => k22 e1 e2 (hr.2.mp h)
      have n3 : r ≠ 1 → _ := fun h => n3 (fun h2 => h (hr.2.mpr h2))
      have hr1 := hr.1
      clear hr
      refine hK2 _ _ _ _ _ _ ?_
      refine mm_run_at (stop := [22]) (S := K) kkX5_isNoRound 90 ?_ (fun _ _ _ _ _ _ _ h => hK _ _ _ _ _ _ h)
      repeat' (first | with_reducible assumption | with_reducible exact True.intro | with_reducible exact mm_i17 | with_reducible exact mm_i18 | with_reducible exact mm_i19 | with_reducible exact mm_i20 | with_reducible exact mm_i21 | with_reducible exact mm_i22 | ((with_reducible show mm_rv _ _ _ _ _); first | exact True.intro | exact mm_i17 | exact mm_i18 | exact mm_i19 | exact mm_i20 | exact mm_i21 | exact mm_i22) | ((with_reducible show mm_bool _ _); first | exact True.intro | exact Or.inl rfl | exact Or.inr rfl | (show (_ : Int) = 0 ∨ _ = 1)) | rfl | with_reducible exact Or.inl rfl | with_reducible exact Or.inr rfl | exact Nat.le_of_ble_eq_true rfl | refine And.intro ?_ ?_ | intro _)
      all_goals (try simp (disch := omega) only [InI, Int.toNat_natCast, Int.tmod_eq_emod_of_nonneg, Int.tdiv_eq_ediv_of_nonneg, true_implies, true_or, or_true, mm_l18, mm_l19, mm_l20, mm_l21, mm_l22] at *)
      all_goals first | omega | exact k22 (by omega) | exact q1 (n3 (by omega)) | skip
    refine ⟨Nat.le_of_ble_eq_true rfl, ?_⟩
    refine mm_run_at (stop := [19]) (S := K) kkX5_isNoRound 90 ?_ (fun _ _ _ _ _ _ _ h => hK _ _ _ _ _ _ h)
    repeat' (first | with_reducible assumption | with_reducible exact True.intro | with_reducible exact mm_i17 | with_reducible exact mm_i18 | with_reducible exact mm_i19 | with_reducible exact mm_i20 | with_reducible exact mm_i21 | with_reducible exact mm_i22 | ((with_reducible show mm_rv _ _ _ _ _); first | exact True.intro | exact mm_i17 | exact mm_i18 | exact mm_i19 | exact mm_i20 | exact mm_i21 | exact mm_i22 | ((with_reducible show mV _ _); exact h2)) | ((with_reducible show mV _ _); exact h2) | ((with_reducible show mm_bool _ _); first | exact True.intro | exact Or.inl rfl | exact Or.inr rfl | (show (_ : Int) = 0 ∨ _ = 1)) | rfl | with_reducible exact Or.inl rfl | with_reducible exact Or.inr rfl | exact Nat.le_of_ble_eq_true rfl | refine And.intro ?_ ?_ | intro _)
    all_goals (try simp (disch := omega) only [InI, Int.toNat_natCast, Int.tmod_eq_emod_of_nonneg, Int.tdiv_eq_ediv_of_nonneg, true_implies, true_or, or_true, mm_l18, mm_l19, mm_l20, mm_l21, mm_l22] at *)
    all_goals first | omega | exact q1 (n1 (by omega)) | exact q1 (n2 (by omega)) | exact k19 (by omega) (by omega) _ (by assumption) | skip
  · exact h.elim
theorem me_X5_isNoRound {l : Launch} (hl : l.stackTraces = false) : mm_Met l yX5_isNoRound cX5_isNoRound 3 (some .boolean) [] 10 186 0 sp_X5_isNoRound := mm_mt hl rn_X5_isNoRound ⟨by decide, rfl⟩ kkX5_isNoRound rfl ⟨by decide, by decide⟩ flkX5 (fun _ h => nomatch h) (⟨mm_pe (me_X5_isHome hl) mwX5_isHome (mm_t7 92 rfl rfl) (Nat.le_of_ble_eq_true rfl) (Nat.le_of_ble_eq_true rfl), mm_pe (me_X5_setOf hl) mwX5_setOf (mm_t7 72 rfl rfl) (Nat.le_of_ble_eq_true rfl) (Nat.le_of_ble_eq_true rfl), trivial⟩) (mm_xe0 _)
theorem mm_up_up {M : mm_M} {o k : Nat} {a b : Int} : mm_up (mm_up M o k a) o k b = mm_up M o k b := by
  funext x y
  simp only [mm_up]
  split <;> rfl
theorem mm_up_17_21 {M : mm_M} {a b c : Nat} {x : Int} : mm_up M 21 a x 17 b = M 17 b := mm_up_ob (by decide)
def sp_X5_spliced : mm_S := fun av M d Q => match av with
  | [.inr (.inr (.inl o)), .inl k, .inl v, .inl p] =>  o = 17 ∧ xA M ∧ (0 ≤ k ∧ k < 3) ∧ (0 ≤ v ∧ v < 3) ∧ rdR (vX M) (8 + 2 * k.toNat) (8 + 2 * v.toNat) ∧ (0 ≤ p ∧ p ≤ M 21 k.toNat) ∧ ∀ M', fX M M' ∧ fr [8 + 2 * k.toNat, 8 + 2 * k.toNat + 1, 8 + 2 * v.toNat, 16] (vX M) (vX M') ∧ splR (vX M) (vX M') (8 + 2 * k.toNat) (8 + 2 * v.toNat) p ∧ (∀ j, j ≠ 4 → vX M' 16 j = vX M 16 j) ∧ vX M' 16 4 = (if M 17 10 = k ∨ M 17 10 = v then 1 else M 17 13) ∧ mV M' k.toNat ∧ wD (vX M') (8 + 2 * k.toNat) ∧ mV M' v.toNat ∧ (∀ j, j ≠ 13 → M' 17 j = M 17 j) → Q (.inl none) M' d
  | _ => False
def ct_X5_spliced : List (Nat × mm_Ca) := [(98, (0, 3, 14, sp_X5_stepOf, 0)), (120, (0, 4, 14, sp_X5_put, 0)), (181, (0, 2, 14, sp_X5_lose, 0))]
abbrev rr_X5_spliced (Q : mm_Q) := mm_run (mm_look flX5) (mm_look ct_X5_spliced) mm_x0 (mm_look ([] : List (Nat × Int))) (fun _ => none) 0 0 (fun _ _ => none) Q kdX5_spliced
set_option maxRecDepth 20000 in
theorem lp_X5_spliced {M0 : mm_M} {d : List Nat} {Q : mm_Q} {k v m p : Nat} (hk : k < 3) (hv : v < 3) (ha : xA M0) (hr : rdR (vX M0) (8 + 2 * k) (8 + 2 * v)) (hm : M0 21 v = m) (hp : p ≤ M0 21 k) (hq : ∀ M', fX M0 M' ∧ fr [8 + 2 * k, 8 + 2 * k + 1, 8 + 2 * v, 16] (vX M0) (vX M') ∧ splR (vX M0) (vX M') (8 + 2 * k) (8 + 2 * v) p ∧ (∀ j, j ≠ 4 → vX M' 16 j = vX M0 16 j) ∧ vX M' 16 4 = (if M0 17 10 = k ∨ M0 17 10 = v then 1 else M0 17 13) ∧ mV M' k ∧ wD (vX M') (8 + 2 * k) ∧ mV M' v ∧ (∀ j, j ≠ 13 → M' 17 j = M0 17 j) → Q (.inl none) M' d) : ∀ (j i : Nat) (M : mm_M), i + j = m → fX M0 M → M 17 = M0 17 → fr [8 + 2 * k, 8 + 2 * k + 1] (vX M0) (vX M) → mV M k → wD (vX M) (8 + 2 * k) → M 21 k = M0 21 k + i → vX M (8 + 2 * k) 3 = vX M0 (8 + 2 * k) 3 → (∀ x : Nat, i ≤ x → x < m → wN (vX M) (8 + 2 * k) (vX M0 (8 + 2 * v + 1) x / 2)) → (∀ x : Nat, x < M 21 k → (x < p → vX M (8 + 2 * k + 1) x = vX M0 (8 + 2 * k + 1) x) ∧ (p ≤ x → x < p + i → vX M (8 + 2 * k + 1) x = vX M0 (8 + 2 * v + 1) (x - p)) ∧ (p + i ≤ x → vX M (8 + 2 * k + 1) x = vX M0 (8 + 2 * k + 1) (x - i))) → rr_X5_spliced Q 3 [some (mm_R 17), some (mm_I k), some (mm_I v), some (mm_I p), some (mm_I i)] [] M d 0 := by
  have hkv : k ≠ v := fun e => hr.1 (by rw [e])
  have hz := wk_ne hkv
  have wk := isKk (show k < 4 by omega)
  have wv := isKk (show v < 4 by omega)
  have lk := isK_le wk
  have lv := isK_le wv
  have e0 := vX_n (M := M0) (show v < 4 by omega)
  have e0k := vX_n (M := M0) (show k < 4 by omega)
  have mv0 := ha.v hv
  have mw0 := (mV_i (show v < 4 by omega)).mp mv0
  have hmb := mv0.1
  have t1 := ha.t.1
  have a2 := ha.2
  have al := ha.l
  intro j
  induction j with
  | zero =>
    intro i M hi hx h17 hf h1 hD hl hb hN hI
    have e : i = m := by omega
    subst e
    have ek := vX_n (M := M) (show k < 4 by omega)
    have ev := vX_n (M := M) (show v < 4 by omega)
    have evv : M 21 v = i := by rw [← ev, hf (8 + 2 * v) (by simp; omega), e0, hm]
    have hwk := (mV_i (show k < 4 by omega)).mp h1
    have l10 : M 17 10 = M0 17 10 := by rw [h17]
    have l13 : M 17 13 = M0 17 13 := by rw [h17]
    have fin : ∀ M' c, fX M M' → vX M' = mm_up (mm_up (vX M) (8 + 2 * v) 2 0) 16 4 c → (∀ j, j ≠ 13 → M' 17 j = M 17 j) → c = (if M0 17 10 = k ∨ M0 17 10 = v then 1 else M0 17 13) → Q (.inl none) M' d := by
      intro M' c g1 g2 g17 hc
      have q1 : vX M' (8 + 2 * k) = vX M (8 + 2 * k) := by rw [g2, mm_up_o _ (by omega), mm_up_o _ (by omega)]
      have q2 : vX M' (8 + 2 * k + 1) = vX M (8 + 2 * k + 1) := by rw [g2, mm_up_o _ (by omega), mm_up_o _ (by omega)]
      have q3 : vX M' 2 = vX M 2 := by rw [g2, mm_up_o _ (by omega), mm_up_o _ (by omega)]
      have q4 : vX M' (8 + 2 * v) = mm_up (vX M) (8 + 2 * v) 2 0 (8 + 2 * v) := by rw [g2, mm_up_o _ (by omega)]
      have q5 : vX M (8 + 2 * v) = vX M0 (8 + 2 * v) := hf _ (by simp; omega)
      have q6 : vX M' (8 + 2 * v) 3 = vX M0 (8 + 2 * v) 3 ∧ vX M' (8 + 2 * v) 2 = 0 := by rw [q4, mm_up_ob2 (by omega), q5]; exact ⟨rfl, by simp [mm_up]⟩
      refine hq M' ⟨hx.tr g1, ?_, ⟨?_, ?_, q6.2, q6.1, ?_⟩, fun j hj => ?_, ?_, ?_, ?_, ?_, fun j hj => by rw [g17 j hj, h17]⟩
      · rw [g2]
        exact ((hf.mono (by simp)).up (by simp)).up (by simp)
      · rw [q1, ek, e0k, e0, hm, hl]
      · rw [q1]; exact hb
      · intro x hx2
        rw [q1, ek] at hx2
        rw [q2, e0, hm]
        have h3 := hI x hx2
        simp only [Int.toNat_natCast]
        exact ⟨fun a => h3.1 (by omega), fun a b => h3.2.1 (by omega) (by omega), fun a => h3.2.2 (by omega)⟩
      · rw [g2, mm_up_ob2 hj, mm_up_o _ (by omega), hf 16 (by simp; omega)]
      · rw [g2, ← hc]; simp [mm_up]
      · exact (mV_i (by omega)).mpr (hwk.to q1 q2 q3)
      · exact hD.to q1 q2
      · refine (mV_i (by omega)).mpr ⟨by rw [q6.2]; omega, by rw [q6.1]; exact mw0.2.1, fun x hx => ?_⟩
        rw [q6.2] at hx
        omega
    obtain ⟨K, hK, hK2⟩ : ∃ K : Nat → mm_K, (∀ t ls st M d u, K t ls st M d u → rr_X5_spliced Q t ls st M d u) ∧ (∀ t ls st M d u, rr_X5_spliced Q t ls st M d u → K t ls st M d u) := ⟨rr_X5_spliced Q, fun _ _ _ _ _ _ h => h, fun _ _ _ _ _ _ h => h⟩
    refine mm_run_at (stop := [14]) (S := K) kkX5_spliced 90 ?_ (fun _ _ _ _ _ _ _ h => hK _ _ _ _ _ _ h)
    repeat' (first | with_reducible assumption | with_reducible exact True.intro | with_reducible exact mm_i17 | with_reducible exact mm_i18 | with_reducible exact mm_i19 | with_reducible exact mm_i20 | with_reducible exact mm_i21 | with_reducible exact mm_i22 | ((with_reducible show mm_rv _ _ _ _ _); first | exact True.intro | exact mm_i17 | exact mm_i18 | exact mm_i19 | exact mm_i20 | exact mm_i21 | exact mm_i22) | ((with_reducible show mm_bool _ _); first | exact True.intro | exact Or.inl rfl | exact Or.inr rfl | (show (_ : Int) = 0 ∨ _ = 1)) | rfl | with_reducible exact Or.inl rfl | with_reducible exact Or.inr rfl | exact Nat.le_of_ble_eq_true rfl | refine And.intro ?_ ?_ | intro _)
    all_goals (try simp (disch := omega) only [mm_up_17_21, InI, Int.toNat_natCast, Int.tmod_eq_emod_of_nonneg, Int.tdiv_eq_ediv_of_nonneg, true_implies, true_or, or_true, mm_l18, mm_l19, mm_l20, mm_l21, mm_l22] at *)
    all_goals first | omega | (refine fin _ (if M0 17 10 = k ∨ M0 17 10 = v then 1 else M0 17 13) (((fX.rf.up (by omega)).up (by omega)).up (by omega)) ?_ (fun j hj => by simp [mm_up, hj]) rfl; rw [vX_u13, vX_u13, vX_e21 (k := v) (by omega) rfl rfl, mm_up_up]; congr 1; simp [mm_up, l10, l13]; (repeat' split); all_goals first | rfl | omega) | (simp [mm_up, l10, l13]; (repeat' split); all_goals omega) | skip
  | succ j ih =>
    intro i M hi hx h17 hf h1 hD hl hb hN hI
    have ek := vX_n (M := M) (show k < 4 by omega)
    have ev := vX_n (M := M) (show v < 4 by omega)
    have evv : M 21 v = m := by rw [← ev, hf (8 + 2 * v) (by simp; omega), e0, hm]
    have hwk := (mV_i (show k < 4 by omega)).mp h1
    have v1 := h1.1
    have e1 : vX M (8 + 2 * v + 1) = vX M0 (8 + 2 * v + 1) := hf _ (by simp; omega)
    have es : M 20 (30 * v + i) = vX M0 (8 + 2 * v + 1) i := by rw [← e1, vX_i (by omega) (by omega)]
    have hst : stO (vX M) (vX M0 (8 + 2 * v + 1) i) := by
      have := mw0.2.2 i (by rw [e0, hm]; omega)
      unfold stO
      rw [hf 2 (by simp; omega)]
      exact this
    have hlt := wD_lt hwk hD (s := vX M0 (8 + 2 * v + 1) i / 2) (by unfold stO at hst; omega) (hN i (Nat.le_refl _) (by omega))
    rw [ek, vX_24, show M 17 1 = M0 17 1 by rw [h17]] at hlt
    have e30 : M 21 k < 30 := by omega
    obtain ⟨K, hK, hK2⟩ : ∃ K : Nat → mm_K, (∀ t ls st M d u, K t ls st M d u → rr_X5_spliced Q t ls st M d u) ∧ (∀ t ls st M d u, rr_X5_spliced Q t ls st M d u → K t ls st M d u) := ⟨rr_X5_spliced Q, fun _ _ _ _ _ _ h => h, fun _ _ _ _ _ _ h => h⟩
    have st : ∀ M1, fX M M1 ∧ fr [8 + 2 * k, 8 + 2 * k + 1] (vX M) (vX M1) ∧ mV M1 k ∧ putR (vX M) (vX M1) (8 + 2 * k) ((p : Int) + i) (vX M0 (8 + 2 * v + 1) i) ∧ M1 17 = M 17 → K 3 [some (mm_R 17), some (mm_I k), some (mm_I v), some (mm_I p), some (mm_I ((i : Int) + 1))] [] M1 d 0 := by
      intro M1 ⟨g1, g2, g3, g4, g5⟩
      have ek1 := vX_n (M := M1) (show k < 4 by omega)
      have g4' := g4
      rcases g4 with g4 | g4
      rotate_left
      · exact absurd ⟨by omega, by rw [ek]; omega, by rw [ek]; omega⟩ g4.1
      obtain ⟨-, q7, q8, q9⟩ := g4
      rw [ek] at q7 q9
      refine hK2 _ _ _ _ _ _ (ih (i + 1) M1 (by omega) (hx.tr g1) (by rw [g5, h17]) (hf.tr g2) g3 (put_wD hD (hN i (Nat.le_refl _) (by omega)) g4') (by rw [← ek1, q7, hl]; omega) (by rw [q8]; exact hb) (fun x hx1 hx2 => put_wN (hN x (by omega) hx2) (fun e9 => ?_) g4') (fun x hx1 => ?_))
      · have := (ha.d hv) i x (by rw [e0, hm]; omega) (by rw [e0, hm]; omega) e9
        omega
      · rw [← ek1, q7] at hx1
        obtain ⟨a1, a2, a3⟩ := q9 x (by omega)
        refine ⟨fun b => ?_, fun b c => ?_, fun b => ?_⟩
        · rw [a1 (by omega)]
          exact (hI x (by omega)).1 b
        · by_cases e : x = p + i
          · rw [a2 (by omega), e, Nat.add_sub_cancel_left]
          · rw [a1 (by omega)]
            exact (hI x (by omega)).2.1 b (by omega)
        · rw [a3 (by omega), (hI (x - 1) (by omega)).2.2 (by omega)]
          congr 1
          omega
    refine mm_run_at (stop := [3, 36]) (S := K) kkX5_spliced 90 ?_ (fun _ _ _ _ _ _ _ h => hK _ _ _ _ _ _ h)
    repeat' (first | with_reducible assumption | with_reducible exact True.intro | with_reducible exact mm_i17 | with_reducible exact mm_i18 | with_reducible exact mm_i19 | with_reducible exact mm_i20 | with_reducible exact mm_i21 | with_reducible exact mm_i22 | ((with_reducible show mm_rv _ _ _ _ _); first | exact True.intro | exact mm_i17 | exact mm_i18 | exact mm_i19 | exact mm_i20 | exact mm_i21 | exact mm_i22 | ((with_reducible show mV _ _); exact h1) | ((with_reducible show stO _ _); rw [show (30 * (v : Int).toNat + (i : Int).toNat) = 30 * v + i by omega, es]; exact hst)) | ((with_reducible show mV _ _); exact h1) | ((with_reducible show stO _ _); rw [show (30 * (v : Int).toNat + (i : Int).toNat) = 30 * v + i by omega, es]; exact hst) | ((with_reducible show mm_bool _ _); first | exact True.intro | exact Or.inl rfl | exact Or.inr rfl | (show (_ : Int) = 0 ∨ _ = 1)) | rfl | with_reducible exact Or.inl rfl | with_reducible exact Or.inr rfl | exact Nat.le_of_ble_eq_true rfl | refine And.intro ?_ ?_ | intro _)
    all_goals (try simp (disch := omega) only [es, InI, Int.toNat_natCast, Int.tmod_eq_emod_of_nonneg, Int.tdiv_eq_ediv_of_nonneg, true_implies, true_or, or_true, mm_l18, mm_l19, mm_l20, mm_l21, mm_l22] at *)
    all_goals first | omega | exact st _ (by assumption) | skip
set_option maxRecDepth 20000 in
theorem rn_X5_spliced : mm_RN flX5 ct_X5_spliced mm_x0 [] 0 0 5 kdX5_spliced sp_X5_spliced := by
  intro av M d Q h
  unfold sp_X5_spliced at h
  split at h
  · rename_i o k v p
    obtain ⟨rfl, ha, hk, hv, hr, hp, hq⟩ := h
    obtain ⟨k, rfl⟩ := Int.eq_ofNat_of_zero_le hk.1
    obtain ⟨v, rfl⟩ := Int.eq_ofNat_of_zero_le hv.1
    obtain ⟨p, rfl⟩ := Int.eq_ofNat_of_zero_le hp.1
    simp only [Int.toNat_natCast] at *
    have hk3 : k < 3 := by omega
    have hv3 : v < 3 := by omega
    have v1 := (ha.v hv3).1
    have env := vX_n (M := M) (show v < 4 by omega)
    obtain ⟨m, hm⟩ := Int.eq_ofNat_of_zero_le v1.1
    have h8 := lp_X5_spliced (d := d) (Q := Q) hk3 hv3 ha hr hm hp.2 hq m 0 M (by omega) fX.rf rfl fr.rf (ha.v hk3) (ha.d hk3) (by omega) rfl (fun x _ hx => hr.2.2.2 x (by rw [env, hm]; omega)) (fun x hx => ⟨fun _ => rfl, fun a b => by omega, fun _ => rfl⟩)
    obtain ⟨K, hK, hK2⟩ : ∃ K : Nat → mm_K, (∀ t ls st M d u, K t ls st M d u → rr_X5_spliced Q t ls st M d u) ∧ (∀ t ls st M d u, rr_X5_spliced Q t ls st M d u → K t ls st M d u) := ⟨rr_X5_spliced Q, fun _ _ _ _ _ _ h => h, fun _ _ _ _ _ _ h => h⟩
    refine ⟨Nat.le_of_ble_eq_true rfl, mm_run_at (stop := [3]) (S := K) kkX5_spliced 90 ?_ (fun _ _ _ _ _ _ _ h => hK _ _ _ _ _ _ h)⟩
    have h8 := hK2 _ _ _ _ _ _ h8
    repeat' (first | with_reducible assumption | with_reducible exact True.intro | with_reducible exact mm_i17 | with_reducible exact mm_i18 | with_reducible exact mm_i19 | with_reducible exact mm_i20 | with_reducible exact mm_i21 | with_reducible exact mm_i22 | ((with_reducible show mm_rv _ _ _ _ _); first | exact True.intro | exact mm_i17 | exact mm_i18 | exact mm_i19 | exact mm_i20 | exact mm_i21 | exact mm_i22) | ((with_reducible show mm_bool _ _); first | exact True.intro | exact Or.inl rfl | exact Or.inr rfl | (show (_ : Int) = 0 ∨ _ = 1)) | rfl | with_reducible exact Or.inl rfl | with_reducible exact Or.inr rfl | exact Nat.le_of_ble_eq_true rfl | refine And.intro ?_ ?_ | intro _)
    exact h8
  · exact h.elim
theorem me_X5_spliced {l : Launch} (hl : l.stackTraces = false) : mm_Met l yX5_spliced cX5_spliced 5 none [] 8 146 0 sp_X5_spliced := mm_mt hl rn_X5_spliced ⟨by decide, rfl⟩ kkX5_spliced rfl ⟨by decide, by decide⟩ flkX5 (fun _ h => nomatch h) (⟨mm_pe (me_X5_stepOf hl) mwX5_stepOf (mm_t6 158 rfl rfl) (Nat.le_of_ble_eq_true rfl) (Nat.le_of_ble_eq_true rfl), mm_pe (me_X5_put hl) mwX5_put (mm_t6 197 rfl rfl) (Nat.le_of_ble_eq_true rfl) (Nat.le_of_ble_eq_true rfl), mm_pe (me_X5_lose hl) mwX5_lose (mm_t7 40 rfl rfl) (Nat.le_of_ble_eq_true rfl) (Nat.le_of_ble_eq_true rfl), trivial⟩) (mm_xe0 _)

