/-! the class's town: what hangs together -/
def clo (F T : Nat → Int) (n : Nat) (S : Int) (P : Int → Prop) : Prop := ∀ k, k < n → bt S k = 1 → (P (F k) ↔ P (T k))
def fst (S : Int) (k : Nat) : Prop := bt S k = 1 ∧ ∀ j, j < k → bt S j = 0
theorem fst_ex {S : Int} {n : Nat} (h : ∃ k, k < n ∧ bt S k = 1) : ∃ k, k < n ∧ fst S k := by
  obtain ⟨k, hk, hl⟩ := pk_least (fun k => k < n ∧ bt S k = 1) h
  refine ⟨k, hk.1, hk.2, fun j hj => ?_⟩
  have := hl j hj
  have hb := bt_01 S j
  have hjn : j < n := by omega
  by_cases e : bt S j = 1
  · exact absurd ⟨hjn, e⟩ this
  · omega
theorem fst_un {S : Int} {j k : Nat} (h1 : fst S j) (h2 : fst S k) : j = k := by
  rcases Nat.lt_trichotomy j k with h | h | h
  · have := h2.2 j h
    have := h1.1
    omega
  · exact h
  · have := h1.2 k h
    have := h2.1
    omega
/-- the corners of a street, as a set -/
def ens (f t : Int) : Int := mm_or (1 * 2 ^ f.toNat) (1 * 2 ^ t.toNat)
theorem ens_spec {f t : Int} (hf : 0 ≤ f ∧ f < 10) (ht : 0 ≤ t ∧ t < 10) : (0 ≤ ens f t ∧ ens f t < 1024) ∧ ∀ k, bt (ens f t) k = if k = f.toNat ∨ k = t.toNat then 1 else 0 := by
  have p1 := pw_lt (k := f.toNat) (by omega)
  have p2 := pw_lt (k := t.toNat) (by omega)
  obtain ⟨h1, h2⟩ := mm_or_bt (a := 2 ^ f.toNat) (b := 2 ^ t.toNat) ⟨by omega, by omega⟩ ⟨by omega, by omega⟩
  unfold ens
  rw [Int.one_mul, Int.one_mul]
  have h3 : ∀ k, bt (mm_or (2 ^ f.toNat) (2 ^ t.toNat)) k = if k = f.toNat ∨ k = t.toNat then 1 else 0 := by
    intro k
    rw [h2 k, bt_pow, bt_pow]
    by_cases e1 : k = f.toNat
    · by_cases e2 : k = t.toNat
      · rw [if_pos e1, if_pos e2, if_pos (Or.inl e1)]; rfl
      · rw [if_pos e1, if_neg e2, if_pos (Or.inl e1)]; rfl
    · by_cases e2 : k = t.toNat
      · rw [if_neg e1, if_pos e2, if_pos (Or.inr e2)]; rfl
      · rw [if_neg e1, if_neg e2, if_neg (by omega)]; rfl
  refine ⟨⟨h1.1, ?_⟩, h3⟩
  have := bt_lt (n := 10) h1 (fun k hk _ => by rw [h3, if_neg (by omega)])
  simpa using this
theorem or_spec {a b : Int} (ha : 0 ≤ a ∧ a < 1024) (hb : 0 ≤ b ∧ b < 1024) : (0 ≤ mm_or a b ∧ mm_or a b < 1024) ∧ ∀ k, bt (mm_or a b) k = 1 ↔ (bt a k = 1 ∨ bt b k = 1) := by
  obtain ⟨h1, h2⟩ := mm_or_bt (a := a) (b := b) ⟨ha.1, by omega⟩ ⟨hb.1, by omega⟩
  have h3 : ∀ k, bt (mm_or a b) k = 1 ↔ (bt a k = 1 ∨ bt b k = 1) := by
    intro k
    rw [h2 k]
    rcases bt_01 a k with e1 | e1 <;> rcases bt_01 b k with e2 | e2 <;> simp [e1, e2]
  refine ⟨⟨h1.1, ?_⟩, h3⟩
  have h4 : ∀ x : Int, 0 ≤ x → x < 1024 → ∀ k, 10 ≤ k → bt x k = 0 := by
    intro x hx hx2 k hk
    obtain ⟨n, rfl⟩ := Int.eq_ofNat_of_zero_le hx
    rw [bt_nat, Nat.testBit_lt_two_pow (Nat.lt_of_lt_of_le (by omega : n < 2 ^ 10) (Nat.pow_le_pow_right (by decide) hk))]
    simp
  have := bt_lt (n := 10) h1 (fun k hk _ => by
    have e1 := h4 a ha.1 ha.2 k hk
    have e2 := h4 b hb.1 hb.2 k hk
    have e3 := h3 k
    have e4 := bt_01 (mm_or a b) k
    omega)
  simpa using this
theorem bt_hi {x : Int} (h : 0 ≤ x ∧ x < 1024) {k : Nat} (hk : 10 ≤ k) : bt x k = 0 := by
  obtain ⟨n, rfl⟩ := Int.eq_ofNat_of_zero_le h.1
  rw [bt_nat, Nat.testBit_lt_two_pow (Nat.lt_of_lt_of_le (by omega : n < 2 ^ 10) (Nat.pow_le_pow_right (by decide) hk))]
  simp
theorem and0 {a b : Int} (ha : 0 ≤ a ∧ a < 1024) (hb : 0 ≤ b ∧ b < 1024) : (0 ≤ mm_and a b ∧ mm_and a b < 2147483648) ∧ (mm_and a b = 0 ↔ ∀ k : Nat, ¬ (bt a k = 1 ∧ bt b k = 1)) := by
  obtain ⟨h1, h2⟩ := mm_and_bt (a := a) (b := b) ⟨ha.1, by omega⟩ ⟨hb.1, by omega⟩
  refine ⟨h1, fun h k hk => ?_, fun h => ?_⟩
  · have := h2 k
    rw [h, bt_0, hk.1, hk.2] at this
    omega
  · have h3 : ∀ k, bt (mm_and a b) k = 0 := by
      intro k
      rw [h2 k]
      have := h k
      rcases bt_01 a k with e1 | e1 <;> rcases bt_01 b k with e2 | e2 <;> simp [e1, e2] at this ⊢
    have h4 := bt_lt (n := 0) h1 (fun k _ _ => h3 k)
    simp at h4
    omega
def pasI (F T : Nat → Int) (n : Nat) (S b : Int) (i : Nat) (R : Int) : Prop :=
  (0 ≤ R ∧ R < 1024) ∧ (∀ c, bt b c = 1 → bt R c = 1) ∧ (∀ k, k < i → bt S k = 1 → (bt b (F k).toNat = 1 ∨ bt b (T k).toNat = 1) → bt R (F k).toNat = 1 ∧ bt R (T k).toNat = 1) ∧
  (b = 0 → ∀ k, k < i → fst S k → bt R (F k).toNat = 1 ∧ bt R (T k).toNat = 1) ∧
  (∀ P : Int → Prop, clo F T n S P → (∀ c : Nat, bt b c = 1 → P c) → (b = 0 → ∀ k, k < n → fst S k → P (F k)) → ∀ c : Nat, bt R c = 1 → P c) ∧
  (R = 0 → b = 0 ∧ ∀ k, k < i → bt S k = 0) ∧ (b = 0 → (∀ k, k < i → bt S k = 0) → R = 0)
theorem pasI_0 {F T : Nat → Int} {n : Nat} {S b : Int} (hb : 0 ≤ b ∧ b < 1024) : pasI F T n S b 0 b :=
  ⟨hb, fun _ h => h, fun k hk => by omega, fun _ k hk => by omega, fun P _ h _ c hc => h c hc, fun h => ⟨h, fun k hk => by omega⟩, fun h _ => h⟩
theorem pasI_n {F T : Nat → Int} {n i : Nat} {S b R : Int} (h : pasI F T n S b i R) (hF : (0 ≤ F i ∧ F i < 10) ∧ (0 ≤ T i ∧ T i < 10)) (hs : bt S i = 0 ∨ (R ≠ 0 ∧ mm_and R (ens (F i) (T i)) = 0)) : pasI F T n S b (i + 1) R := by
  obtain ⟨h1, h2, h3, h4, h5, h6, h7⟩ := h
  obtain ⟨e1, e2⟩ := ens_spec hF.1 hF.2
  refine ⟨h1, h2, fun k hk hS hb => ?_, fun hb k hk hf => ?_, h5, fun hR => ⟨(h6 hR).1, fun k hk => ?_⟩, fun hb hS => ?_⟩
  · by_cases e : k = i
    · subst e
      rcases hs with hs | ⟨-, hs⟩
      · omega
      · exfalso
        have := ((and0 h1 e1).2.mp hs)
        rcases hb with hb | hb
        · exact this (F k).toNat ⟨h2 _ hb, by rw [e2]; simp⟩
        · exact this (T k).toNat ⟨h2 _ hb, by rw [e2]; simp⟩
    · exact h3 k (by omega) hS hb
  · by_cases e : k = i
    · subst e
      rcases hs with hs | ⟨hs, -⟩
      · have := hf.1
        omega
      · exact absurd (h7 hb hf.2) hs
    · exact h4 hb k (by omega) hf
  · by_cases e : k = i
    · subst e
      rcases hs with hs | ⟨hs, -⟩
      · exact hs
      · exact absurd hR hs
    · exact (h6 hR).2 k (by omega)
  · exact h7 hb (fun k hk => hS k (by omega))
theorem pasI_y {F T : Nat → Int} {n i : Nat} {S b R : Int} (h : pasI F T n S b i R) (hi : i < n) (hF : (0 ≤ F i ∧ F i < 10) ∧ (0 ≤ T i ∧ T i < 10)) (hS : bt S i = 1) (hs : R = 0 ∨ mm_and R (ens (F i) (T i)) ≠ 0) : pasI F T n S b (i + 1) (mm_or R (ens (F i) (T i))) := by
  obtain ⟨h1, h2, h3, h4, h5, h6, h7⟩ := h
  obtain ⟨e1, e2⟩ := ens_spec hF.1 hF.2
  obtain ⟨o1, o2⟩ := or_spec h1 e1
  have hf : bt (mm_or R (ens (F i) (T i))) (F i).toNat = 1 := (o2 _).mpr (Or.inr (by rw [e2]; simp))
  have ht : bt (mm_or R (ens (F i) (T i))) (T i).toNat = 1 := (o2 _).mpr (Or.inr (by rw [e2]; simp))
  refine ⟨o1, fun c hc => (o2 c).mpr (Or.inl (h2 c hc)), fun k hk hS2 hb => ?_, fun hb k hk hf2 => ?_, fun P hP hb hfs c hc => ?_, fun hR => ?_, fun hb hS2 => ?_⟩
  · by_cases e : k = i
    · subst e
      exact ⟨hf, ht⟩
    · have := h3 k (by omega) hS2 hb
      exact ⟨(o2 _).mpr (Or.inl this.1), (o2 _).mpr (Or.inl this.2)⟩
  · by_cases e : k = i
    · subst e
      exact ⟨hf, ht⟩
    · have := h4 hb k (by omega) hf2
      exact ⟨(o2 _).mpr (Or.inl this.1), (o2 _).mpr (Or.inl this.2)⟩
  · have h8 := h5 P hP hb hfs
    have h9 : P (F i) := by
      rcases hs with hs | hs
      · obtain ⟨q1, q2⟩ := h6 hs
        exact hfs q1 i hi ⟨hS, q2⟩
      · have hx : ¬ ∀ k : Nat, ¬ (bt R k = 1 ∧ bt (ens (F i) (T i)) k = 1) := fun z => hs ((and0 h1 e1).2.mpr z)
        obtain ⟨k, hk⟩ := Classical.not_forall.mp hx
        have hk := Classical.not_not.mp hk
        have h10 := h8 k hk.1
        have h11 := hk.2
        rw [e2] at h11
        by_cases e : k = (F i).toNat
        · rw [e, show (((F i).toNat : Nat) : Int) = F i by omega] at h10
          exact h10
        · by_cases e3 : k = (T i).toNat
          · rw [e3, show (((T i).toNat : Nat) : Int) = T i by omega] at h10
            exact (hP i hi hS).mpr h10
          · rw [if_neg (by omega)] at h11
            omega
    rcases (o2 c).mp hc with h10 | h10
    · exact h8 c h10
    · rw [e2] at h10
      by_cases e : c = (F i).toNat
      · rw [e, show (((F i).toNat : Nat) : Int) = F i by omega]
        exact h9
      · by_cases e3 : c = (T i).toNat
        · rw [e3, show (((T i).toNat : Nat) : Int) = T i by omega]
          exact (hP i hi hS).mp h9
        · rw [if_neg (by omega)] at h10
          omega
  · rw [hR, bt_0] at hf
    omega
  · have := hS2 i (by omega)
    omega
def sp_X1_reachedInOnePass : mm_S := fun av M d Q => match av with
  | [.inr (.inr (.inl o)), .inl S, .inl b] =>  o = 2 ∧ tW M ∧ (0 ≤ S ∧ S < 1073741824) ∧ (0 ≤ b ∧ b < 1024) ∧ ∀ r, pasI (M 3) (M 4) (M 2 4).toNat S b (M 2 4).toNat r → Q (.inl (some (mm_I r))) M d
  | _ => False
def ct_X1_reachedInOnePass : List (Nat × mm_Ca) := []
abbrev rr_X1_reachedInOnePass (Q : mm_Q) := mm_run (mm_look flX1) (mm_look ct_X1_reachedInOnePass) mm_x0 (mm_look ([] : List (Nat × Int))) (fun _ => none) 1 0 (fun _ _ => none) Q kdX1_reachedInOnePass
set_option maxRecDepth 20000 in
theorem lp_X1_reachedInOnePass {M : mm_M} {d : List Nat} {Q : mm_Q} {S b : Int} {n : Nat} (ht : tW M) (hS : 0 ≤ S ∧ S < 1073741824) (hn : M 2 4 = n) (hq : ∀ r, pasI (M 3) (M 4) n S b n r → Q (.inl (some (mm_I r))) M d) : ∀ (k i : Nat) (r : Int) (x5 x6 : Option mm_V), i + k = n → pasI (M 3) (M 4) n S b i r → rr_X1_reachedInOnePass Q 5 [some (mm_R 2), some (mm_I S), some (mm_I b), some (mm_I r), some (mm_I i), x5, x6] [] M d 0 := by
  obtain ⟨t1, t2, t3, t4, t5⟩ := id ht
  clear ht t3 t4 t5
  intro k
  induction k with
  | zero =>
    intro i r x5 x6 hi hI
    have e : i = n := by omega
    subst e
    have qe := hq r hI
    clear hq hI t2
    obtain ⟨K, hK, hK2⟩ : ∃ K : Nat → mm_K, (∀ t ls st M d u, K t ls st M d u → rr_X1_reachedInOnePass Q t ls st M d u) ∧ (∀ t ls st M d u, rr_X1_reachedInOnePass Q t ls st M d u → K t ls st M d u) := ⟨rr_X1_reachedInOnePass Q, fun _ _ _ _ _ _ h => h, fun _ _ _ _ _ _ h => h⟩
    refine mm_run_at (stop := [14]) (S := K) kkX1_reachedInOnePass 90 ?_ (fun _ _ _ _ _ _ _ h => hK _ _ _ _ _ _ h)
    repeat' (first | with_reducible assumption | ((with_reducible show mm_rv _ _ _ _ _); first | exact True.intro | exact mm_i2) | with_reducible exact mm_i2 | ((with_reducible show mm_bool _ _); first | exact True.intro | exact Or.inl rfl | exact Or.inr rfl | (show (_ : Int) = 0 ∨ _ = 1)) | refine And.intro ?_ ?_ | intro _ | with_reducible exact True.intro | exact rfl | with_reducible exact Or.inl rfl | with_reducible exact Or.inr rfl | exact Nat.le_of_ble_eq_true rfl)
    all_goals (try simp (disch := omega) only [InI, Int.toNat_natCast, Int.tmod_eq_emod_of_nonneg, Int.tdiv_eq_ediv_of_nonneg, true_implies, true_or, or_true, mm_l18, mm_l19, mm_l20, mm_l21, mm_l22] at *)
    all_goals first | omega | exact qe | skip
  | succ k ih =>
    intro i r x5 x6 hi hI
    have b1 := t2 i (by omega)
    obtain ⟨e1, e2⟩ := ens_spec b1.1 b1.2
    have hR := hI.1
    have hA := (and0 hR e1).1
    have hb := bt_01 S i
    have hi2 : InI (S / 2 ^ (i : Int).toNat) := sh_in ⟨hS.1, by omega⟩
    have em : mm_and (S / 2 ^ i) 1 = bt S i := mm_and1 hi2
    have eo : mm_or (1 * 2 ^ (M 3 i).toNat) (1 * 2 ^ (M 4 i).toNat) = ens (M 3 i) (M 4 i) := rfl
    obtain ⟨K, hK, hK2⟩ : ∃ K : Nat → mm_K, (∀ t ls st M d u, K t ls st M d u → rr_X1_reachedInOnePass Q t ls st M d u) ∧ (∀ t ls st M d u, rr_X1_reachedInOnePass Q t ls st M d u → K t ls st M d u) := ⟨rr_X1_reachedInOnePass Q, fun _ _ _ _ _ _ h => h, fun _ _ _ _ _ _ h => h⟩
    have nx : ∀ r2, pasI (M 3) (M 4) n S b (i + 1) r2 → ∀ x5 x6, K 5 [some (mm_R 2), some (mm_I S), some (mm_I b), some (mm_I r2), some (mm_I ((i : Int) + 1)), x5, x6] [] M d 0 := fun r2 h2 x5 x6 => hK2 _ _ _ _ _ _ (ih (i + 1) r2 x5 x6 (by omega) h2)
    have nA := fun (h : bt S i = 0) => nx r (pasI_n hI b1 (Or.inl h))
    have nB := fun (h : bt S i ≠ 0) (h0 : r = 0) => nx _ (pasI_y hI (by omega) b1 (by omega) (Or.inl h0))
    have nC := fun (h0 : r ≠ 0) (h9 : mm_and r (ens (M 3 i) (M 4 i)) = 0) => nx r (pasI_n hI b1 (Or.inr ⟨h0, h9⟩))
    have nD := fun (h : bt S i ≠ 0) (h9 : mm_and r (ens (M 3 i) (M 4 i)) ≠ 0) => nx _ (pasI_y hI (by omega) b1 (by omega) (Or.inr h9))
    clear ih nx hI hq e1 e2 t2 hi2
    refine mm_run_at (stop := [5, 70]) (S := K) kkX1_reachedInOnePass 90 ?_ (fun _ _ _ _ _ _ _ h => hK _ _ _ _ _ _ h)
    repeat' (first | with_reducible assumption | ((with_reducible show mm_rv _ _ _ _ _); first | exact True.intro | exact mm_i2 | exact mm_i3 | exact mm_i4) | with_reducible exact mm_i2 | with_reducible exact mm_i3 | with_reducible exact mm_i4 | ((with_reducible show mm_bool _ _); first | exact True.intro | exact Or.inl rfl | exact Or.inr rfl | (show (_ : Int) = 0 ∨ _ = 1)) | refine And.intro ?_ ?_ | intro _ | with_reducible exact True.intro | exact rfl | with_reducible exact Or.inl rfl | with_reducible exact Or.inr rfl | exact Nat.le_of_ble_eq_true rfl)
    all_goals (try simp (disch := omega) only [em, eo, mm_l3, mm_l4, InI, Int.toNat_natCast, Int.tmod_eq_emod_of_nonneg, Int.tdiv_eq_ediv_of_nonneg, true_implies, true_or, or_true, mm_l18, mm_l19, mm_l20, mm_l21, mm_l22] at *)
    all_goals first | omega | exact nA (by omega) _ _ | exact nB (by omega) (by omega) _ _ | exact nC (by omega) (by omega) _ _ | exact nD (by omega) (by omega) _ _ | skip
set_option maxRecDepth 20000 in
theorem rn_X1_reachedInOnePass : mm_RN flX1 ct_X1_reachedInOnePass mm_x0 [] 1 0 7 kdX1_reachedInOnePass sp_X1_reachedInOnePass := by
  intro av M d Q h
  unfold sp_X1_reachedInOnePass at h
  split at h
  · rename_i o S b
    obtain ⟨rfl, ht, hS, hb, hq⟩ := h
    have h1 := ht.1
    obtain ⟨n, hn⟩ := Int.eq_ofNat_of_zero_le h1.1
    have k5 := lp_X1_reachedInOnePass (d := d) (Q := Q) ht hS hn (fun r h => hq r (by rw [hn]; exact h)) n 0 b none none (by omega) (pasI_0 hb)
    clear hq
    obtain ⟨K, hK, hK2⟩ : ∃ K : Nat → mm_K, (∀ t ls st M d u, K t ls st M d u → rr_X1_reachedInOnePass Q t ls st M d u) ∧ (∀ t ls st M d u, rr_X1_reachedInOnePass Q t ls st M d u → K t ls st M d u) := ⟨rr_X1_reachedInOnePass Q, fun _ _ _ _ _ _ h => h, fun _ _ _ _ _ _ h => h⟩
    refine ⟨Nat.le_of_ble_eq_true rfl, mm_run_at (stop := [5]) (S := K) kkX1_reachedInOnePass 90 ?_ (fun _ _ _ _ _ _ _ h => hK _ _ _ _ _ _ h)⟩
    have k5 := hK2 _ _ _ _ _ _ k5
    repeat' (first | with_reducible assumption | ((with_reducible show mm_rv _ _ _ _ _); first | exact True.intro) | ((with_reducible show mm_bool _ _); first | exact True.intro | exact Or.inl rfl | exact Or.inr rfl | (show (_ : Int) = 0 ∨ _ = 1)) | refine And.intro ?_ ?_ | intro _ | with_reducible exact True.intro | exact rfl | with_reducible exact Or.inl rfl | with_reducible exact Or.inr rfl | exact Nat.le_of_ble_eq_true rfl)
    all_goals (try simp (disch := omega) only [InI, Int.toNat_natCast, Int.tmod_eq_emod_of_nonneg, Int.tdiv_eq_ediv_of_nonneg, true_implies, true_or, or_true, mm_l18, mm_l19, mm_l20, mm_l21, mm_l22] at *)
    all_goals first | omega | exact k5 | skip
  · exact h.elim
theorem me_X1_reachedInOnePass {l : Launch} (hl : l.stackTraces = false) : mm_Met l yX1_reachedInOnePass cX1_reachedInOnePass 7 (some .int) [] 6 100 0 sp_X1_reachedInOnePass := mm_mt hl rn_X1_reachedInOnePass ⟨plX1, rfl⟩ kkX1_reachedInOnePass rfl ⟨Nat.le_of_ble_eq_true rfl, Nat.le_of_ble_eq_true rfl⟩ flkX1 (fun _ h => nomatch h) (trivial) (mm_xe0 _) n9X1
def pcn (R : Int) : Int := bt R 0 + bt R 1 + bt R 2 + bt R 3 + bt R 4 + bt R 5 + bt R 6 + bt R 7 + bt R 8 + bt R 9
theorem pcn_le (R : Int) : 0 ≤ pcn R ∧ pcn R ≤ 10 := by
  have h0 := bt_01 R 0
  have h1 := bt_01 R 1
  have h2 := bt_01 R 2
  have h3 := bt_01 R 3
  have h4 := bt_01 R 4
  have h5 := bt_01 R 5
  have h6 := bt_01 R 6
  have h7 := bt_01 R 7
  have h8 := bt_01 R 8
  have h9 := bt_01 R 9
  unfold pcn
  omega
theorem pcn_lt {R R' : Int} (hR : 0 ≤ R ∧ R < 1024) (hR' : 0 ≤ R' ∧ R' < 1024) (h : ∀ c, bt R c = 1 → bt R' c = 1) (hne : R' ≠ R) : pcn R + 1 ≤ pcn R' := by
  have hle : ∀ c, bt R c ≤ bt R' c := by
    intro c
    have := h c
    have h1 := bt_01 R c
    have h2 := bt_01 R' c
    omega
  rcases Int.lt_or_le (pcn R) (pcn R') with h1 | h1
  · omega
  · exfalso
    apply hne
    have l0 := hle 0
    have l1 := hle 1
    have l2 := hle 2
    have l3 := hle 3
    have l4 := hle 4
    have l5 := hle 5
    have l6 := hle 6
    have l7 := hle 7
    have l8 := hle 8
    have l9 := hle 9
    unfold pcn at h1
    have hall : bt R' 0 = bt R 0 ∧ bt R' 1 = bt R 1 ∧ bt R' 2 = bt R 2 ∧ bt R' 3 = bt R 3 ∧ bt R' 4 = bt R 4 ∧ bt R' 5 = bt R 5 ∧ bt R' 6 = bt R 6 ∧ bt R' 7 = bt R 7 ∧ bt R' 8 = bt R 8 ∧ bt R' 9 = bt R 9 := by
      clear h hle hne hR hR'
      exact ⟨by omega, by omega, by omega, by omega, by omega, by omega, by omega, by omega, by omega, by omega⟩
    clear l0 l1 l2 l3 l4 l5 l6 l7 l8 l9 h1
    obtain ⟨q0, q1, q2, q3, q4, q5, q6, q7, q8, q9⟩ := hall
    refine bt_ext ⟨hR'.1, by omega⟩ ⟨hR.1, by omega⟩ (fun k hk => ?_)
    by_cases hk10 : 10 ≤ k
    · rw [bt_hi hR' hk10, bt_hi hR hk10]
    · have hk' : k = 0 ∨ k = 1 ∨ k = 2 ∨ k = 3 ∨ k = 4 ∨ k = 5 ∨ k = 6 ∨ k = 7 ∨ k = 8 ∨ k = 9 := by omega
      rcases hk' with rfl | rfl | rfl | rfl | rfl | rfl | rfl | rfl | rfl | rfl <;> assumption
/-- reached is what hangs with the first street -/
def rchI (F T : Nat → Int) (n : Nat) (S R : Int) : Prop := (0 ≤ R ∧ R < 1024) ∧ (∀ P : Int → Prop, clo F T n S P → (∀ k, k < n → fst S k → P (F k)) → ∀ c : Nat, bt R c = 1 → P c)
def seeded (F T : Nat → Int) (n : Nat) (S R : Int) : Prop := ∀ k, k < n → fst S k → bt R (F k).toNat = 1 ∧ bt R (T k).toNat = 1
def closd (F T : Nat → Int) (n : Nat) (S R : Int) : Prop := ∀ k, k < n → bt S k = 1 → (bt R (F k).toNat = 1 ∨ bt R (T k).toNat = 1) → bt R (F k).toNat = 1 ∧ bt R (T k).toNat = 1
theorem HG_iff {F T : Nat → Int} {n : Nat} {S R : Int} (hF : ∀ k, k < n → (0 ≤ F k ∧ F k < 10) ∧ (0 ≤ T k ∧ T k < 10)) (h1 : rchI F T n S R) (h2 : seeded F T n S R) (h3 : closd F T n S R) : HG F T n S ↔ ∀ k, k < n → bt S k = 1 → bt R (F k).toNat = 1 := by
  constructor
  · intro hH k hk hS
    obtain ⟨k0, hk0, hf⟩ := fst_ex ⟨k, hk, hS⟩
    refine hH (fun c => bt R c.toNat = 1) (fun j hj hSj => ⟨fun h => (h3 j hj hSj (Or.inl h)).2, fun h => (h3 j hj hSj (Or.inr h)).1⟩) ⟨k0, hk0, hf.1, (h2 k0 hk0 hf).1⟩ k hk hS
  · intro hA P hP ⟨k1, hk1, hS1, hp1⟩ k hk hS
    have key : ∀ P' : Int → Prop, clo F T n S P' → (∀ j, j < n → fst S j → P' (F j)) → ∀ j, j < n → bt S j = 1 → P' (F j) := by
      intro P' hP' hs j hj hSj
      have := h1.2 P' hP' hs (F j).toNat (hA j hj hSj)
      rw [show (((F j).toNat : Nat) : Int) = F j by have := (hF j hj).1; omega] at this
      exact this
    obtain ⟨k0, hk0, hf⟩ := fst_ex ⟨k, hk, hS⟩
    by_cases h0 : P (F k0)
    · exact key P hP (fun j hj hfj => by rw [fst_un hfj hf]; exact h0) k hk hS
    · exfalso
      have := key (fun c => ¬ P c) (fun j hj hSj => not_congr (hP j hj hSj)) (fun j hj hfj => by rw [fst_un hfj hf]; exact h0) k1 hk1 hS1
      exact this hp1
def sp_X1_hangTogether : mm_S := fun av M d Q => match av with
  | [.inr (.inr (.inl o)), .inl S] =>  o = 2 ∧ tW M ∧ (0 ≤ S ∧ S < 1073741824) ∧ ∀ r, (HG (M 3) (M 4) (M 2 4).toNat S → r = 1) ∧ (¬ HG (M 3) (M 4) (M 2 4).toNat S → r = 0) → Q (.inl (some (mm_I r))) M d
  | _ => False
def ct_X1_hangTogether : List (Nat × mm_Ca) := [(77, (0, 3, 11, sp_X1_reachedInOnePass, 0)), (80, (1, 2, 0, sp_X1_isIn, 0))]
abbrev rr_X1_hangTogether (Q : mm_Q) := mm_run (mm_look flX1) (mm_look ct_X1_hangTogether) mm_x0 (mm_look ([] : List (Nat × Int))) (fun _ => none) 2 0 (fun _ _ => none) Q kdX1_hangTogether
set_option maxRecDepth 20000 in
theorem lp2_X1_hangTogether {M : mm_M} {d : List Nat} {Q : mm_Q} {S R x3 : Int} {x5 : Option mm_V} {n : Nat} (ht : tW M) (hS : 0 ≤ S ∧ S < 1073741824) (hn : M 2 4 = n) (hR : 0 ≤ R ∧ R < 1024) (hq0 : ∀ k, k < n → bt S k = 1 → bt R (M 3 k).toNat ≠ 1 → Q (.inl (some (mm_I 0))) M d) (hq1 : (∀ k, k < n → bt S k = 1 → bt R (M 3 k).toNat = 1) → Q (.inl (some (mm_I 1))) M d) : ∀ (k i : Nat), i + k = n → (∀ j, j < i → bt S j = 1 → bt R (M 3 j).toNat = 1) → rr_X1_hangTogether Q 50 [some (mm_R 2), some (mm_I S), some (mm_I R), some (mm_I x3), some (mm_I i), x5] [] M d 0 := by
  obtain ⟨t1, t2, t3, t4, t5⟩ := id ht
  clear ht t3 t4 t5
  intro k
  induction k with
  | zero =>
    intro i hi h1
    have qe := hq1 (fun j hj => h1 j (by omega))
    clear hq0 hq1 h1 t2
    obtain ⟨K, hK, hK2⟩ : ∃ K : Nat → mm_K, (∀ t ls st M d u, K t ls st M d u → rr_X1_hangTogether Q t ls st M d u) ∧ (∀ t ls st M d u, rr_X1_hangTogether Q t ls st M d u → K t ls st M d u) := ⟨rr_X1_hangTogether Q, fun _ _ _ _ _ _ h => h, fun _ _ _ _ _ _ h => h⟩
    refine mm_run_at (stop := [59]) (S := K) kkX1_hangTogether 90 ?_ (fun _ _ _ _ _ _ _ h => hK _ _ _ _ _ _ h)
    repeat' (first | with_reducible assumption | ((with_reducible show mm_rv _ _ _ _ _); first | exact True.intro | exact mm_i2) | with_reducible exact mm_i2 | ((with_reducible show mm_bool _ _); first | exact True.intro | exact Or.inl rfl | exact Or.inr rfl | (show (_ : Int) = 0 ∨ _ = 1)) | refine And.intro ?_ ?_ | intro _ | with_reducible exact True.intro | exact rfl | with_reducible exact Or.inl rfl | with_reducible exact Or.inr rfl | exact Nat.le_of_ble_eq_true rfl)
    all_goals (try simp (disch := omega) only [InI, Int.toNat_natCast, Int.tmod_eq_emod_of_nonneg, Int.tdiv_eq_ediv_of_nonneg, true_implies, true_or, or_true, mm_l18, mm_l19, mm_l20, mm_l21, mm_l22] at *)
    all_goals first | omega | exact qe | skip
  | succ k ih =>
    intro i hi h1
    have b1 := t2 i (by omega)
    have p1 := pw_lt (k := (M 3 i).toNat) (by omega)
    have hA := mm_and_bt (a := R) (b := 2 ^ (M 3 i).toNat) ⟨hR.1, by omega⟩ ⟨by omega, by omega⟩
    have hE : mm_and R (2 ^ (M 3 i).toNat) = 0 ↔ bt R (M 3 i).toNat ≠ 1 := by
      constructor
      · intro h
        have := hA.2 (M 3 i).toNat
        rw [h, bt_0, bt_pow, if_pos rfl] at this
        omega
      · intro h
        have h3 : ∀ k, bt (mm_and R (2 ^ (M 3 i).toNat)) k = 0 := by
          intro k
          rw [hA.2 k, bt_pow]
          have := bt_01 R k
          split
          · rename_i e
            subst e
            omega
          · omega
        have h4 := bt_lt (n := 0) hA.1 (fun k _ _ => h3 k)
        simp at h4
        omega
    have hb := bt_01 S i
    have hA1 := hA.1
    have e1 := Int.one_mul (2 ^ (M 3 i).toNat)
    obtain ⟨K, hK, hK2⟩ : ∃ K : Nat → mm_K, (∀ t ls st M d u, K t ls st M d u → rr_X1_hangTogether Q t ls st M d u) ∧ (∀ t ls st M d u, rr_X1_hangTogether Q t ls st M d u → K t ls st M d u) := ⟨rr_X1_hangTogether Q, fun _ _ _ _ _ _ h => h, fun _ _ _ _ _ _ h => h⟩
    have nx : (bt S i = 1 → bt R (M 3 i).toNat = 1) → K 50 [some (mm_R 2), some (mm_I S), some (mm_I R), some (mm_I x3), some (mm_I ((i : Int) + 1)), x5] [] M d 0 := fun h => hK2 _ _ _ _ _ _ (ih (i + 1) (by omega) (fun j hj hSj => by
      by_cases e : j = i
      · rw [e] at hSj ⊢
        exact h hSj
      · exact h1 j (by omega) hSj))
    have nA : ∀ r : Int, ((bt S i = 1 → r = 1) ∧ (bt S i = 0 → r = 0)) → r = 0 → _ := fun r hr h => nx (fun h2 => by have := hr.1 h2; omega)
    have nB : ∀ r : Int, ((bt S i = 1 → r = 1) ∧ (bt S i = 0 → r = 0)) → mm_and R (2 ^ (M 3 i).toNat) ≠ 0 → _ := fun r hr h => nx (fun _ => Classical.byContradiction fun z => h (hE.mpr z))
    have nC : ∀ r : Int, ((bt S i = 1 → r = 1) ∧ (bt S i = 0 → r = 0)) → r ≠ 0 → mm_and R (2 ^ (M 3 i).toNat) = 0 → _ := fun r hr h h9 => hq0 i (by omega) (by rcases hb with z | z; exact absurd (hr.2 z) h; exact z) (hE.mp h9)
    clear ih nx h1 hq0 hq1 hE hA t2
    refine mm_run_at (stop := [50, 90]) (S := K) kkX1_hangTogether 90 ?_ (fun _ _ _ _ _ _ _ h => hK _ _ _ _ _ _ h)
    repeat' (first | with_reducible assumption | ((with_reducible show mm_rv _ _ _ _ _); first | exact True.intro | exact mm_i2 | exact mm_i3) | with_reducible exact mm_i2 | with_reducible exact mm_i3 | ((with_reducible show mm_bool _ _); first | exact True.intro | exact Or.inl rfl | exact Or.inr rfl | (show (_ : Int) = 0 ∨ _ = 1)) | refine And.intro ?_ ?_ | intro _ | with_reducible exact True.intro | exact rfl | with_reducible exact Or.inl rfl | with_reducible exact Or.inr rfl | exact Nat.le_of_ble_eq_true rfl)
    all_goals (try simp (disch := omega) only [e1, mm_l3, InI, Int.toNat_natCast, Int.tmod_eq_emod_of_nonneg, Int.tdiv_eq_ediv_of_nonneg, true_implies, true_or, or_true, mm_l18, mm_l19, mm_l20, mm_l21, mm_l22] at *)
    all_goals first | omega | exact nA _ (by assumption) (by omega) | exact nB _ (by assumption) (by omega) | exact nC _ (by assumption) (by omega) (by omega) | skip
set_option maxRecDepth 20000 in
theorem lp_X1_hangTogether {M : mm_M} {d : List Nat} {Q : mm_Q} {S : Int} {n : Nat} (ht : tW M) (hS : 0 ≤ S ∧ S < 1073741824) (hn : M 2 4 = n) (hq : ∀ r, (HG (M 3) (M 4) n S → r = 1) ∧ (¬ HG (M 3) (M 4) n S → r = 0) → Q (.inl (some (mm_I r))) M d) : ∀ (k p : Nat) (R g : Int) (x5 : Option mm_V), p + k = 11 → (g = 0 ∨ g = 1) → rchI (M 3) (M 4) n S R → (1 ≤ p → seeded (M 3) (M 4) n S R) → (p = 0 → R = 0) → (g = 0 → 1 ≤ p ∧ closd (M 3) (M 4) n S R) → (g = 1 → p ≤ pcn R) → rr_X1_hangTogether Q 7 [some (mm_R 2), some (mm_I S), some (mm_I R), some (mm_I g), some (mm_I p), x5] [] M d 0 := by
  obtain ⟨t1, t2, -, -, -⟩ := id ht
  have fin : ∀ (R g : Int) (x4 x5 : Option mm_V), rchI (M 3) (M 4) n S R → seeded (M 3) (M 4) n S R → closd (M 3) (M 4) n S R → rr_X1_hangTogether Q 47 [some (mm_R 2), some (mm_I S), some (mm_I R), some (mm_I g), x4, x5] [] M d 0 := by
    intro R g x4 x5 h1 h2 h3
    have hi := HG_iff (fun k hk => t2 k (by omega)) h1 h2 h3
    have k50 := lp2_X1_hangTogether (d := d) (Q := Q) (x3 := g) (x5 := x5) ht hS hn h1.1 (fun k hk hSk hne => hq 0 ⟨fun h => absurd (hi.mp h k hk hSk) hne, fun _ => rfl⟩) (fun h => hq 1 ⟨fun _ => rfl, fun h2 => absurd (hi.mpr h) h2⟩) n 0 (by omega) (fun j hj => by omega)
    clear hq hi h1 h2 h3 t2
    obtain ⟨K, hK, hK2⟩ : ∃ K : Nat → mm_K, (∀ t ls st M d u, K t ls st M d u → rr_X1_hangTogether Q t ls st M d u) ∧ (∀ t ls st M d u, rr_X1_hangTogether Q t ls st M d u → K t ls st M d u) := ⟨rr_X1_hangTogether Q, fun _ _ _ _ _ _ h => h, fun _ _ _ _ _ _ h => h⟩
    have k50 := hK2 _ _ _ _ _ _ k50
    refine mm_run_at (stop := [50]) (S := K) kkX1_hangTogether 90 ?_ (fun _ _ _ _ _ _ _ h => hK _ _ _ _ _ _ h)
    repeat' (first | with_reducible assumption | ((with_reducible show mm_rv _ _ _ _ _); first | exact True.intro) | ((with_reducible show mm_bool _ _); first | exact True.intro | exact Or.inl rfl | exact Or.inr rfl | (show (_ : Int) = 0 ∨ _ = 1)) | refine And.intro ?_ ?_ | intro _ | with_reducible exact True.intro | exact rfl | with_reducible exact Or.inl rfl | with_reducible exact Or.inr rfl | exact Nat.le_of_ble_eq_true rfl)
    all_goals (try simp (disch := omega) only [InI, Int.toNat_natCast, Int.tmod_eq_emod_of_nonneg, Int.tdiv_eq_ediv_of_nonneg, true_implies, true_or, or_true, mm_l18, mm_l19, mm_l20, mm_l21, mm_l22] at *)
    all_goals first | omega | exact k50 | skip
  clear t2
  intro k
  induction k with
  | zero =>
    intro p R g x5 hp hg h1 h2 h20 h3 h4
    have hc := pcn_le R
    have hg0 : g = 0 := by omega
    subst hg0
    have k47 := fun x4 => fin R 0 x4 x5 h1 (h2 (by omega)) (h3 rfl).2
    clear fin h2 h20 h3 h4 h1 hq
    obtain ⟨K, hK, hK2⟩ : ∃ K : Nat → mm_K, (∀ t ls st M d u, K t ls st M d u → rr_X1_hangTogether Q t ls st M d u) ∧ (∀ t ls st M d u, rr_X1_hangTogether Q t ls st M d u → K t ls st M d u) := ⟨rr_X1_hangTogether Q, fun _ _ _ _ _ _ h => h, fun _ _ _ _ _ _ h => h⟩
    have k47 := fun x4 => hK2 _ _ _ _ _ _ (k47 x4)
    refine mm_run_at (stop := [14, 47]) (S := K) kkX1_hangTogether 90 ?_ (fun _ _ _ _ _ _ _ h => hK _ _ _ _ _ _ h)
    repeat' (first | with_reducible assumption | ((with_reducible show mm_rv _ _ _ _ _); first | exact True.intro) | ((with_reducible show mm_bool _ _); first | exact True.intro | exact Or.inl rfl | exact Or.inr rfl | (show (_ : Int) = 0 ∨ _ = 1)) | refine And.intro ?_ ?_ | intro _ | with_reducible exact True.intro | exact rfl | with_reducible exact Or.inl rfl | with_reducible exact Or.inr rfl | exact Nat.le_of_ble_eq_true rfl)
    all_goals (try simp (disch := omega) only [InI, Int.toNat_natCast, Int.tmod_eq_emod_of_nonneg, Int.tdiv_eq_ediv_of_nonneg, true_implies, true_or, or_true, mm_l18, mm_l19, mm_l20, mm_l21, mm_l22] at *)
    all_goals first | omega | exact k47 _ | skip
  | succ k ih =>
    intro p R g x5 hp hg h1 h2 h20 h3 h4
    have hc := pcn_le R
    have hR := h1.1
    have kA : g = 0 → ∀ x4, rr_X1_hangTogether Q 47 [some (mm_R 2), some (mm_I S), some (mm_I R), some (mm_I g), x4, x5] [] M d 0 := fun h x4 => fin R g x4 x5 h1 (h2 (h3 h).1) (h3 h).2
    have kB : ∀ r, pasI (M 3) (M 4) n S R n r → r = R → ∀ x5, rr_X1_hangTogether Q 7 [some (mm_R 2), some (mm_I S), some (mm_I r), some (mm_I 0), some (mm_I ((p : Int) + 1)), x5] [] M d 0 := fun r hr h9 x5 => by
      subst h9
      have hsd : seeded (M 3) (M 4) n S r := by
        by_cases hp0 : p = 0
        · exact hr.2.2.2.1 (h20 hp0)
        · exact h2 (by omega)
      exact ih (p + 1) r 0 _ (by omega) (Or.inl rfl) h1 (fun _ => hsd) (fun h => by omega) (fun _ => ⟨by omega, hr.2.2.1⟩) (fun h => by omega)
    have kC : g ≠ 0 → ∀ r, pasI (M 3) (M 4) n S R n r → r ≠ R → ∀ x5, rr_X1_hangTogether Q 7 [some (mm_R 2), some (mm_I S), some (mm_I r), some (mm_I 1), some (mm_I ((p : Int) + 1)), x5] [] M d 0 := fun hg1 r hr h9 x5 => by
      refine ih (p + 1) r 1 _ (by omega) (Or.inr rfl) ⟨hr.1, fun P hP hs c hc => hr.2.2.2.2.1 P hP (fun c hc => h1.2 P hP hs c hc) (fun _ => hs) c hc⟩ (fun _ => ?_) (fun h => by omega) (fun h => by omega) (fun _ => ?_)
      · by_cases hp0 : p = 0
        · exact hr.2.2.2.1 (h20 hp0)
        · intro j hj hf
          have := h2 (by omega) j hj hf
          exact ⟨hr.2.1 _ this.1, hr.2.1 _ this.2⟩
      · have h8 := pcn_lt h1.1 hr.1 hr.2.1 h9
        have h7 := h4 (by omega)
        clear ih fin hq h2 h20 h3 h4 kA kB
        omega
    have hr0 : ∀ r, pasI (M 3) (M 4) (M 2 4).toNat S R (M 2 4).toNat r → pasI (M 3) (M 4) n S R n r ∧ 0 ≤ r ∧ r < 1024 := fun r hr => by
      rw [hn] at hr
      exact ⟨hr, hr.1⟩
    clear fin ih h1 h2 h20 h3 h4 hq hc
    obtain ⟨K, hK, hK2⟩ : ∃ K : Nat → mm_K, (∀ t ls st M d u, K t ls st M d u → rr_X1_hangTogether Q t ls st M d u) ∧ (∀ t ls st M d u, rr_X1_hangTogether Q t ls st M d u → K t ls st M d u) := ⟨rr_X1_hangTogether Q, fun _ _ _ _ _ _ h => h, fun _ _ _ _ _ _ h => h⟩
    have kA := fun h x4 => hK2 _ _ _ _ _ _ (kA h x4)
    have kB := fun r hr h9 x5 => hK2 _ _ _ _ _ _ (kB r hr h9 x5)
    have kC := fun hg1 r hr h9 x5 => hK2 _ _ _ _ _ _ (kC hg1 r hr h9 x5)
    have k28 : g ≠ 0 → ∀ r, pasI (M 3) (M 4) (M 2 4).toNat S R (M 2 4).toNat r → K 28 [some (mm_R 2), some (mm_I S), some (mm_I R), some (mm_I g), some (mm_I p), some (mm_I R)] [mm_I r] M d 0 := fun hg1 r hr => by
      obtain ⟨hp1, hr1⟩ := hr0 r hr
      have kB := fun h9 x5 => kB r hp1 h9 x5
      have kC := fun h9 x5 => kC hg1 r hp1 h9 x5
      clear hr0 kA hp1 hr
      refine hK2 _ _ _ _ _ _ ?_
      refine mm_run_at (stop := [7]) (S := K) kkX1_hangTogether 90 ?_ (fun _ _ _ _ _ _ _ h => hK _ _ _ _ _ _ h)
      repeat' (first | with_reducible assumption | ((with_reducible show mm_rv _ _ _ _ _); first | exact True.intro) | ((with_reducible show mm_bool _ _); first | exact True.intro | exact Or.inl rfl | exact Or.inr rfl | (show (_ : Int) = 0 ∨ _ = 1)) | refine And.intro ?_ ?_ | intro _ | with_reducible exact True.intro | exact rfl | with_reducible exact Or.inl rfl | with_reducible exact Or.inr rfl | exact Nat.le_of_ble_eq_true rfl)
      all_goals (try simp (disch := omega) only [InI, Int.toNat_natCast, Int.tmod_eq_emod_of_nonneg, Int.tdiv_eq_ediv_of_nonneg, true_implies, true_or, or_true, mm_l18, mm_l19, mm_l20, mm_l21, mm_l22] at *)
      all_goals first | omega | exact kB (by omega) _ | exact kC (by omega) _ | skip
    clear kB kC hr0
    refine mm_run_at (stop := [28, 47]) (S := K) kkX1_hangTogether 90 ?_ (fun _ _ _ _ _ _ _ h => hK _ _ _ _ _ _ h)
    repeat' (first | with_reducible assumption | ((with_reducible show mm_rv _ _ _ _ _); first | exact True.intro | exact mm_i2) | with_reducible exact mm_i2 | ((with_reducible show mm_bool _ _); first | exact True.intro | exact Or.inl rfl | exact Or.inr rfl | (show (_ : Int) = 0 ∨ _ = 1)) | refine And.intro ?_ ?_ | intro _ | with_reducible exact True.intro | exact rfl | with_reducible exact Or.inl rfl | with_reducible exact Or.inr rfl | exact Nat.le_of_ble_eq_true rfl)
    all_goals (try simp (disch := omega) only [InI, Int.toNat_natCast, Int.tmod_eq_emod_of_nonneg, Int.tdiv_eq_ediv_of_nonneg, true_implies, true_or, or_true, mm_l18, mm_l19, mm_l20, mm_l21, mm_l22] at *)
    all_goals first | omega | exact kA (by omega) _ | exact k28 (by omega) _ (by assumption) | skip
set_option maxRecDepth 20000 in
theorem rn_X1_hangTogether : mm_RN flX1 ct_X1_hangTogether mm_x0 [] 2 0 6 kdX1_hangTogether sp_X1_hangTogether := by
  intro av M d Q h
  unfold sp_X1_hangTogether at h
  split at h
  · rename_i o S
    obtain ⟨rfl, ht, hS, hq⟩ := h
    have h1 := ht.1
    obtain ⟨n, hn⟩ := Int.eq_ofNat_of_zero_le h1.1
    have k7 := lp_X1_hangTogether (d := d) (Q := Q) ht hS hn (fun r h => hq r (by rw [hn]; exact h)) 11 0 0 1 none (by omega) (Or.inr rfl) ⟨by omega, fun P _ _ c hc => by rw [bt_0] at hc; omega⟩ (fun h => by omega) (fun _ => rfl) (fun h => by omega) (fun _ => (pcn_le 0).1)
    clear hq
    obtain ⟨K, hK, hK2⟩ : ∃ K : Nat → mm_K, (∀ t ls st M d u, K t ls st M d u → rr_X1_hangTogether Q t ls st M d u) ∧ (∀ t ls st M d u, rr_X1_hangTogether Q t ls st M d u → K t ls st M d u) := ⟨rr_X1_hangTogether Q, fun _ _ _ _ _ _ h => h, fun _ _ _ _ _ _ h => h⟩
    refine ⟨Nat.le_of_ble_eq_true rfl, mm_run_at (stop := [7]) (S := K) kkX1_hangTogether 90 ?_ (fun _ _ _ _ _ _ _ h => hK _ _ _ _ _ _ h)⟩
    have k7 := hK2 _ _ _ _ _ _ k7
    repeat' (first | with_reducible assumption | ((with_reducible show mm_rv _ _ _ _ _); first | exact True.intro) | ((with_reducible show mm_bool _ _); first | exact True.intro | exact Or.inl rfl | exact Or.inr rfl | (show (_ : Int) = 0 ∨ _ = 1)) | refine And.intro ?_ ?_ | intro _ | with_reducible exact True.intro | exact rfl | with_reducible exact Or.inl rfl | with_reducible exact Or.inr rfl | exact Nat.le_of_ble_eq_true rfl)
    all_goals (try simp (disch := omega) only [InI, Int.toNat_natCast, Int.tmod_eq_emod_of_nonneg, Int.tdiv_eq_ediv_of_nonneg, true_implies, true_or, or_true, mm_l18, mm_l19, mm_l20, mm_l21, mm_l22] at *)
    all_goals first | omega | exact k7 | skip
  · exact h.elim
theorem me_X1_hangTogether {l : Launch} (hl : l.stackTraces = false) : mm_Met l yX1_hangTogether cX1_hangTogether 6 (some .boolean) [] 7 126 0 sp_X1_hangTogether := mm_mt hl rn_X1_hangTogether ⟨plX1, rfl⟩ kkX1_hangTogether rfl ⟨Nat.le_of_ble_eq_true rfl, Nat.le_of_ble_eq_true rfl⟩ flkX1 (fun _ h => nomatch h) (⟨mm_pe (me_X1_reachedInOnePass hl) mwX1_reachedInOnePass (mm_t2 7 rfl rfl) (Nat.le_of_ble_eq_true rfl) (Nat.le_of_ble_eq_true rfl), mm_pe (me_X1_isIn hl) mwX1_isIn (mm_t2 11 rfl rfl) (Nat.le_of_ble_eq_true rfl) (Nat.le_of_ble_eq_true rfl), trivial⟩) (mm_xe0 _) n9X1

