section
/-! from a START a street leads to a START of the others (Fleury) -/
noncomputable def ind (P : Prop) : Int := @ite Int P (Classical.propDecidable P) 1 0
theorem ind_t {P : Prop} (h : P) : ind P = 1 := @if_pos P (Classical.propDecidable P) h Int 1 0
theorem ind_f {P : Prop} (h : ¬ P) : ind P = 0 := @if_neg P (Classical.propDecidable P) h Int 1 0
theorem ind_01 (P : Prop) : (P ∧ ind P = 1) ∨ (¬ P ∧ ind P = 0) := by
  rcases Classical.em P with h | h
  · exact Or.inl ⟨h, ind_t h⟩
  · exact Or.inr ⟨h, ind_f h⟩
theorem ind_iff {P R : Prop} (h : P ↔ R) : ind P = ind R := by
  rcases ind_01 P with ⟨a, b⟩ | ⟨a, b⟩ <;> rcases ind_01 R with ⟨c, d⟩ | ⟨c, d⟩
  · rw [b, d]
  · exact absurd (h.mp a) c
  · exact absurd (h.mpr c) a
  · rw [b, d]
def sm (g : Nat → Int) : Nat → Int
  | 0 => 0
  | m + 1 => sm g m + g m
theorem sm_add (g h : Nat → Int) : ∀ m, sm (fun v => g v + h v) m = sm g m + sm h m
  | 0 => rfl
  | m + 1 => by
    simp only [sm, sm_add g h m]
    omega
theorem sm_congr {g h : Nat → Int} : ∀ m, (∀ v, v < m → g v = h v) → sm g m = sm h m
  | 0, _ => rfl
  | m + 1, e => by
    simp only [sm]
    rw [sm_congr m (fun v hv => e v (by omega)), e m (by omega)]
theorem sm_none {a : Nat} {x : Int} : ∀ m, m ≤ a → sm (fun v => if v = a then x else 0) m = 0
  | 0, _ => rfl
  | m + 1, h => by
    simp only [sm]
    rw [sm_none m (by omega), if_neg (by omega)]
    rfl
theorem sm_one {a : Nat} {x : Int} : ∀ m, a < m → sm (fun v => if v = a then x else 0) m = x
  | 0, h => by omega
  | m + 1, h => by
    simp only [sm]
    by_cases e : a = m
    · rw [sm_none m (by omega), if_pos e.symm]
      omega
    · rw [sm_one m (by omega), if_neg (by omega)]
      omega
theorem sm_dbl (g : Nat → Int) : ∀ m, sm (fun v => 2 * g v) m = 2 * sm g m
  | 0 => rfl
  | m + 1 => by
    simp only [sm, sm_dbl g m]
    omega
theorem sm_nn {g : Nat → Int} : ∀ m, (∀ v, v < m → 0 ≤ g v) → 0 ≤ sm g m
  | 0, _ => Int.le_refl _
  | m + 1, h => by
    have := sm_nn m (fun v hv => h v (by omega))
    have := h m (by omega)
    simp only [sm]
    omega
theorem sm_all0 {g : Nat → Int} : ∀ m, (∀ v, v < m → 0 ≤ g v) → sm g m = 0 → ∀ v, v < m → g v = 0
  | 0, _, _ => fun v hv => by omega
  | m + 1, h, e => fun v hv => by
    have h1 := sm_nn m (fun v hv => h v (by omega))
    have h2 := h m (by omega)
    simp only [sm] at e
    by_cases e2 : v = m
    · rw [e2]
      omega
    · exact sm_all0 m (fun v hv => h v (by omega)) (by omega) v (by omega)
theorem sm_ex1 {g : Nat → Int} : ∀ m, (∀ v, v < m → g v = 0 ∨ g v = 1) → sm g m = 1 → ∃ z, z < m ∧ g z = 1 ∧ ∀ v, v < m → v ≠ z → g v = 0
  | 0, _, e => by simp [sm] at e
  | m + 1, h, e => by
    have hm := h m (by omega)
    have h0 : ∀ v, v < m → 0 ≤ g v := fun v hv => by have := h v (by omega); omega
    simp only [sm] at e
    rcases hm with hm | hm
    · obtain ⟨z, a, b, c⟩ := sm_ex1 m (fun v hv => h v (by omega)) (by omega)
      refine ⟨z, by omega, b, fun v hv hz => ?_⟩
      by_cases e2 : v = m
      · rw [e2]; exact hm
      · exact c v (by omega) hz
    · have := sm_all0 m h0 (by omega)
      exact ⟨m, by omega, hm, fun v hv hz => this v (by omega)⟩
theorem sm_ex2 {g : Nat → Int} {m a : Nat} (h : ∀ v, v < m → g v = 0 ∨ g v = 1) (e : sm g m = 2) (ha : a < m) (h1 : g a = 1) : ∃ z, z < m ∧ z ≠ a ∧ g z = 1 ∧ ∀ v, v < m → v ≠ a → v ≠ z → g v = 0 := by
  have e1 : sm g m = sm (fun v => if v = a then 0 else g v) m + sm (fun v => if v = a then 1 else 0) m := by
    rw [← sm_add]
    refine sm_congr m (fun v _ => ?_)
    by_cases e : v = a
    · rw [if_pos e, if_pos e, e, h1]; rfl
    · rw [if_neg e, if_neg e]; omega
  rw [sm_one m ha] at e1
  obtain ⟨z, z1, z2, z3⟩ := sm_ex1 (g := fun v => if v = a then 0 else g v) m (fun v hv => by
    by_cases e : v = a
    · exact Or.inl (if_pos e)
    · have := h v hv
      show (if v = a then 0 else g v) = 0 ∨ (if v = a then 0 else g v) = 1
      rw [if_neg e]
      exact this) (by omega)
  have hza : z ≠ a := fun e => by
    rw [if_pos e] at z2
    omega
  rw [if_neg hza] at z2
  refine ⟨z, z1, hza, z2, fun v hv hva hvz => ?_⟩
  have := z3 v hv hvz
  rw [if_neg hva] at this
  exact this
/-- how many ends at corners with a property -/
noncomputable def tot (F : Nat → Int) (S : Int) (P : Int → Prop) : Nat → Int
  | 0 => 0
  | k + 1 => tot F S P k + ind (P (F k)) * bt S k
theorem oc_tot {F : Nat → Int} {S : Int} {P : Int → Prop} : ∀ n, (∀ k, k < n → 0 ≤ F k ∧ F k < 10) → sm (fun v => ind (P (v : Int)) * oc F S v n) 10 = tot F S P n
  | 0, _ => by
    rw [sm_congr (h := fun _ => 0) 10 (fun v _ => by simp [oc])]
    rfl
  | n + 1, h => by
    have ih := oc_tot (P := P) (S := S) n (fun k hk => h k (by omega))
    obtain ⟨a, ha⟩ := Int.eq_ofNat_of_zero_le (h n (by omega)).1
    have ha2 := (h n (by omega)).2
    have e : sm (fun v => ind (P (v : Int)) * oc F S v (n + 1)) 10 = sm (fun v => ind (P (v : Int)) * oc F S v n) 10 + sm (fun v => if v = a then ind (P (F n)) * bt S n else 0) 10 := by
      rw [← sm_add]
      refine sm_congr 10 (fun v _ => ?_)
      simp only [oc]
      rw [Int.mul_add]
      by_cases e : v = a
      · rw [if_pos e, if_pos (by rw [ha, e]), e, ha]
      · rw [if_neg e, if_neg (by rw [ha]; omega), Int.mul_zero]
    rw [e, ih, sm_one 10 (by omega)]
    rfl
theorem tot_cl {F T : Nat → Int} {S : Int} {P : Int → Prop} : ∀ n, (∀ k, k < n → bt S k = 1 → (P (F k) ↔ P (T k))) → tot F S P n = tot T S P n
  | 0, _ => rfl
  | n + 1, h => by
    simp only [tot]
    rw [tot_cl n (fun k hk => h k (by omega))]
    rcases bt_01 S n with e | e
    · rw [e, Int.mul_zero, Int.mul_zero]
    · rw [ind_iff (h n (by omega) e)]
theorem odn_sm {F T : Nat → Int} {n : Nat} {ow S : Int} : ∀ m, odn F T n ow S m = sm (fun c => if ow = 0 then (oc F S c n + oc T S c n) % 2 else if oc F S c n = oc T S c n then 0 else 1) m
  | 0 => rfl
  | m + 1 => by
    simp only [odn, sm, odn_sm m]
theorem oc_pos {F : Nat → Int} {S c : Int} : ∀ n, 0 < oc F S c n → ∃ k, k < n ∧ F k = c ∧ bt S k = 1
  | 0, h => by simp [oc] at h
  | n + 1, h => by
    simp only [oc] at h
    by_cases e : F n = c ∧ bt S n = 1
    · exact ⟨n, by omega, e⟩
    · have h2 : 0 < oc F S c n := by
        by_cases e1 : F n = c
        · rw [if_pos e1] at h
          rcases bt_01 S n with b | b
          · omega
          · exact absurd ⟨e1, b⟩ e
        · rw [if_neg e1] at h
          omega
      obtain ⟨k, a, b⟩ := oc_pos n h2
      exact ⟨k, by omega, b⟩
theorem oc_two {F : Nat → Int} {S c : Int} : ∀ n k, k < n → F k = c → bt S k = 1 → (∀ j, j < n → F j = c → bt S j = 1 → j = k) → oc F S c n = 1
  | 0, k, h, _, _, _ => by omega
  | n + 1, k, h, h1, h2, h3 => by
    simp only [oc]
    by_cases e : k = n
    · subst e
      rw [if_pos h1, h2]
      have h0 := oc_le F S c k
      have : ¬ 0 < oc F S c k := fun hp => by
        obtain ⟨j, a, b, d⟩ := oc_pos k hp
        have := h3 j (by omega) b d
        omega
      omega
    · have ih := oc_two n k (by omega) h1 h2 (fun j hj a b => h3 j (by omega) a b)
      by_cases e1 : F n = c
      · rw [if_pos e1]
        rcases bt_01 S n with b | b
        · omega
        · exact absurd (h3 n (by omega) e1 b).symm e
      · rw [if_neg e1]
        omega
theorem oc_ge {F : Nat → Int} {S c : Int} : ∀ n k, k < n → F k = c → bt S k = 1 → 0 < oc F S c n
  | 0, k, h, _, _ => by omega
  | n + 1, k, h, h1, h2 => by
    have h0 := oc_le F S c n
    have hb := bt_01 S n
    simp only [oc]
    by_cases e : k = n
    · subst e
      rw [if_pos h1, h2]
      omega
    · have := oc_ge n k (by omega) h1 h2
      split <;> omega
/-- one street less -/
theorem oc_less {F : Nat → Int} {S S' c : Int} {e : Nat} : ∀ n, (∀ k, k < n → bt S' k = if k = e then 0 else bt S k) → bt S e = 1 → oc F S' c n = oc F S c n - (if e < n ∧ F e = c then 1 else 0)
  | 0, _, _ => by simp [oc]
  | n + 1, h, h1 => by
    have ih := oc_less (F := F) (c := c) n (fun k hk => h k (by omega)) h1
    simp only [oc]
    rw [ih, h n (by omega)]
    by_cases e2 : n = e
    · subst e2
      rw [if_neg (show ¬ (n < n ∧ F n = c) by omega), if_pos rfl]
      by_cases e3 : F n = c
      · rw [if_pos e3, if_pos e3, if_pos ⟨by omega, e3⟩, h1]
        omega
      · rw [if_neg e3, if_neg e3, if_neg (fun h => e3 h.2)]
        omega
    · rw [if_neg e2]
      by_cases e4 : e < n ∧ F e = c
      · rw [if_pos e4, if_pos (show e < n + 1 ∧ F e = c from ⟨by omega, e4.2⟩)]
        omega
      · rw [if_neg e4, if_neg (show ¬ (e < n + 1 ∧ F e = c) from fun h => e4 ⟨by omega, h.2⟩)]
        omega
/-- the corners' balance: one corner where a walk begins, one where it ends -/
def zf (F T : Nat → Int) (n : Nat) (ow S : Int) (c z : Nat) : Prop := ∀ v : Nat, v < 10 → (ow = 0 → (oc F S v n + oc T S v n) % 2 = ((if v = c then 1 else 0) + (if v = z then 1 else 0)) % 2) ∧ (ow ≠ 0 → oc F S v n = oc T S v n + (if v = c then 1 else 0) - (if v = z then 1 else 0))
theorem st_zf {F T : Nat → Int} {n c : Nat} {ow S : Int} (hF : ∀ k, k < n → 0 ≤ F k ∧ F k < 10) (hT : ∀ k, k < n → 0 ≤ T k ∧ T k < 10) (hc : c < 10) (h : (odn F T n ow S 10 = 0 ∧ 0 < oc F S c n + oc T S c n) ∨ (odn F T n ow S 10 = 2 ∧ ((ow = 0 ∧ (oc F S c n + oc T S c n) % 2 = 1) ∨ (ow ≠ 0 ∧ oc F S c n = oc T S c n + 1)))) : ∃ z, z < 10 ∧ zf F T n ow S c z := by
  rw [odn_sm] at h
  have h01 : ∀ v : Nat, v < 10 → (if ow = 0 then (oc F S v n + oc T S v n) % 2 else if oc F S v n = oc T S v n then 0 else 1) = 0 ∨ (if ow = 0 then (oc F S v n + oc T S v n) % 2 else if oc F S v n = oc T S v n then 0 else 1) = 1 := fun v _ => by
    split
    · omega
    · split <;> omega
  rcases h with ⟨h1, h2⟩ | ⟨h1, h2⟩
  · have h3 := sm_all0 10 (fun v hv => by have := h01 v hv; omega) h1
    refine ⟨c, hc, fun v hv => ⟨fun e => ?_, fun e => ?_⟩⟩
    · have := h3 v hv
      rw [if_pos e] at this
      rw [this]
      split <;> rfl
    · have := h3 v hv
      rw [if_neg e] at this
      split at this <;> omega
  · have hc1 : (if ow = 0 then (oc F S c n + oc T S c n) % 2 else if oc F S c n = oc T S c n then 0 else 1) = 1 := by
      rcases h2 with ⟨a, b⟩ | ⟨a, b⟩
      · rw [if_pos a]; exact b
      · rw [if_neg a, if_neg (by omega)]
    obtain ⟨z, z1, z2, z3, z4⟩ := sm_ex2 h01 h1 hc hc1
    refine ⟨z, z1, fun v hv => ⟨fun e => ?_, fun e => ?_⟩⟩
    · by_cases e1 : v = c
      · rw [if_pos e] at hc1
        rw [e1, if_pos rfl, if_neg (fun e => z2 e.symm)]
        exact hc1
      · by_cases e2 : v = z
        · rw [if_pos e] at z3
          rw [e2, if_neg z2, if_pos rfl]
          exact z3
        · have := z4 v hv e1 e2
          rw [if_pos e] at this
          rw [if_neg e1, if_neg e2]
          exact this
    · have hcc : oc F S c n = oc T S c n + 1 := by
        rcases h2 with ⟨a, _⟩ | ⟨_, b⟩
        · exact absurd a e
        · exact b
      have h0 : ∀ v : Nat, v < 10 → v ≠ c → v ≠ z → oc F S v n = oc T S v n := fun v hv a b => by
        have := z4 v hv a b
        rw [if_neg e] at this
        split at this <;> omega
      have a1 := oc_tot (F := F) (S := S) (P := fun _ => True) n hF
      have a2 := oc_tot (F := T) (S := S) (P := fun _ => True) n hT
      have a3 := tot_cl (F := F) (T := T) (S := S) (P := fun _ => True) n (fun _ _ _ => Iff.rfl)
      have hs : sm (fun v => ind True * oc F S v n) 10 = sm (fun v => ind True * oc T S v n) 10 + (sm (fun v => if v = c then 1 else 0) 10 + sm (fun v => if v = z then (oc F S z n - oc T S z n) else 0) 10) := by
        rw [← sm_add, ← sm_add]
        refine sm_congr 10 (fun v hv => ?_)
        rw [ind_t trivial]
        by_cases e1 : v = c
        · rw [e1, if_pos rfl, if_neg (fun e => z2 e.symm)]
          omega
        · by_cases e2 : v = z
          · rw [e2, if_neg z2, if_pos rfl]
            omega
          · rw [if_neg e1, if_neg e2]
            have := h0 v hv e1 e2
            omega
      rw [sm_one 10 hc, sm_one 10 z1] at hs
      have hz : oc F S z n = oc T S z n - 1 := by omega
      by_cases e1 : v = c
      · rw [e1, if_pos rfl, if_neg (fun e => z2 e.symm)]
        omega
      · by_cases e2 : v = z
        · rw [e2, if_neg z2, if_pos rfl]
          omega
        · rw [if_neg e1, if_neg e2]
          have := h0 v hv e1 e2
          omega
theorem zf_st {F T : Nat → Int} {n g z : Nat} {ow S : Int} (hg : g < 10) (hz : z < 10) (h : zf F T n ow S g z) (ht : g = z → 0 < oc F S g n + oc T S g n) : (odn F T n ow S 10 = 0 ∧ 0 < oc F S g n + oc T S g n) ∨ (odn F T n ow S 10 = 2 ∧ ((ow = 0 ∧ (oc F S g n + oc T S g n) % 2 = 1) ∨ (ow ≠ 0 ∧ oc F S g n = oc T S g n + 1))) := by
  rw [odn_sm]
  by_cases e : g = z
  · left
    refine ⟨?_, ht e⟩
    rw [sm_congr (h := fun _ => 0) 10 (fun v hv => ?_)]
    · rfl
    · have := h v hv
      by_cases e0 : ow = 0
      · rw [if_pos e0, this.1 e0, e]
        split <;> rfl
      · have := this.2 e0
        rw [e] at this
        rw [if_neg e0, if_pos (by split at this <;> omega)]
  · right
    refine ⟨?_, ?_⟩
    · rw [sm_congr (h := fun v => (if v = g then 1 else 0) + (if v = z then 1 else 0)) 10 (fun v hv => ?_)]
      · rw [sm_add, sm_one 10 hg, sm_one 10 hz]
        rfl
      · have := h v hv
        by_cases e0 : ow = 0
        · rw [if_pos e0, this.1 e0]
          by_cases e1 : v = g
          · rw [if_pos e1, if_neg (by omega)]; rfl
          · rw [if_neg e1]
            split <;> rfl
        · have := this.2 e0
          rw [if_neg e0]
          by_cases e1 : v = g
          · rw [if_pos e1, if_neg (show ¬ v = z by omega)] at this ⊢
            rw [if_neg (by omega)]; rfl
          · rw [if_neg e1] at this ⊢
            by_cases e2 : v = z
            · rw [if_pos e2] at this ⊢
              rw [if_neg (by omega)]; rfl
            · rw [if_neg e2] at this ⊢
              rw [if_pos (by omega)]; rfl
    · have := h g hg
      by_cases e0 : ow = 0
      · left
        refine ⟨e0, ?_⟩
        rw [this.1 e0, if_pos rfl, if_neg e]
        rfl
      · right
        refine ⟨e0, ?_⟩
        have := this.2 e0
        rw [if_pos rfl, if_neg e] at this
        omega
/-- reached from g by the streets of S -/
def rch (F T : Nat → Int) (n : Nat) (S g v : Int) : Prop := ∀ P : Int → Prop, (∀ k, k < n → bt S k = 1 → (P (F k) ↔ P (T k))) → P g → P v
theorem rch_g {F T : Nat → Int} {n : Nat} {S g : Int} : rch F T n S g g := fun _ _ h => h
theorem rch_cl {F T : Nat → Int} {n : Nat} {S g : Int} : ∀ k, k < n → bt S k = 1 → (rch F T n S g (F k) ↔ rch F T n S g (T k)) := fun k hk hb => ⟨fun h P hP hg => (hP k hk hb).mp (h P hP hg), fun h P hP hg => (hP k hk hb).mpr (h P hP hg)⟩
/-- what is reached holds the walk's end -/
theorem rch_z {F T : Nat → Int} {n g z : Nat} {ow S : Int} (hF : ∀ k, k < n → 0 ≤ F k ∧ F k < 10) (hT : ∀ k, k < n → 0 ≤ T k ∧ T k < 10) (hg : g < 10) (hz : z < 10) (h : zf F T n ow S g z) : rch F T n S g z := by
  have a1 := oc_tot (F := F) (S := S) (P := rch F T n S g) n hF
  have a2 := oc_tot (F := T) (S := S) (P := rch F T n S g) n hT
  have a3 := tot_cl (F := F) (T := T) (S := S) (P := rch F T n S g) n rch_cl
  have ig : ind (rch F T n S g g) = 1 := ind_t rch_g
  by_cases e0 : ow = 0
  · have hs : sm (fun v => ind (rch F T n S g v) * oc F S v n) 10 + sm (fun v => ind (rch F T n S g v) * oc T S v n) 10 = (sm (fun v => if v = g then ind (rch F T n S g g) else 0) 10 + sm (fun v => if v = z then ind (rch F T n S g z) else 0) 10) + sm (fun v => 2 * (ind (rch F T n S g v) * ((oc F S v n + oc T S v n - (if v = g then 1 else 0) - (if v = z then 1 else 0)) / 2))) 10 := by
      rw [← sm_add, ← sm_add, ← sm_add]
      refine sm_congr 10 (fun v hv => ?_)
      have hp := (h v hv).1 e0
      have e1 : (if v = g then ind (rch F T n S g g) else 0) = ind (rch F T n S g v) * (if v = g then 1 else 0) := by
        by_cases e : v = g
        · rw [if_pos e, if_pos e, e]; omega
        · rw [if_neg e, if_neg e]; omega
      have e2 : (if v = z then ind (rch F T n S g z) else 0) = ind (rch F T n S g v) * (if v = z then 1 else 0) := by
        by_cases e : v = z
        · rw [if_pos e, if_pos e, e]; omega
        · rw [if_neg e, if_neg e]; omega
      rw [e1, e2]
      rcases ind_01 (rch F T n S g v) with ⟨_, e⟩ | ⟨_, e⟩
      · rw [e]
        split <;> split <;> rename_i q1 q2 <;> simp only [q1, q2, if_true, if_false] at hp ⊢ <;> omega
      · rw [e]
        omega
    rw [sm_one 10 hg, sm_one 10 hz, ig, sm_dbl] at hs
    rcases ind_01 (rch F T n S g z) with ⟨hr, e⟩ | ⟨hr, e⟩
    · exact hr
    · rw [e, a1, a2, a3] at hs
      omega
  · have hs : sm (fun v => ind (rch F T n S g v) * oc F S v n) 10 + sm (fun v => if v = z then ind (rch F T n S g z) else 0) 10 = sm (fun v => ind (rch F T n S g v) * oc T S v n) 10 + sm (fun v => if v = g then ind (rch F T n S g g) else 0) 10 := by
      rw [← sm_add, ← sm_add]
      refine sm_congr 10 (fun v hv => ?_)
      have hp := (h v hv).2 e0
      have e1 : (if v = g then ind (rch F T n S g g) else 0) = ind (rch F T n S g v) * (if v = g then 1 else 0) := by
        by_cases e : v = g
        · rw [if_pos e, if_pos e, e]; omega
        · rw [if_neg e, if_neg e]; omega
      have e2 : (if v = z then ind (rch F T n S g z) else 0) = ind (rch F T n S g v) * (if v = z then 1 else 0) := by
        by_cases e : v = z
        · rw [if_pos e, if_pos e, e]; omega
        · rw [if_neg e, if_neg e]; omega
      rw [e1, e2]
      rcases ind_01 (rch F T n S g v) with ⟨_, e⟩ | ⟨_, e⟩
      · rw [e]
        omega
      · rw [e]
        omega
    rw [sm_one 10 hg, sm_one 10 hz, ig, a1, a2, a3] at hs
    rcases ind_01 (rch F T n S g z) with ⟨hr, e⟩ | ⟨hr, e⟩
    · exact hr
    · rw [e] at hs
      omega
/-- where a street that is left by corner c leads -/
def gof (F T : Nat → Int) (c : Int) (e : Nat) : Int := if F e = c then T e else F e
def lvs (F T : Nat → Int) (ow c : Int) (e : Nat) : Prop := F e = c ∨ (ow = 0 ∧ T e = c)
theorem gof_e {F T : Nat → Int} {ow c : Int} {e : Nat} (h : lvs F T ow c e) : (F e = c ∧ T e = gof F T c e) ∨ (F e = gof F T c e ∧ T e = c) := by
  unfold gof
  by_cases e1 : F e = c
  · rw [if_pos e1]
    exact Or.inl ⟨e1, rfl⟩
  · rw [if_neg e1]
    exact Or.inr ⟨rfl, (h.resolve_left e1).2⟩
/-- one street less, in the balance -/
theorem zf_less {F T : Nat → Int} {n c z g e : Nat} {ow S S' : Int} (he : e < n) (hb : bt S e = 1) (hS : ∀ k, k < n → bt S' k = if k = e then 0 else bt S k) (hl : lvs F T ow c e) (hg : gof F T c e = g) (h : zf F T n ow S c z) : zf F T n ow S' g z := by
  intro v hv
  have h1 := oc_less (F := F) (c := v) n hS hb
  have h2 := oc_less (F := T) (c := v) n hS hb
  have hv2 := h v hv
  rw [h1, h2]
  have iz : ∀ x : Nat, (if e < n ∧ (x : Int) = (v : Int) then (1 : Int) else 0) = if v = x then 1 else 0 := fun x => by
    by_cases q : v = x
    · rw [if_pos q, if_pos ⟨he, by omega⟩]
    · rw [if_neg q, if_neg (fun h => q (by omega))]
  have h3 := hv2.1
  have h4 := hv2.2
  clear hv2 h1 h2
  rcases gof_e hl with ⟨a, b⟩ | ⟨a, b⟩
  · rw [a, b, hg, iz, iz]
    generalize (if v = c then (1 : Int) else 0) = A at *
    generalize (if v = g then (1 : Int) else 0) = B at *
    generalize (if v = z then (1 : Int) else 0) = C at *
    exact ⟨fun e0 => by have := h3 e0; omega, fun e0 => by have := h4 e0; omega⟩
  · rw [a, b, hg, iz, iz]
    rcases hl with hl | hl
    · have hgc : (g : Int) = c := by rw [← hg, ← a]; exact hl
      have hgc2 : g = c := by omega
      subst hgc2
      generalize (if v = g then (1 : Int) else 0) = B at *
      generalize (if v = z then (1 : Int) else 0) = C at *
      exact ⟨fun e0 => by have := h3 e0; omega, fun e0 => by have := h4 e0; omega⟩
    · generalize (if v = c then (1 : Int) else 0) = A at *
      generalize (if v = g then (1 : Int) else 0) = B at *
      generalize (if v = z then (1 : Int) else 0) = C at *
      exact ⟨fun e0 => by have := h3 e0; omega, fun e0 => absurd hl.1 e0⟩
/-- all others are reached behind it: they are a START's -/
theorem good_st {F T : Nat → Int} {n g z : Nat} {ow S : Int} (hg : g < 10) (hz : z < 10) (hn : ∀ k, bt S k = 1 → k < n) (h0 : 0 ≤ S) (h : zf F T n ow S g z) (hr : ∀ k, k < n → bt S k = 1 → rch F T n S g (F k)) : ST F T n ow S g := by
  by_cases e : S = 0
  · exact Or.inl e
  · obtain ⟨k, hk⟩ : ∃ k, bt S k = 1 := Classical.byContradiction fun h2 => e (bt_ext2 h0 (Int.le_refl _) (fun k => ⟨fun h3 => absurd ⟨k, h3⟩ h2, fun h3 => by rw [bt_0] at h3; omega⟩))
    have hkn := hn k hk
    refine Or.inr ⟨fun P hP ⟨k0, a, b, c⟩ j hj hjb => ?_, zf_st hg hz h (fun _ => ?_)⟩
    · rcases Classical.em (P g) with hPg | hPg
      · exact hr j hj hjb P hP hPg
      · have := hr k0 a b (fun v => ¬ P v) (fun k hk hkb => by rw [hP k hk hkb]) hPg
        exact absurd c this
    · have o1 := oc_le F S g n
      have o2 := oc_le T S g n
      refine Classical.byContradiction fun h2 => ?_
      have h3 : ∀ j, j < n → bt S j = 1 → F j ≠ g ∧ T j ≠ g := fun j hj hjb => ⟨fun h4 => by have := oc_ge (F := F) n j hj h4 hjb; omega, fun h4 => by have := oc_ge (F := T) n j hj h4 hjb; omega⟩
      exact (h3 k hkn hk).1 (hr k hkn hk (fun v => v = g) (fun j hj hjb => ⟨fun h4 => absurd h4 (h3 j hj hjb).1, fun h4 => absurd h4 (h3 j hj hjb).2⟩) rfl)
theorem fleury {F T : Nat → Int} {n : Nat} {ow S c : Int} (hF : ∀ k, k < n → 0 ≤ F k ∧ F k < 10) (hT : ∀ k, k < n → 0 ≤ T k ∧ T k < 10) (hS : 0 ≤ S ∧ S < 1073741824) (h30 : n ≤ 30) (hn : ∀ k, bt S k = 1 → k < n) (h0 : S ≠ 0) (h : ST F T n ow S c) : ∃ e, e < n ∧ bt S e = 1 ∧ lvs F T ow c e ∧ ST F T n ow (clr S e) (gof F T c e) := by
  obtain ⟨hG, hST⟩ := h.resolve_left h0
  have o1 := oc_le F S c n
  have o2 := oc_le T S c n

  obtain ⟨e0, l1, l2, l3⟩ : ∃ e, e < n ∧ bt S e = 1 ∧ lvs F T ow c e := by
    by_cases eo : ow = 0
    · have hp : 0 < oc F S c n + oc T S c n := by rcases hST with a | ⟨_, a | a⟩ <;> omega
      by_cases hp2 : 0 < oc F S c n
      · obtain ⟨k, a, b, d⟩ := oc_pos n hp2
        exact ⟨k, a, d, Or.inl b⟩
      · obtain ⟨k, a, b, d⟩ := oc_pos (F := T) (S := S) (c := c) n (by omega)
        exact ⟨k, a, d, Or.inr ⟨eo, b⟩⟩
    · have hp : 0 < oc F S c n := by
        rcases hST with ⟨a, b⟩ | ⟨_, a | a⟩
        · refine Classical.byContradiction fun h2 => ?_
          obtain ⟨k, a1, b1, d1⟩ := oc_pos (F := T) (S := S) (c := c) n (by omega)
          obtain ⟨x, hx⟩ := Int.eq_ofNat_of_zero_le (hT k a1).1
          have hx2 := (hT k a1).2
          rw [odn_sm] at a
          have := sm_all0 10 (fun v hv => by rw [if_neg eo]; split <;> omega) a x (by omega)
          rw [if_neg eo, ← hx, b1] at this
          split at this <;> omega
        · omega
        · omega
      obtain ⟨k, a, b, d⟩ := oc_pos n hp
      exact ⟨k, a, d, Or.inl b⟩
  obtain ⟨cn, hcn, hc10⟩ : ∃ cn : Nat, c = cn ∧ cn < 10 := by
    have hc : 0 ≤ c ∧ c < 10 := by
      rcases l3 with a | ⟨_, a⟩
      · rw [← a]; exact hF e0 l1
      · rw [← a]; exact hT e0 l1
    exact ⟨c.toNat, by omega, by omega⟩
  subst hcn
  obtain ⟨z, hz, hzf⟩ := st_zf hF hT hc10 hST
  have hbit : ∀ e, e < n → ∀ k, k < n → bt (clr S e) k = if k = e then 0 else bt S k := fun e he k hk => (clr_spec hS (s := e) (by omega)).2 k (by omega)
  have hnn : ∀ e, e < n → ∀ k, bt (clr S e) k = 1 → k < n := fun e he k hk => by
    have hs := clr_spec hS (s := e) (by omega)
    by_cases h32 : k < 32
    · have := hs.2 k h32
      rw [hk] at this
      by_cases e2 : k = e
      · omega
      · rw [if_neg e2] at this
        exact hn k this.symm
    · have := bt_hi30 hs.1 (k := k) (by omega)
      omega
  have hgb : ∀ e, e < n → ∃ g : Nat, gof F T cn e = g ∧ g < 10 := fun e he => by
    have h1 := hF e he
    have h2 := hT e he
    refine ⟨(gof F T cn e).toNat, ?_, ?_⟩ <;> (unfold gof; split <;> omega)
  have hcl : ∀ e, e < n → (clr S e) ≥ 0 := fun e he => (clr_spec hS (s := e) (by omega)).1.1
  have fin : ∀ e, e < n → bt S e = 1 → lvs F T ow cn e → (∀ k, k < n → bt (clr S e) k = 1 → rch F T n (clr S e) (gof F T cn e) (F k)) → ∃ e, e < n ∧ bt S e = 1 ∧ lvs F T ow cn e ∧ ST F T n ow (clr S e) (gof F T cn e) := fun e he hb hl hr => by
    obtain ⟨g, hg, hg10⟩ := hgb e he
    refine ⟨e, he, hb, hl, ?_⟩
    rw [hg] at hr ⊢
    exact good_st hg10 hz (hnn e he) (hcl e he) (zf_less he hb (hbit e he) hl hg hzf) hr
  by_cases hex : ∃ e, e < n ∧ bt S e = 1 ∧ lvs F T ow cn e ∧ rch F T n (clr S e) (gof F T cn e) cn
  · obtain ⟨e, he, hb, hl, hr⟩ := hex
    refine fin e he hb hl (fun k hk hkb => ?_)
    have hkk := hbit e he k hk
    rw [hkb] at hkk
    have hke : k ≠ e := fun h2 => by rw [if_pos h2] at hkk; omega
    rw [if_neg hke] at hkk
    refine hG (rch F T n (clr S e) (gof F T cn e)) (fun j hj hjb => ?_) ⟨e, he, hb, ?_⟩ k hk hkk.symm
    · by_cases hje : j = e
      · subst hje
        rcases gof_e hl with ⟨a, b⟩ | ⟨a, b⟩
        · rw [a, b]
          exact ⟨fun _ => rch_g, fun _ => hr⟩
        · rw [a, b]
          exact ⟨fun _ => hr, fun _ => rch_g⟩
      · exact rch_cl j hj (by rw [hbit e he j hj, if_neg hje]; exact hjb)
    · rcases gof_e hl with ⟨a, b⟩ | ⟨a, b⟩
      · rw [a]; exact hr
      · rw [a]; exact rch_g
  · have hno : ∀ e, e < n → bt S e = 1 → lvs F T ow cn e → ¬ rch F T n (clr S e) (gof F T cn e) cn := fun e he hb hl hr => hex ⟨e, he, hb, hl, hr⟩
    have hzr : ∀ e, e < n → bt S e = 1 → lvs F T ow cn e → rch F T n (clr S e) (gof F T cn e) z := fun e he hb hl => by
      obtain ⟨g, hg, hg10⟩ := hgb e he
      have := zf_less he hb (hbit e he) hl hg hzf
      rw [hg]
      exact rch_z hF hT hg10 hz this
    have hzc : z ≠ cn := fun h2 => hno e0 l1 l2 l3 (by have h3 := hzr e0 l1 l2 l3; rw [h2] at h3; exact h3)
    have huni : ∀ e, e < n → bt S e = 1 → lvs F T ow cn e → e = e0 := fun e he hb hl => Classical.byContradiction fun hne => by

      refine hno e0 l1 l2 l3 (fun P hP hg2 => ?_)
      have hPz : P z := hzr e0 l1 l2 l3 P hP hg2
      have hPg1 : P (gof F T cn e) := Classical.byContradiction fun hn1 => by
        have := hzr e he hb hl (fun v => rch F T n (clr S e) (gof F T cn e) v ∧ ¬ P v) (fun k hk hkb => ?_) ⟨rch_g, hn1⟩
        · exact this.2 hPz
        · have hkk := hbit e he k hk
          rw [hkb] at hkk
          have hke : k ≠ e := fun h2 => by rw [if_pos h2] at hkk; omega
          rw [if_neg hke] at hkk
          have hrc := rch_cl (F := F) (T := T) (n := n) (S := clr S e) (g := gof F T cn e) k hk hkb
          by_cases hk0 : k = e0
          · subst hk0
            have hnc := hno e he hb hl
            rcases gof_e l3 with ⟨a, b⟩ | ⟨a, b⟩
            · rw [a] at hrc ⊢
              exact ⟨fun h3 => absurd h3.1 hnc, fun h3 => absurd (hrc.mpr h3.1) hnc⟩
            · rw [b] at hrc ⊢
              exact ⟨fun h3 => absurd (hrc.mp h3.1) hnc, fun h3 => absurd h3.1 hnc⟩
          · rw [hrc, hP k hk (by rw [hbit e0 l1 k hk, if_neg hk0]; exact hkk.symm)]
      have hPe := hP e he (by rw [hbit e0 l1 e he, if_neg hne]; exact hb)
      rcases gof_e hl with ⟨a, b⟩ | ⟨a, b⟩
      · rw [a, b] at hPe
        exact hPe.mpr hPg1
      · rw [a, b] at hPe
        exact hPe.mp hPg1

    have htouch : ∀ k, k < n → bt S k = 1 → k ≠ e0 → F k ≠ cn ∧ T k ≠ cn := fun k hk hkb hke => by
      refine ⟨fun h2 => hke (huni k hk hkb (Or.inl h2)), fun h2 => ?_⟩
      by_cases eo : ow = 0
      · exact hke (huni k hk hkb (Or.inr ⟨eo, h2⟩))
      · have hd := (hzf cn hc10).2 eo
        rw [if_pos rfl, if_neg (fun e => hzc e.symm)] at hd
        have hone := oc_two (F := F) (S := S) (c := cn) n e0 l1 (l3.resolve_right (fun h3 => eo h3.1)) l2 (fun j hj a b => huni j hj b (Or.inl a))
        have := oc_ge (F := T) n k hk h2 hkb
        omega
    refine fin e0 l1 l2 l3 (fun k hk hkb => ?_)
    have hkk := hbit e0 l1 k hk
    rw [hkb] at hkk
    have hke : k ≠ e0 := fun h2 => by rw [if_pos h2] at hkk; omega
    rw [if_neg hke] at hkk
    have := hG (fun v => rch F T n (clr S e0) (gof F T cn e0) v ∨ v = cn) (fun j hj hjb => ?_) ⟨e0, l1, l2, ?_⟩ k hk hkk.symm
    · rcases this with h2 | h2
      · exact h2
      · exact absurd h2 (htouch k hk hkk.symm hke).1
    · by_cases hje : j = e0
      · subst hje
        rcases gof_e l3 with ⟨a, b⟩ | ⟨a, b⟩
        · rw [a, b]
          exact ⟨fun _ => Or.inl rch_g, fun _ => Or.inr rfl⟩
        · rw [a, b]
          exact ⟨fun _ => Or.inr rfl, fun _ => Or.inl rch_g⟩
      · have ht := htouch j hj hjb hje
        have := rch_cl (F := F) (T := T) (n := n) (S := clr S e0) (g := gof F T cn e0) j hj (by rw [hbit e0 l1 j hj, if_neg hje]; exact hjb)
        exact ⟨fun h3 => Or.inl (this.mp (h3.resolve_right ht.1)), fun h3 => Or.inl (this.mpr (h3.resolve_right ht.2))⟩
    · rcases gof_e l3 with ⟨a, b⟩ | ⟨a, b⟩
      · rw [a]; exact Or.inr rfl
      · rw [a]; exact Or.inl rch_g
/-- so where a START is, a street can be walked -/
theorem fleury_wh {V : mm_M} {S c : Int} (ht : tW V) (hS : 0 ≤ S ∧ S < 1073741824) (hn : ∀ k, bt S k = 1 → k < (V 2 4).toNat) (h0 : S ≠ 0) (h : STV V S c) : ∃ s : Nat, s < (V 2 4).toNat ∧ whS V S c s := by
  have t1 := ht.1
  obtain ⟨e, e1, e2, e3, e4⟩ := fleury (fun k hk => (ht.2.1 k (by omega)).1) (fun k hk => (ht.2.1 k (by omega)).2) hS (by omega) hn h0 h
  refine ⟨e, e1, e2, ?_, ?_⟩
  · unfold lv
    rw [Int.toNat_natCast]
    rcases e3 with a | ⟨a, b⟩
    · rw [if_pos a]; omega
    · by_cases q : V 3 e = c
      · rw [if_pos q]; omega
      · rw [if_neg q, if_pos ⟨a, b⟩]; omega
  · have : gl V (lv V e c) = gof (V 3) (V 4) c e := by
      unfold lv gof
      rw [Int.toNat_natCast]
      by_cases q : V 3 e = c
      · rw [if_pos q, if_pos q]
        unfold gl
        rw [if_pos (by omega), show (2 * (e : Int) / 2).toNat = e by omega]
      · rw [if_neg q, if_neg q, if_pos (e3.resolve_left q)]
        unfold gl
        rw [if_neg (by omega), show ((2 * (e : Int) + 1) / 2).toNat = e by omega]
    rw [this]
    exact e4
end
section
/-! the model: first, next -/
theorem losI_iff {P P' : Prop} [Decidable P] [Decidable P'] {V : mm_M} {w : Nat} (h : P ↔ P') : losI P V w = losI P' V w := by
  by_cases e : P
  · rw [losI_y e, losI_y (h.mp e)]
  · rw [losI_n e, losI_n (fun h2 => e (h.mpr h2))]
theorem bgM_2 {V : mm_M} {w : Nat} {c : Int} : mm_up (mm_up V w 3 c) w 2 0 = bgM V w c := by
  funext o j
  simp only [bgM, mm_up]
  (repeat' split) <;> first | rfl | omega
/-- from a START at least a step is walked, if there is a street -/
theorem fil_pos {V V' : mm_M} {w : Nat} {up c : Int} (ht : tW V) (h2 : V w 2 = 0) (h3 : V w 3 = c) (hs : STV V (al V) c) (hn : 0 < V 2 4) (hu : up = 0 ∨ up = 1) : ¬ filR up w 0 V V' := by
  rintro ⟨h, -⟩
  have t1 := ht.1
  have e1 : nwk V w (V w 2).toNat = al V := by rw [h2]; rfl
  have e2 : cor V w (V w 2) = c := by
    unfold cor
    rw [h2, if_neg (by omega)]
    exact h3
  rw [e1, e2] at h
  have hp := pw_le (k := (V 2 4).toNat) (n := 30) (by omega)
  have hp2 := pw_le (k := 1) (n := (V 2 4).toNat) (by omega)
  obtain ⟨s, s1, s2⟩ := fleury_wh (S := al V) ht ⟨by unfold al; omega, by unfold al; omega⟩ (fun k hk => all_sub k hk) (by unfold al; omega) hs
  rcases h with ⟨-, h⟩ | ⟨s, -, -, -, -, -, h, -⟩
  · refine h s s1 (fun e => ?_) (fun e => ?_) s2
    · unfold filB
      rw [if_pos e]; omega
    · unfold filB
      rw [if_neg (by omega)]; omega
  · omega
theorem at_X5_first_0 : mm_at 0 kdX5_first = [(0, .aload_n 0, 0), (1, .aload_n 0, 0), (2, .iload_n 1, 0), (3, .invokevirtual 178, 0), (6, .ifCond .ne 11, 17), (9, .aload_n 0, 0), (10, .iload_n 2, 0), (11, .invokevirtual 143, 0), (14, .ifCond .eq 7, 21), (17, .iconst 1, 0), (18, .goto 4, 22), (21, .iconst 0, 0), (22, .iconst 1, 0), (23, .invokevirtual 146, 0), (26, .ifCond .eq 5, 31), (29, .iconst 0, 0), (30, .ireturn, 0), (31, .aload_n 0, 0), (32, .aload_n 0, 0), (33, .invokevirtual 79, 0), (36, .iload_n 2, 0), (37, .invokevirtual 83, 0), (40, .ifCond .ne 8, 48), (43, .aload_n 0, 0), (44, .invokevirtual 149, 0), (47, .ireturn, 0), (48, .aload_n 0, 0), (49, .getfield 19, 0), (52, .iload_n 1, 0), (53, .iaload, 0), (54, .ifCond .gt 10, 64), (57, .aload_n 0, 0), (58, .getfield 49, 0), (61, .ifCond .le 8, 69), (64, .aload_n 0, 0), (65, .iload_n 1, 0), (66, .invokevirtual 181, 0), (69, .aload_n 0, 0), (70, .getfield 22, 0), (73, .iload_n 1, 0), (74, .iload_n 2, 0), (75, .iastore, 0), (76, .aload_n 0, 0), (77, .getfield 19, 0), (80, .iload_n 1, 0), (81, .iconst 0, 0), (82, .iastore, 0), (83, .aload_n 0, 0), (84, .iload_n 1, 0), (85, .iload_n 3, 0), (86, .invokevirtual 203, 0), (89, .aload_n 0, 0), (90, .aload_n 0, 0), (91, .getfield 19, 0), (94, .iload_n 1, 0), (95, .iaload, 0), (96, .invokevirtual 156, 0), (99, .ireturn, 0)] := rfl
theorem at_X5_first_17 : mm_at 17 kdX5_first = [(17, .iconst 1, 0), (18, .goto 4, 22), (21, .iconst 0, 0), (22, .iconst 1, 0), (23, .invokevirtual 146, 0), (26, .ifCond .eq 5, 31), (29, .iconst 0, 0), (30, .ireturn, 0), (31, .aload_n 0, 0), (32, .aload_n 0, 0), (33, .invokevirtual 79, 0), (36, .iload_n 2, 0), (37, .invokevirtual 83, 0), (40, .ifCond .ne 8, 48), (43, .aload_n 0, 0), (44, .invokevirtual 149, 0), (47, .ireturn, 0), (48, .aload_n 0, 0), (49, .getfield 19, 0), (52, .iload_n 1, 0), (53, .iaload, 0), (54, .ifCond .gt 10, 64), (57, .aload_n 0, 0), (58, .getfield 49, 0), (61, .ifCond .le 8, 69), (64, .aload_n 0, 0), (65, .iload_n 1, 0), (66, .invokevirtual 181, 0), (69, .aload_n 0, 0), (70, .getfield 22, 0), (73, .iload_n 1, 0), (74, .iload_n 2, 0), (75, .iastore, 0), (76, .aload_n 0, 0), (77, .getfield 19, 0), (80, .iload_n 1, 0), (81, .iconst 0, 0), (82, .iastore, 0), (83, .aload_n 0, 0), (84, .iload_n 1, 0), (85, .iload_n 3, 0), (86, .invokevirtual 203, 0), (89, .aload_n 0, 0), (90, .aload_n 0, 0), (91, .getfield 19, 0), (94, .iload_n 1, 0), (95, .iaload, 0), (96, .invokevirtual 156, 0), (99, .ireturn, 0)] := rfl
theorem at_X5_first_21 : mm_at 21 kdX5_first = [(21, .iconst 0, 0), (22, .iconst 1, 0), (23, .invokevirtual 146, 0), (26, .ifCond .eq 5, 31), (29, .iconst 0, 0), (30, .ireturn, 0), (31, .aload_n 0, 0), (32, .aload_n 0, 0), (33, .invokevirtual 79, 0), (36, .iload_n 2, 0), (37, .invokevirtual 83, 0), (40, .ifCond .ne 8, 48), (43, .aload_n 0, 0), (44, .invokevirtual 149, 0), (47, .ireturn, 0), (48, .aload_n 0, 0), (49, .getfield 19, 0), (52, .iload_n 1, 0), (53, .iaload, 0), (54, .ifCond .gt 10, 64), (57, .aload_n 0, 0), (58, .getfield 49, 0), (61, .ifCond .le 8, 69), (64, .aload_n 0, 0), (65, .iload_n 1, 0), (66, .invokevirtual 181, 0), (69, .aload_n 0, 0), (70, .getfield 22, 0), (73, .iload_n 1, 0), (74, .iload_n 2, 0), (75, .iastore, 0), (76, .aload_n 0, 0), (77, .getfield 19, 0), (80, .iload_n 1, 0), (81, .iconst 0, 0), (82, .iastore, 0), (83, .aload_n 0, 0), (84, .iload_n 1, 0), (85, .iload_n 3, 0), (86, .invokevirtual 203, 0), (89, .aload_n 0, 0), (90, .aload_n 0, 0), (91, .getfield 19, 0), (94, .iload_n 1, 0), (95, .iaload, 0), (96, .invokevirtual 156, 0), (99, .ireturn, 0)] := rfl
theorem at_X5_first_22 : mm_at 22 kdX5_first = [(22, .iconst 1, 0), (23, .invokevirtual 146, 0), (26, .ifCond .eq 5, 31), (29, .iconst 0, 0), (30, .ireturn, 0), (31, .aload_n 0, 0), (32, .aload_n 0, 0), (33, .invokevirtual 79, 0), (36, .iload_n 2, 0), (37, .invokevirtual 83, 0), (40, .ifCond .ne 8, 48), (43, .aload_n 0, 0), (44, .invokevirtual 149, 0), (47, .ireturn, 0), (48, .aload_n 0, 0), (49, .getfield 19, 0), (52, .iload_n 1, 0), (53, .iaload, 0), (54, .ifCond .gt 10, 64), (57, .aload_n 0, 0), (58, .getfield 49, 0), (61, .ifCond .le 8, 69), (64, .aload_n 0, 0), (65, .iload_n 1, 0), (66, .invokevirtual 181, 0), (69, .aload_n 0, 0), (70, .getfield 22, 0), (73, .iload_n 1, 0), (74, .iload_n 2, 0), (75, .iastore, 0), (76, .aload_n 0, 0), (77, .getfield 19, 0), (80, .iload_n 1, 0), (81, .iconst 0, 0), (82, .iastore, 0), (83, .aload_n 0, 0), (84, .iload_n 1, 0), (85, .iload_n 3, 0), (86, .invokevirtual 203, 0), (89, .aload_n 0, 0), (90, .aload_n 0, 0), (91, .getfield 19, 0), (94, .iload_n 1, 0), (95, .iaload, 0), (96, .invokevirtual 156, 0), (99, .ireturn, 0)] := rfl
theorem at_X5_first_31 : mm_at 31 kdX5_first = [(31, .aload_n 0, 0), (32, .aload_n 0, 0), (33, .invokevirtual 79, 0), (36, .iload_n 2, 0), (37, .invokevirtual 83, 0), (40, .ifCond .ne 8, 48), (43, .aload_n 0, 0), (44, .invokevirtual 149, 0), (47, .ireturn, 0), (48, .aload_n 0, 0), (49, .getfield 19, 0), (52, .iload_n 1, 0), (53, .iaload, 0), (54, .ifCond .gt 10, 64), (57, .aload_n 0, 0), (58, .getfield 49, 0), (61, .ifCond .le 8, 69), (64, .aload_n 0, 0), (65, .iload_n 1, 0), (66, .invokevirtual 181, 0), (69, .aload_n 0, 0), (70, .getfield 22, 0), (73, .iload_n 1, 0), (74, .iload_n 2, 0), (75, .iastore, 0), (76, .aload_n 0, 0), (77, .getfield 19, 0), (80, .iload_n 1, 0), (81, .iconst 0, 0), (82, .iastore, 0), (83, .aload_n 0, 0), (84, .iload_n 1, 0), (85, .iload_n 3, 0), (86, .invokevirtual 203, 0), (89, .aload_n 0, 0), (90, .aload_n 0, 0), (91, .getfield 19, 0), (94, .iload_n 1, 0), (95, .iaload, 0), (96, .invokevirtual 156, 0), (99, .ireturn, 0)] := rfl
theorem at_X5_first_48 : mm_at 48 kdX5_first = [(48, .aload_n 0, 0), (49, .getfield 19, 0), (52, .iload_n 1, 0), (53, .iaload, 0), (54, .ifCond .gt 10, 64), (57, .aload_n 0, 0), (58, .getfield 49, 0), (61, .ifCond .le 8, 69), (64, .aload_n 0, 0), (65, .iload_n 1, 0), (66, .invokevirtual 181, 0), (69, .aload_n 0, 0), (70, .getfield 22, 0), (73, .iload_n 1, 0), (74, .iload_n 2, 0), (75, .iastore, 0), (76, .aload_n 0, 0), (77, .getfield 19, 0), (80, .iload_n 1, 0), (81, .iconst 0, 0), (82, .iastore, 0), (83, .aload_n 0, 0), (84, .iload_n 1, 0), (85, .iload_n 3, 0), (86, .invokevirtual 203, 0), (89, .aload_n 0, 0), (90, .aload_n 0, 0), (91, .getfield 19, 0), (94, .iload_n 1, 0), (95, .iaload, 0), (96, .invokevirtual 156, 0), (99, .ireturn, 0)] := rfl
theorem at_X5_first_64 : mm_at 64 kdX5_first = [(64, .aload_n 0, 0), (65, .iload_n 1, 0), (66, .invokevirtual 181, 0), (69, .aload_n 0, 0), (70, .getfield 22, 0), (73, .iload_n 1, 0), (74, .iload_n 2, 0), (75, .iastore, 0), (76, .aload_n 0, 0), (77, .getfield 19, 0), (80, .iload_n 1, 0), (81, .iconst 0, 0), (82, .iastore, 0), (83, .aload_n 0, 0), (84, .iload_n 1, 0), (85, .iload_n 3, 0), (86, .invokevirtual 203, 0), (89, .aload_n 0, 0), (90, .aload_n 0, 0), (91, .getfield 19, 0), (94, .iload_n 1, 0), (95, .iaload, 0), (96, .invokevirtual 156, 0), (99, .ireturn, 0)] := rfl
theorem at_X5_first_69 : mm_at 69 kdX5_first = [(69, .aload_n 0, 0), (70, .getfield 22, 0), (73, .iload_n 1, 0), (74, .iload_n 2, 0), (75, .iastore, 0), (76, .aload_n 0, 0), (77, .getfield 19, 0), (80, .iload_n 1, 0), (81, .iconst 0, 0), (82, .iastore, 0), (83, .aload_n 0, 0), (84, .iload_n 1, 0), (85, .iload_n 3, 0), (86, .invokevirtual 203, 0), (89, .aload_n 0, 0), (90, .aload_n 0, 0), (91, .getfield 19, 0), (94, .iload_n 1, 0), (95, .iaload, 0), (96, .invokevirtual 156, 0), (99, .ireturn, 0)] := rfl
def sp_X5_first : mm_S := fun av M d Q => match av with
  | [.inr (.inr (.inl o)), .inl a, .inl c, .inl f] =>  o = 17 ∧ xA M ∧ InI a ∧ InI c ∧ (f = 0 ∨ f = 1) ∧ ∀ M' r, xP M M' → C_first a c f (vX M) (vX M') (M' 17 0) r → Q (.inl (some (mm_I r))) M' d
  | _ => False
def ct_X5_first : List (Nat × mm_Ca) := [(178, (0, 2, 14, sp_X5_isNoWalk, 0)), (143, (0, 2, 14, sp_X5_isNoCorner, 0)), (146, (0, 3, 14, sp_X5_start, 0)), (79, (0, 1, 14, sp_X5_all, 0)), (83, (0, 3, 14, sp_X5_isStartOf, 0)), (149, (0, 1, 14, sp_X5_cannot, 0)), (181, (0, 2, 14, sp_X5_lose, 0)), (203, (0, 3, 14, sp_X5_filled, 0)), (156, (0, 2, 14, sp_X5_act, 0))]
abbrev rr_X5_first (Q : mm_Q) := mm_run (mm_look flX5) (mm_look ct_X5_first) mm_x0 (mm_look ([] : List (Nat × Int))) (fun _ => none) 1 0 (fun _ _ => none) Q kdX5_first
set_option maxRecDepth 20000 in
theorem rn_X5_first : mm_RN flX5 ct_X5_first mm_x0 [] 1 0 4 kdX5_first sp_X5_first := by
  intro av M d Q h
  unfold sp_X5_first at h
  split at h
  · rename_i o a c f
    obtain ⟨rfl, ha, h1, h2, hf, hq⟩ := h
    obtain ⟨K, hK, hK2⟩ : ∃ K : Nat → mm_K, (∀ t ls st M d u, K t ls st M d u → rr_X5_first Q t ls st M d u) ∧ (∀ t ls st M d u, rr_X5_first Q t ls st M d u → K t ls st M d u) := ⟨rr_X5_first Q, fun _ _ _ _ _ _ h => h, fun _ _ _ _ _ _ h => h⟩
    have q1 : ∀ v, v = 1 → ¬ ((0 ≤ a ∧ a ≤ 2) ∧ (0 ≤ c ∧ c ≤ 9)) → Q (.inl (some (mm_I 0))) (mm_up M 17 0 v) d := fun v hv hn => hq _ _ (xP_s ha) (xq1 (fun h => by unfold iw ic at h; omega) hv)
    have k31 : ∀ v, v = 0 → (0 ≤ a ∧ a ≤ 2) → (0 ≤ c ∧ c ≤ 9) → K 31 [some (mm_R 17), some (mm_I a), some (mm_I c), some (mm_I f)] [] (mm_up M 17 0 v) d 0 := by
      intro v hv0 ca cc
      obtain ⟨M1, e0, ha1, hP1, e17, eo⟩ := xS (v := v) ha
      have e00 : M1 17 0 = 0 := by rw [← e0, hv0]; exact x00
      have eV : vX M1 = vX M := by rw [← e0, vX_u0]
      rw [e0]
      obtain ⟨k, rfl⟩ := Int.eq_ofNat_of_zero_le ca.1
      have hk : k < 3 := by omega
      have hv := ha1.v hk
      have ht := ha1.t
      have t1 := ht.1
      have v1 := hv.1
      have hl := ha1.l
      have h10 := ha1.2
      have hs := all_sub (n := (M1 17 1).toNat)
      have en := vX_n (M := M1) (show k < 4 by omega)
      have hcc : iw (k : Int) ∧ ic c := ⟨(wk_in ca).1, cc.1, by omega⟩
      obtain ⟨PS, ePS⟩ : ∃ PS : Prop, PS ↔ STV (vX M1) (al (vX M1)) c := ⟨_, Iff.rfl⟩
      have q9 : ¬ PS → Q (.inl (some (mm_I (-9)))) (mm_up M1 17 15 (M1 17 15 + 1)) d := fun h => hq _ (-9) (hP1.tr (xA_u (x := M1 17 15 + 1) ha1)) (Or.inr ⟨hcc, by rw [mm_up_ob2 (by omega)]; exact e00, by rw [← eV]; exact no9.n (fun h2 => h (ePS.mpr h2)) cX_9⟩)
      have k69 : PS → ∀ M2, xP M1 M2 → M2 17 0 = 0 → M2 17 1 = M1 17 1 → vX M2 = losI (0 < M1 21 k ∨ 0 < M1 17 1) (vX M1) (8 + 2 * k) → (M2 21 k = 0 ∨ (vX M2 16 1 = ((8 + 2 * k : Nat) : Int) → vX M2 16 4 = 1)) → K 69 [some (mm_R 17), some (mm_I k), some (mm_I c), some (mm_I f)] [] M2 d 0 := by
        intro hPS M2 hP2 h00 h01 hV h
        obtain ⟨M3, e3⟩ : ∃ M3, M3 = mm_up (mm_up M2 22 k c) 21 k 0 := ⟨_, rfl⟩
        have ev : vX M3 = mm_up (mm_up (vX M2) (8 + 2 * k) 3 c) (8 + 2 * k) 2 0 := by rw [e3, vX_u21 (by omega), vX_u22 (by omega)]
        have hv9 : mV M3 k := (mV_i (by omega)).mpr (by rw [ev]; exact ⟨by simp [mm_up], by simp [mm_up]; omega, fun j hj => by simp [mm_up] at hj; omega⟩)
        have hD9 : wD (vX M3) (8 + 2 * k) := by rw [ev]; exact wD_0 (by simp [mm_up])
        have hx : fX M2 M3 := by rw [e3]; exact (fX.rf.up (by omega)).up (by omega)
        have hf3 : fr [8 + 2 * k, 8 + 2 * k + 1] (vX M2) (vX M3) := by rw [ev]; exact (fr.rf.up (by simp)).up (by simp)
        have h17 : M3 17 = M2 17 := by rw [e3, mm_up_o _ (by omega), mm_up_o _ (by omega)]
        have ht3 : tX M3 := tX_to hP2.a.t hf3 (isKk (show k < 4 by omega))
        have k89 : ∀ M4 (r : Nat), fX M3 M4 ∧ M4 17 = M3 17 ∧ fr [8 + 2 * k, 8 + 2 * k + 1] (vX M3) (vX M4) ∧ mV M4 k ∧ wD (vX M4) (8 + 2 * k) ∧ filR f (8 + 2 * k) r (vX M3) (vX M4) ∧ M4 21 k = M3 21 k + r → K 89 [some (mm_R 17), some (mm_I k), some (mm_I c), some (mm_I f)] [] M4 d 0 := by
          intro M4 r ⟨g1, g2, g3, g4, g5, g6, g7⟩
          have g8 := g4.1
          have hP4 : xP M2 M4 := by
            rcases h with h | h
            · exact xP_we hP2.a hk (hx.tr g1) (hf3.tr g3) g4 g5 (by rw [g2, h17]) (by rw [h]; omega)
            · exact xP_wl hP2.a hk h (hx.tr g1) (hf3.tr g3) g4 g5 (by rw [g2, h17])
          have el0 : M3 21 k = 0 := by rw [e3]; simp [mm_up]
          have lk := isK_le (isKk (show k < 4 by omega))
          have evb : vX M3 = bgM (vX M2) (8 + 2 * k) c := by rw [ev, bgM_2]
          have e2o : ∀ o, o ≠ 16 → vX M2 o = vX M1 o := fun o ho => by rw [hV, losI_o ho]
          have e3o : ∀ o, o = 2 ∨ o = 3 ∨ o = 4 → vX M3 o = vX M1 o := fun o ho => by rw [hf3 o (by simp; omega), e2o o (by omega)]
          have hS3 : STV (vX M3) (al (vX M3)) c := by
            have := ePS.mp hPS
            unfold STV al at this ⊢
            rw [e3o 2 (by omega), e3o 3 (by omega), e3o 4 (by omega)]
            exact this
          have hr1 : 0 < M1 17 1 → 0 < (r : Int) := fun hn => Classical.byContradiction fun h2 => by
            have e : r = 0 := by omega
            subst e
            exact fil_pos (V := vX M3) (c := c) ht3 (by rw [vX_n (by omega)]; exact el0) (by rw [vX_b (by omega), e3, mm_up_ob (by omega), mm_up_sm]) hS3 (show 0 < M3 17 1 by rw [h17, h01]; exact hn) hf g6
          have hr2 : 0 < (r : Int) → 0 < M1 17 1 := fun hn => by
            have := g4.2.2 0 (by omega)
            have e9 : M4 17 1 = M1 17 1 := by rw [g2, h17, h01]
            omega
          have q0 : Q (.inl (some (mm_I (M4 21 k)))) (mm_up M4 17 14 (M4 17 14 + 1)) d := by
            have er : M4 21 k = r := by omega
            rw [er]
            refine hq _ _ (xP_ac ((hP1.tr hP2).tr hP4)) (Or.inr ⟨hcc, by rw [mm_up_ob2 (by omega), g2, h17]; exact h00, ?_⟩)
            rw [← eV]
            refine no9.y (ePS.mp hPS) ⟨vX M2, vX M4, vX M4, r, fun o ho => e2o o (by simp at ho; omega), ?_, ?_, rfl, fr.rf, ?_, SE.eq (cX_n (by omega))⟩
            · show filR f (8 + 2 * k) r (bgM (vX M2) (8 + 2 * k) c) (vX M4)
              rw [← evb]; exact g6
            · show fr [8 + 2 * k, 8 + 2 * k + 1, 5, 6] (bgM (vX M2) (8 + 2 * k) c) (vX M4)
              rw [← evb]; exact g3.mono (by simp)
            · rw [g3 16 (by simp; omega), hf3 16 (by simp; omega), hV]
              show losI _ (vX M1) (8 + 2 * k) 16 = losI _ (vX M1) (8 + 2 * k) 16
              rw [losI_iff (P' := 0 < vX M1 (wk (k : Int)) 2 ∨ 0 < (r : Int))]
              show _ ↔ (0 < vX M1 (8 + 2 * k) 2 ∨ 0 < (r : Int))
              rw [en]
              exact ⟨fun h => h.imp id hr1, fun h => h.imp id hr2⟩
          clear hr1 hr2 hS3 evb e2o e3o hq q1 q9 ePS hV h g6
          refine hK2 _ _ _ _ _ _ ?_
          refine mm_run_at (stop := []) (S := K) kkX5_first 90 ?_ (fun _ _ _ _ _ _ _ h => hK _ _ _ _ _ _ h)
          repeat' (first | with_reducible assumption | with_reducible exact mm_i17 | with_reducible exact mm_i18 | with_reducible exact mm_i19 | with_reducible exact mm_i20 | with_reducible exact mm_i21 | with_reducible exact mm_i22 | ((with_reducible show mm_rv _ _ _ _ _); first | exact True.intro | exact mm_i17 | exact mm_i18 | exact mm_i19 | exact mm_i20 | exact mm_i21 | exact mm_i22) | ((with_reducible show mm_bool _ _); first | exact True.intro | exact Or.inl rfl | exact Or.inr rfl | (show (_ : Int) = 0 ∨ _ = 1)) | refine And.intro ?_ ?_ | intro _ | with_reducible exact True.intro | exact rfl | with_reducible exact Or.inl rfl | with_reducible exact Or.inr rfl | exact Nat.le_of_ble_eq_true rfl)
          all_goals (try simp (disch := omega) only [InI, Int.toNat_natCast, Int.tmod_eq_emod_of_nonneg, Int.tdiv_eq_ediv_of_nonneg, true_implies, true_or, or_true, mm_l18, mm_l19, mm_l20, mm_l21, mm_l22] at *)
          all_goals first | omega | exact q0 | skip
        have k83 : K 83 [some (mm_R 17), some (mm_I k), some (mm_I c), some (mm_I f)] [] M3 d 0 := by
          clear hq q1 q9 ePS hV h
          refine hK2 _ _ _ _ _ _ ?_
          refine mm_run_at (stop := [89]) (S := K) kkX5_first 90 ?_ (fun _ _ _ _ _ _ _ h => hK _ _ _ _ _ _ h)
          repeat' (first | with_reducible assumption | with_reducible exact mm_i17 | with_reducible exact mm_i18 | with_reducible exact mm_i19 | with_reducible exact mm_i20 | with_reducible exact mm_i21 | with_reducible exact mm_i22 | ((with_reducible show mm_rv _ _ _ _ _); first | exact True.intro | exact mm_i17 | exact mm_i18 | exact mm_i19 | exact mm_i20 | exact mm_i21 | exact mm_i22 | ((with_reducible show mV _ _); exact hv9) | ((with_reducible show wD _ _); exact hD9)) | ((with_reducible show mV _ _); exact hv9) | ((with_reducible show wD _ _); exact hD9) | ((with_reducible show mm_bool _ _); first | exact True.intro | exact Or.inl rfl | exact Or.inr rfl | (show (_ : Int) = 0 ∨ _ = 1)) | refine And.intro ?_ ?_ | intro _ | with_reducible exact True.intro | exact rfl | with_reducible exact Or.inl rfl | with_reducible exact Or.inr rfl | exact Nat.le_of_ble_eq_true rfl)
          all_goals (try simp (disch := omega) only [InI, Int.toNat_natCast, Int.tmod_eq_emod_of_nonneg, Int.tdiv_eq_ediv_of_nonneg, true_implies, true_or, or_true, mm_l18, mm_l19, mm_l20, mm_l21, mm_l22] at *)
          all_goals first | omega | exact k89 _ _ (by assumption) | skip
        rw [e3] at k83
        clear hq q1 q9 ePS hV h k89
        refine hK2 _ _ _ _ _ _ ?_
        refine mm_run_at (stop := [83]) (S := K) kkX5_first 90 ?_ (fun _ _ _ _ _ _ _ h => hK _ _ _ _ _ _ h)
        repeat' (first | with_reducible assumption | with_reducible exact mm_i17 | with_reducible exact mm_i18 | with_reducible exact mm_i19 | with_reducible exact mm_i20 | with_reducible exact mm_i21 | with_reducible exact mm_i22 | ((with_reducible show mm_rv _ _ _ _ _); first | exact True.intro | exact mm_i17 | exact mm_i18 | exact mm_i19 | exact mm_i20 | exact mm_i21 | exact mm_i22) | ((with_reducible show mm_bool _ _); first | exact True.intro | exact Or.inl rfl | exact Or.inr rfl | (show (_ : Int) = 0 ∨ _ = 1)) | refine And.intro ?_ ?_ | intro _ | with_reducible exact True.intro | exact rfl | with_reducible exact Or.inl rfl | with_reducible exact Or.inr rfl | exact Nat.le_of_ble_eq_true rfl)
        all_goals (try simp (disch := omega) only [InI, Int.toNat_natCast, Int.tmod_eq_emod_of_nonneg, Int.tdiv_eq_ediv_of_nonneg, true_implies, true_or, or_true, mm_l18, mm_l19, mm_l20, mm_l21, mm_l22] at *)
        all_goals first | omega | exact k83 | skip
      have c0 := fun (hPS : PS) (h : M1 21 k = 0) (h2 : ¬ 0 < M1 17 1) => k69 hPS M1 ha1.rf e00 rfl (losI_n (by omega)).symm (Or.inl h)
      have c1 := fun (hPS : PS) (h : 0 < M1 21 k ∨ 0 < M1 17 1) => k69 hPS _ (xP_lo (k := k) ha1 hk).1 (by rw [mm_up_ob2 (by omega)]; exact e00) (mm_up_ob2 (by omega)) (by rw [losI_y h]; exact los_m h10) (Or.inr (xP_lo ha1 hk).2)
      have k48 : PS → K 48 [some (mm_R 17), some (mm_I k), some (mm_I c), some (mm_I f)] [] M1 d 0 := by
        intro hPS
        have c00 := c0 hPS
        have c11 := c1 hPS
        clear c0 c1 k69 hq q1 q9 ePS
        refine hK2 _ _ _ _ _ _ ?_
        refine mm_run_at (stop := [69]) (S := K) kkX5_first 90 ?_ (fun _ _ _ _ _ _ _ h => hK _ _ _ _ _ _ h)
        repeat' (first | with_reducible assumption | with_reducible exact mm_i17 | with_reducible exact mm_i18 | with_reducible exact mm_i19 | with_reducible exact mm_i20 | with_reducible exact mm_i21 | with_reducible exact mm_i22 | ((with_reducible show mm_rv _ _ _ _ _); first | exact True.intro | exact mm_i17 | exact mm_i18 | exact mm_i19 | exact mm_i20 | exact mm_i21 | exact mm_i22) | ((with_reducible show mm_bool _ _); first | exact True.intro | exact Or.inl rfl | exact Or.inr rfl | (show (_ : Int) = 0 ∨ _ = 1)) | refine And.intro ?_ ?_ | intro _ | with_reducible exact True.intro | exact rfl | with_reducible exact Or.inl rfl | with_reducible exact Or.inr rfl | exact Nat.le_of_ble_eq_true rfl)
        all_goals (try simp (disch := omega) only [InI, Int.toNat_natCast, Int.tmod_eq_emod_of_nonneg, Int.tdiv_eq_ediv_of_nonneg, true_implies, true_or, or_true, mm_l18, mm_l19, mm_l20, mm_l21, mm_l22] at *)
        all_goals first | omega | exact c00 (by omega) (by omega) | exact c11 (by omega) | skip
      have k40 : ∀ r, (PS → r = 1) ∧ (¬ PS → r = 0) → K 40 [some (mm_R 17), some (mm_I k), some (mm_I c), some (mm_I f)] [mm_I r] M1 d 0 := by
        intro r hr
        have hr1 := in01 hr
        have q99 : r = 0 → Q (.inl (some (mm_I (-9)))) (mm_up M1 17 15 (M1 17 15 + 1)) d := fun h => q9 (fun h2 => by have := hr.1 h2; omega)
        have k488 : r ≠ 0 → _ := fun h => k48 (inI_y hr h)
        clear hr c0 c1 k69 k48 hq q1 q9 ePS
        refine hK2 _ _ _ _ _ _ ?_
        refine mm_run_at (stop := [48]) (S := K) kkX5_first 90 ?_ (fun _ _ _ _ _ _ _ h => hK _ _ _ _ _ _ h)
        repeat' (first | with_reducible assumption | with_reducible exact mm_i17 | with_reducible exact mm_i18 | with_reducible exact mm_i19 | with_reducible exact mm_i20 | with_reducible exact mm_i21 | with_reducible exact mm_i22 | ((with_reducible show mm_rv _ _ _ _ _); first | exact True.intro | exact mm_i17 | exact mm_i18 | exact mm_i19 | exact mm_i20 | exact mm_i21 | exact mm_i22) | ((with_reducible show mm_bool _ _); first | exact True.intro | exact Or.inl rfl | exact Or.inr rfl | (show (_ : Int) = 0 ∨ _ = 1)) | refine And.intro ?_ ?_ | intro _ | with_reducible exact True.intro | exact rfl | with_reducible exact Or.inl rfl | with_reducible exact Or.inr rfl | exact Nat.le_of_ble_eq_true rfl)
        all_goals (try simp (disch := omega) only [InI, Int.toNat_natCast, Int.tmod_eq_emod_of_nonneg, Int.tdiv_eq_ediv_of_nonneg, true_implies, true_or, or_true, mm_l18, mm_l19, mm_l20, mm_l21, mm_l22] at *)
        all_goals first | omega | exact q99 (by omega) | exact k488 (by omega) | skip
      refine hK2 _ _ _ _ _ _ ?_
      refine mm_run_at (stop := [40]) (S := K) kkX5_first 90 ?_ (fun _ _ _ _ _ _ _ h => hK _ _ _ _ _ _ h)
      refine mm_c5 rfl (Nat.le_of_ble_eq_true rfl) (by exact mm_i17) (Nat.le_of_ble_eq_true rfl) (Nat.le_of_ble_eq_true rfl) (mm_a3 rfl ht (fun r hr => ?_))
      obtain ⟨rfl, hr⟩ := hr
      exact mm_c5 rfl (Nat.le_of_ble_eq_true rfl) (by exact mm_i17) (Nat.le_of_ble_eq_true rfl) (Nat.le_of_ble_eq_true rfl) (mm_a6 rfl ht hr hs ⟨by omega, by omega⟩ (fun r2 hr2 => k40 r2 ⟨fun h => hr2.1 (ePS.mp h), fun h => hr2.2 (fun h2 => h (ePS.mpr h2))⟩))
    clear hq
    refine ⟨Nat.le_of_ble_eq_true rfl, ?_⟩
    refine mm_run_at (stop := [31]) (S := K) kkX5_first 90 ?_ (fun _ _ _ _ _ _ _ h => hK _ _ _ _ _ _ h)
    repeat' (first | with_reducible assumption | with_reducible exact mm_i17 | with_reducible exact mm_i18 | with_reducible exact mm_i19 | with_reducible exact mm_i20 | with_reducible exact mm_i21 | with_reducible exact mm_i22 | ((with_reducible show mm_rv _ _ _ _ _); first | exact True.intro | exact mm_i17 | exact mm_i18 | exact mm_i19 | exact mm_i20 | exact mm_i21 | exact mm_i22) | ((with_reducible show mm_bool _ _); first | exact True.intro | exact Or.inl rfl | exact Or.inr rfl | (show (_ : Int) = 0 ∨ _ = 1)) | refine And.intro ?_ ?_ | intro _ | with_reducible exact True.intro | exact rfl | with_reducible exact Or.inl rfl | with_reducible exact Or.inr rfl | exact Nat.le_of_ble_eq_true rfl)
    all_goals (try simp (disch := omega) only [InI, Int.toNat_natCast, Int.tmod_eq_emod_of_nonneg, Int.tdiv_eq_ediv_of_nonneg, true_implies, true_or, or_true, mm_l18, mm_l19, mm_l20, mm_l21, mm_l22] at *)
    all_goals first | omega | exact q1 _ (by omega) (by omega) | exact k31 _ (by omega) (by omega) (by omega) | skip
  · exact h.elim
theorem me_X5_first {l : Launch} (hl : l.stackTraces = false) : mm_Met l yX5_first cX5_first 4 (some .int) [] 13 265 0 sp_X5_first := mm_mt hl rn_X5_first ⟨plX5, rfl⟩ kkX5_first rfl ⟨Nat.le_of_ble_eq_true rfl, Nat.le_of_ble_eq_true rfl⟩ flkX5 (fun _ h => nomatch h) (⟨mm_pe (me_X5_isNoWalk hl) mwX5_isNoWalk (mm_t7 36 rfl rfl) (Nat.le_of_ble_eq_true rfl) (Nat.le_of_ble_eq_true rfl), mm_pe (me_X5_isNoCorner hl) mwX5_isNoCorner (mm_t6 103 rfl rfl) (Nat.le_of_ble_eq_true rfl) (Nat.le_of_ble_eq_true rfl), mm_pe (me_X5_start hl) mwX5_start (mm_t6 110 rfl rfl) (Nat.le_of_ble_eq_true rfl) (Nat.le_of_ble_eq_true rfl), mm_pe (me_X5_all hl) mwX5_all (mm_t6 213 rfl rfl) (Nat.le_of_ble_eq_true rfl) (Nat.le_of_ble_eq_true rfl), mm_pe (me_X5_isStartOf hl) mwX5_isStartOf (mm_t7 16 rfl rfl) (Nat.le_of_ble_eq_true rfl) (Nat.le_of_ble_eq_true rfl), mm_pe (me_X5_cannot hl) mwX5_cannot (mm_t6 118 rfl rfl) (Nat.le_of_ble_eq_true rfl) (Nat.le_of_ble_eq_true rfl), mm_pe (me_X5_lose hl) mwX5_lose (mm_t7 40 rfl rfl) (Nat.le_of_ble_eq_true rfl) (Nat.le_of_ble_eq_true rfl), mm_pe (me_X5_filled hl) mwX5_filled (mm_t7 124 rfl rfl) (Nat.le_of_ble_eq_true rfl) (Nat.le_of_ble_eq_true rfl), mm_pe (me_X5_act hl) mwX5_act (mm_t6 130 rfl rfl) (Nat.le_of_ble_eq_true rfl) (Nat.le_of_ble_eq_true rfl), trivial⟩) (mm_xe0 _) n9X5
theorem at_X5_next_0 : mm_at 0 kdX5_next = [(0, .aload_n 0, 0), (1, .aload_n 0, 0), (2, .iload_n 1, 0), (3, .invokevirtual 178, 0), (6, .iconst 1, 0), (7, .invokevirtual 146, 0), (10, .ifCond .eq 5, 15), (13, .iconst 0, 0), (14, .ireturn, 0), (15, .aload_n 0, 0), (16, .iload_n 1, 0), (17, .invokevirtual 207, 0), (20, .ifCond .ne 8, 28), (23, .aload_n 0, 0), (24, .invokevirtual 149, 0), (27, .ireturn, 0), (28, .aload_n 0, 0), (29, .iload_n 1, 0), (30, .iconst 3, 0), (31, .invokevirtual 210, 0), (34, .aload_n 0, 0), (35, .getfield 19, 0), (38, .iload_n 1, 0), (39, .iaload, 0), (40, .iconst 1, 0), (41, .isub, 0), (42, .istore_n 3, 0), (43, .iload_n 3, 0), (44, .ifCond .lt 89, 133), (47, .aload_n 0, 0), (48, .iload_n 1, 0), (49, .iload_n 3, 0), (50, .invokevirtual 98, 0), (53, .iconst 2, 0), (54, .idiv, 0), (55, .istore 4, 0), (57, .aload_n 0, 0), (58, .getfield 19, 0), (61, .iconst 3, 0), (62, .iload_n 3, 0), (63, .iastore, 0), (64, .aload_n 0, 0), (65, .iconst 3, 0), (66, .iload_n 2, 0), (67, .ifCond .eq 10, 77), (70, .iload 4, 0), (72, .iconst 1, 0), (73, .iadd, 0), (74, .goto 7, 81), (77, .iload 4, 0), (79, .iconst 1, 0), (80, .isub, 0), (81, .iload_n 2, 0), (82, .invokevirtual 131, 0), (85, .istore 5, 0), (87, .iload 5, 0), (89, .iconst (-1), 0), (90, .if_icmp .ne 6, 96), (93, .goto 34, 127), (96, .aload_n 0, 0), (97, .iconst 3, 0), (98, .iload_n 3, 0), (99, .iload 5, 0), (101, .invokevirtual 120, 0), (104, .aload_n 0, 0), (105, .iconst 3, 0), (106, .iload_n 2, 0), (107, .invokevirtual 203, 0), (110, .aload_n 0, 0), (111, .iconst 3, 0), (112, .iload_n 1, 0), (113, .invokevirtual 210, 0), (116, .aload_n 0, 0), (117, .iload_n 1, 0), (118, .invokevirtual 181, 0), (121, .aload_n 0, 0), (122, .iload_n 3, 0), (123, .invokevirtual 156, 0), (126, .ireturn, 0), (127, .iinc 3 (-1), 0), (130, .goto (-87), 43), (133, .aload_n 0, 0), (134, .invokevirtual 149, 0), (137, .ireturn, 0)] := rfl
theorem at_X5_next_15 : mm_at 15 kdX5_next = [(15, .aload_n 0, 0), (16, .iload_n 1, 0), (17, .invokevirtual 207, 0), (20, .ifCond .ne 8, 28), (23, .aload_n 0, 0), (24, .invokevirtual 149, 0), (27, .ireturn, 0), (28, .aload_n 0, 0), (29, .iload_n 1, 0), (30, .iconst 3, 0), (31, .invokevirtual 210, 0), (34, .aload_n 0, 0), (35, .getfield 19, 0), (38, .iload_n 1, 0), (39, .iaload, 0), (40, .iconst 1, 0), (41, .isub, 0), (42, .istore_n 3, 0), (43, .iload_n 3, 0), (44, .ifCond .lt 89, 133), (47, .aload_n 0, 0), (48, .iload_n 1, 0), (49, .iload_n 3, 0), (50, .invokevirtual 98, 0), (53, .iconst 2, 0), (54, .idiv, 0), (55, .istore 4, 0), (57, .aload_n 0, 0), (58, .getfield 19, 0), (61, .iconst 3, 0), (62, .iload_n 3, 0), (63, .iastore, 0), (64, .aload_n 0, 0), (65, .iconst 3, 0), (66, .iload_n 2, 0), (67, .ifCond .eq 10, 77), (70, .iload 4, 0), (72, .iconst 1, 0), (73, .iadd, 0), (74, .goto 7, 81), (77, .iload 4, 0), (79, .iconst 1, 0), (80, .isub, 0), (81, .iload_n 2, 0), (82, .invokevirtual 131, 0), (85, .istore 5, 0), (87, .iload 5, 0), (89, .iconst (-1), 0), (90, .if_icmp .ne 6, 96), (93, .goto 34, 127), (96, .aload_n 0, 0), (97, .iconst 3, 0), (98, .iload_n 3, 0), (99, .iload 5, 0), (101, .invokevirtual 120, 0), (104, .aload_n 0, 0), (105, .iconst 3, 0), (106, .iload_n 2, 0), (107, .invokevirtual 203, 0), (110, .aload_n 0, 0), (111, .iconst 3, 0), (112, .iload_n 1, 0), (113, .invokevirtual 210, 0), (116, .aload_n 0, 0), (117, .iload_n 1, 0), (118, .invokevirtual 181, 0), (121, .aload_n 0, 0), (122, .iload_n 3, 0), (123, .invokevirtual 156, 0), (126, .ireturn, 0), (127, .iinc 3 (-1), 0), (130, .goto (-87), 43), (133, .aload_n 0, 0), (134, .invokevirtual 149, 0), (137, .ireturn, 0)] := rfl
theorem at_X5_next_28 : mm_at 28 kdX5_next = [(28, .aload_n 0, 0), (29, .iload_n 1, 0), (30, .iconst 3, 0), (31, .invokevirtual 210, 0), (34, .aload_n 0, 0), (35, .getfield 19, 0), (38, .iload_n 1, 0), (39, .iaload, 0), (40, .iconst 1, 0), (41, .isub, 0), (42, .istore_n 3, 0), (43, .iload_n 3, 0), (44, .ifCond .lt 89, 133), (47, .aload_n 0, 0), (48, .iload_n 1, 0), (49, .iload_n 3, 0), (50, .invokevirtual 98, 0), (53, .iconst 2, 0), (54, .idiv, 0), (55, .istore 4, 0), (57, .aload_n 0, 0), (58, .getfield 19, 0), (61, .iconst 3, 0), (62, .iload_n 3, 0), (63, .iastore, 0), (64, .aload_n 0, 0), (65, .iconst 3, 0), (66, .iload_n 2, 0), (67, .ifCond .eq 10, 77), (70, .iload 4, 0), (72, .iconst 1, 0), (73, .iadd, 0), (74, .goto 7, 81), (77, .iload 4, 0), (79, .iconst 1, 0), (80, .isub, 0), (81, .iload_n 2, 0), (82, .invokevirtual 131, 0), (85, .istore 5, 0), (87, .iload 5, 0), (89, .iconst (-1), 0), (90, .if_icmp .ne 6, 96), (93, .goto 34, 127), (96, .aload_n 0, 0), (97, .iconst 3, 0), (98, .iload_n 3, 0), (99, .iload 5, 0), (101, .invokevirtual 120, 0), (104, .aload_n 0, 0), (105, .iconst 3, 0), (106, .iload_n 2, 0), (107, .invokevirtual 203, 0), (110, .aload_n 0, 0), (111, .iconst 3, 0), (112, .iload_n 1, 0), (113, .invokevirtual 210, 0), (116, .aload_n 0, 0), (117, .iload_n 1, 0), (118, .invokevirtual 181, 0), (121, .aload_n 0, 0), (122, .iload_n 3, 0), (123, .invokevirtual 156, 0), (126, .ireturn, 0), (127, .iinc 3 (-1), 0), (130, .goto (-87), 43), (133, .aload_n 0, 0), (134, .invokevirtual 149, 0), (137, .ireturn, 0)] := rfl
theorem at_X5_next_43 : mm_at 43 kdX5_next = [(43, .iload_n 3, 0), (44, .ifCond .lt 89, 133), (47, .aload_n 0, 0), (48, .iload_n 1, 0), (49, .iload_n 3, 0), (50, .invokevirtual 98, 0), (53, .iconst 2, 0), (54, .idiv, 0), (55, .istore 4, 0), (57, .aload_n 0, 0), (58, .getfield 19, 0), (61, .iconst 3, 0), (62, .iload_n 3, 0), (63, .iastore, 0), (64, .aload_n 0, 0), (65, .iconst 3, 0), (66, .iload_n 2, 0), (67, .ifCond .eq 10, 77), (70, .iload 4, 0), (72, .iconst 1, 0), (73, .iadd, 0), (74, .goto 7, 81), (77, .iload 4, 0), (79, .iconst 1, 0), (80, .isub, 0), (81, .iload_n 2, 0), (82, .invokevirtual 131, 0), (85, .istore 5, 0), (87, .iload 5, 0), (89, .iconst (-1), 0), (90, .if_icmp .ne 6, 96), (93, .goto 34, 127), (96, .aload_n 0, 0), (97, .iconst 3, 0), (98, .iload_n 3, 0), (99, .iload 5, 0), (101, .invokevirtual 120, 0), (104, .aload_n 0, 0), (105, .iconst 3, 0), (106, .iload_n 2, 0), (107, .invokevirtual 203, 0), (110, .aload_n 0, 0), (111, .iconst 3, 0), (112, .iload_n 1, 0), (113, .invokevirtual 210, 0), (116, .aload_n 0, 0), (117, .iload_n 1, 0), (118, .invokevirtual 181, 0), (121, .aload_n 0, 0), (122, .iload_n 3, 0), (123, .invokevirtual 156, 0), (126, .ireturn, 0), (127, .iinc 3 (-1), 0), (130, .goto (-87), 43), (133, .aload_n 0, 0), (134, .invokevirtual 149, 0), (137, .ireturn, 0)] := rfl
theorem at_X5_next_77 : mm_at 77 kdX5_next = [(77, .iload 4, 0), (79, .iconst 1, 0), (80, .isub, 0), (81, .iload_n 2, 0), (82, .invokevirtual 131, 0), (85, .istore 5, 0), (87, .iload 5, 0), (89, .iconst (-1), 0), (90, .if_icmp .ne 6, 96), (93, .goto 34, 127), (96, .aload_n 0, 0), (97, .iconst 3, 0), (98, .iload_n 3, 0), (99, .iload 5, 0), (101, .invokevirtual 120, 0), (104, .aload_n 0, 0), (105, .iconst 3, 0), (106, .iload_n 2, 0), (107, .invokevirtual 203, 0), (110, .aload_n 0, 0), (111, .iconst 3, 0), (112, .iload_n 1, 0), (113, .invokevirtual 210, 0), (116, .aload_n 0, 0), (117, .iload_n 1, 0), (118, .invokevirtual 181, 0), (121, .aload_n 0, 0), (122, .iload_n 3, 0), (123, .invokevirtual 156, 0), (126, .ireturn, 0), (127, .iinc 3 (-1), 0), (130, .goto (-87), 43), (133, .aload_n 0, 0), (134, .invokevirtual 149, 0), (137, .ireturn, 0)] := rfl
theorem at_X5_next_81 : mm_at 81 kdX5_next = [(81, .iload_n 2, 0), (82, .invokevirtual 131, 0), (85, .istore 5, 0), (87, .iload 5, 0), (89, .iconst (-1), 0), (90, .if_icmp .ne 6, 96), (93, .goto 34, 127), (96, .aload_n 0, 0), (97, .iconst 3, 0), (98, .iload_n 3, 0), (99, .iload 5, 0), (101, .invokevirtual 120, 0), (104, .aload_n 0, 0), (105, .iconst 3, 0), (106, .iload_n 2, 0), (107, .invokevirtual 203, 0), (110, .aload_n 0, 0), (111, .iconst 3, 0), (112, .iload_n 1, 0), (113, .invokevirtual 210, 0), (116, .aload_n 0, 0), (117, .iload_n 1, 0), (118, .invokevirtual 181, 0), (121, .aload_n 0, 0), (122, .iload_n 3, 0), (123, .invokevirtual 156, 0), (126, .ireturn, 0), (127, .iinc 3 (-1), 0), (130, .goto (-87), 43), (133, .aload_n 0, 0), (134, .invokevirtual 149, 0), (137, .ireturn, 0)] := rfl
theorem at_X5_next_96 : mm_at 96 kdX5_next = [(96, .aload_n 0, 0), (97, .iconst 3, 0), (98, .iload_n 3, 0), (99, .iload 5, 0), (101, .invokevirtual 120, 0), (104, .aload_n 0, 0), (105, .iconst 3, 0), (106, .iload_n 2, 0), (107, .invokevirtual 203, 0), (110, .aload_n 0, 0), (111, .iconst 3, 0), (112, .iload_n 1, 0), (113, .invokevirtual 210, 0), (116, .aload_n 0, 0), (117, .iload_n 1, 0), (118, .invokevirtual 181, 0), (121, .aload_n 0, 0), (122, .iload_n 3, 0), (123, .invokevirtual 156, 0), (126, .ireturn, 0), (127, .iinc 3 (-1), 0), (130, .goto (-87), 43), (133, .aload_n 0, 0), (134, .invokevirtual 149, 0), (137, .ireturn, 0)] := rfl
theorem at_X5_next_127 : mm_at 127 kdX5_next = [(127, .iinc 3 (-1), 0), (130, .goto (-87), 43), (133, .aload_n 0, 0), (134, .invokevirtual 149, 0), (137, .ireturn, 0)] := rfl
theorem at_X5_next_133 : mm_at 133 kdX5_next = [(133, .aload_n 0, 0), (134, .invokevirtual 149, 0), (137, .ireturn, 0)] := rfl
def sp_X5_next : mm_S := fun av M d Q => match av with
  | [.inr (.inr (.inl o)), .inl a, .inl f] =>  o = 17 ∧ xA M ∧ InI a ∧ (f = 0 ∨ f = 1) ∧ ∀ M' r, xP M M' → C_next a f (vX M) (vX M') (M' 17 0) r → Q (.inl (some (mm_I r))) M' d
  | _ => False
def ct_X5_next : List (Nat × mm_Ca) := [(178, (0, 2, 14, sp_X5_isNoWalk, 0)), (146, (0, 3, 14, sp_X5_start, 0)), (207, (0, 2, 14, sp_X5_isWhole, 0)), (149, (0, 1, 14, sp_X5_cannot, 0)), (210, (0, 3, 14, sp_X5_copied, 0)), (98, (0, 3, 14, sp_X5_stepOf, 0)), (131, (0, 4, 14, sp_X5_fitting, 0)), (120, (0, 4, 14, sp_X5_put, 0)), (203, (0, 3, 14, sp_X5_filled, 0)), (181, (0, 2, 14, sp_X5_lose, 0)), (156, (0, 2, 14, sp_X5_act, 0))]
abbrev rr_X5_next (Q : mm_Q) := mm_run (mm_look flX5) (mm_look ct_X5_next) mm_x0 (mm_look ([] : List (Nat × Int))) (fun _ => none) 1 0 (fun _ _ => none) Q kdX5_next
set_option maxRecDepth 20000 in
theorem lp_X5_next {M0 V0 : mm_M} {d : List Nat} {Q : mm_Q} {f : Int} {k n : Nat} (hk : k < 3) (ha : xA M0) (hn : M0 21 k = n) (hf : f = 0 ∨ f = 1) (hV0 : fr [14, 15] V0 (vX M0)) (hn3 : M0 21 3 = n) (hrow : ∀ x : Nat, x < n → vX M0 15 x = vX M0 (8 + 2 * k + 1) x) (hq : ∀ M' r, xP M0 M' → M' 17 0 = M0 17 0 → (∃ V2 q, nxR f 14 (vX M0) V2 q ∧ fr [14, 15, 5, 6] (vX M0) V2 ∧ no9 (0 ≤ q) V0 (vX M') r (r = q ∧ ∃ V3, cpyR V2 V3 (8 + 2 * k) 14 ∧ fr [8 + 2 * k, 8 + 2 * k + 1] V2 V3 ∧ SE (cnF (losM V3 (8 + 2 * k)) r) (vX M'))) → Q (.inl (some (mm_I r))) M' d) : ∀ (j : Nat) (M : mm_M) (x4 x5 : Option mm_V), j ≤ n → fX M0 M → M 17 = M0 17 → fr [14, 15] (vX M0) (vX M) → mV M 3 → wD (vX M) 14 → M 21 3 = j → vX M = ctW (vX M0) 14 j → (∀ x : Nat, j ≤ x → x < n → nxS (vX M0) 14 x f (-1)) → rr_X5_next Q 43 [some (mm_R 17), some (mm_I k), some (mm_I f), some (mm_I ((j : Int) - 1)), x4, x5] [] M d 0 := by
  intro j
  induction j with
  | zero =>
    intro M x4 x5 hj hx h17 hf3 hv hD hl hct hNo
    have hP := xP_3 ha hx (by rw [h17]) (hf3.mono (by simp))
    have q9 := hq _ (-9) (hP.tr (xA_u (x := M 17 15 + 1) hP.a)) (by rw [mm_up_ob2 (by omega), h17]) ⟨vX M0, -1, Or.inl ⟨rfl, fun x hx2 => hNo x (Nat.zero_le _) (by have e9 : vX M0 14 2 = M0 21 3 := rfl; omega)⟩, fr.rf, no9.s (by omega) (SE.scr ((hV0.tr hf3).mono (by simp))) cX_9⟩
    clear hq hNo hct
    obtain ⟨K, hK, hK2⟩ : ∃ K : Nat → mm_K, (∀ t ls st M d u, K t ls st M d u → rr_X5_next Q t ls st M d u) ∧ (∀ t ls st M d u, rr_X5_next Q t ls st M d u → K t ls st M d u) := ⟨rr_X5_next Q, fun _ _ _ _ _ _ h => h, fun _ _ _ _ _ _ h => h⟩
    refine mm_run_at (stop := [47]) (S := K) kkX5_next 90 ?_ (fun _ _ _ _ _ _ _ h => hK _ _ _ _ _ _ h)
    repeat' (first | with_reducible assumption | with_reducible exact mm_i17 | with_reducible exact mm_i18 | with_reducible exact mm_i19 | with_reducible exact mm_i20 | with_reducible exact mm_i21 | with_reducible exact mm_i22 | ((with_reducible show mm_rv _ _ _ _ _); first | exact True.intro | exact mm_i17 | exact mm_i18 | exact mm_i19 | exact mm_i20 | exact mm_i21 | exact mm_i22) | ((with_reducible show mm_bool _ _); first | exact True.intro | exact Or.inl rfl | exact Or.inr rfl | (show (_ : Int) = 0 ∨ _ = 1)) | refine And.intro ?_ ?_ | intro _ | with_reducible exact True.intro | exact rfl | with_reducible exact Or.inl rfl | with_reducible exact Or.inr rfl | exact Nat.le_of_ble_eq_true rfl)
    all_goals (try simp (disch := omega) only [InI, Int.toNat_natCast, Int.tmod_eq_emod_of_nonneg, Int.tdiv_eq_ediv_of_nonneg, true_implies, true_or, or_true, mm_l18, mm_l19, mm_l20, mm_l21, mm_l22] at *)
    all_goals first | omega | exact q9 | skip
  | succ j ih =>
    intro M x4 x5 hj hx h17 hf3 hv hD hl hct hNo
    have hP := xP_3 ha hx (by rw [h17]) (hf3.mono (by simp))
    have ht := hP.a.t
    have t1 := ht.1
    have hvk := hP.a.v hk
    have elk : M 21 k = n := by rw [← hn, ← vX_n (M := M) (by omega), ← vX_n (M := M0) (by omega), hf3 (8 + 2 * k) (by simp; omega)]
    have w1 := hvk.2.2 j (by omega)
    have v1 := hvk.1
    obtain ⟨M1, e1⟩ : ∃ M1, M1 = mm_up M 21 3 j := ⟨_, rfl⟩
    have ev : vX M1 = mm_up (vX M) 14 2 j := by rw [e1]; exact vX_u21 (k := 3) (by omega)
    have e17 : M1 17 = M 17 := by rw [e1, mm_up_o _ (by omega)]
    have e21 : M1 21 3 = j := by rw [e1]; simp [mm_up]
    have e22 : M1 21 (Int.toNat 3) = j := e21
    have hx1 : fX M M1 := by rw [e1]; exact fX.rf.up (by omega)
    have hf1 : fr [14, 15] (vX M) (vX M1) := by rw [ev]; exact fr.rf.up (by simp)
    have hv3 := hv.1
    have hvw := (mV_i (k := 3) (by omega)).mp hv
    have hv1 : mV M1 3 := (mV_i (k := 3) (by omega)).mpr (by
      rw [ev]
      refine ⟨by simp [mm_up]; omega, by simp only [mm_up]; exact hvw.2.1, fun i hi => ?_⟩
      have hi2 : (i : Int) < j := by simpa [mm_up] using hi
      have := hvw.2.2 i (by rw [vX_n (by omega)]; omega)
      simpa [mm_up] using this)
    have hD1 : wD (vX M1) 14 := by
      rw [ev]
      intro x y hx hy e
      have hx2 : (x : Int) < j := by simpa [mm_up] using hx
      have hy2 : (y : Int) < j := by simpa [mm_up] using hy
      refine hD x y ?_ ?_ (by simpa [mm_up] using e)
      · rw [show vX M 14 2 = M 21 3 from rfl]; omega
      · rw [show vX M 14 2 = M 21 3 from rfl]; omega
    have ht1 : tX M1 := tX_to ht hf1 (isKk (show 3 < 4 by omega))
    have t11 := ht1.1
    have en1 : M1 17 1 = M 17 1 := by rw [e17]
    have hct1 : vX M1 = ctW (vX M0) 14 j := by
      rw [ev, hct]
      funext o y
      simp only [ctW, mm_up]
      (repeat' split) <;> first | rfl | omega
    have e20 : M 20 (30 * k + j) = vX M0 15 j := by
      rw [hrow j (by omega), ← vX_i (M := M) (by omega) (by omega), hf3 (8 + 2 * k + 1) (by simp; omega)]
    have hnx : ∀ st, whR (vX M1) (nwk (vX M1) 14 (M1 21 3).toNat) (cor (vX M1) 14 (M1 21 3)) (vX M0 15 j / 2) f st → nxS (vX M0) 14 j f st := by
      intro st h
      rw [e21, Int.toNat_natCast, hct1] at h
      exact h
    obtain ⟨K, hK, hK2⟩ : ∃ K : Nat → mm_K, (∀ t ls st M d u, K t ls st M d u → rr_X5_next Q t ls st M d u) ∧ (∀ t ls st M d u, rr_X5_next Q t ls st M d u → K t ls st M d u) := ⟨rr_X5_next Q, fun _ _ _ _ _ _ h => h, fun _ _ _ _ _ _ h => h⟩
    have again : nxS (vX M0) 14 j f (-1) → ∀ x4 x5, K 43 [some (mm_R 17), some (mm_I k), some (mm_I f), some (mm_I ((j : Int) - 1)), x4, x5] [] M1 d 0 := fun h9 x4 x5 => hK2 _ _ _ _ _ _ (ih M1 x4 x5 (by omega) (hx.tr hx1) (by rw [e17, h17]) (hf3.tr hf1) hv1 hD1 e21 hct1 (fun x h1 h2 => by
      by_cases e : x = j
      · rw [e]; exact h9
      · exact hNo x (by omega) h2))
    have k85 : ∀ (x4 : Int) b st, x4 = vX M0 15 j / 2 → b = x4 → (whR (vX M1) (nwk (vX M1) 14 (M1 21 3).toNat) (cor (vX M1) 14 (M1 21 3)) b f st ∧ -1 ≤ st ∧ st < 2 * M1 17 1 ∧ (0 ≤ st → bt (nwk (vX M1) 14 (M1 21 3).toNat) (st / 2).toNat = 1)) → K 85 [some (mm_R 17), some (mm_I k), some (mm_I f), some (mm_I j), some (mm_I x4), x5] [mm_I st] M1 d 0 := by
      intro x4 b st hx4 hb hst
      rw [hb, hx4] at hst
      have hns := hnx st hst.1
      by_cases h : 0 ≤ st
      · have hl9 := lft_r (nwk_lft (M := vX M1) (w := 14) ht1 ((mV_i (k := 3) (by omega)).mp hv1)) (r := st) (by omega) (hst.2.2.2 h)
        have hsto : stO (vX M1) st := ⟨by omega, by rw [vX_24]; omega⟩
        have k104 : ∀ x5 M2, fX M1 M2 ∧ fr [14, 15] (vX M1) (vX M2) ∧ mV M2 3 ∧ putR (vX M1) (vX M2) 14 j st ∧ M2 17 = M1 17 → K 104 [some (mm_R 17), some (mm_I k), some (mm_I f), some (mm_I j), some (mm_I x4), x5] [] M2 d 0 := by
          intro x5 M2 ⟨g1, g2, g3, g4, g5⟩
          have hD2 := put_wD hD1 hl9 g4
          have ht2 : tX M2 := tX_to ht1 g2 (isKk (show 3 < 4 by omega))
          have k110 : ∀ M3 (r : Nat), fX M2 M3 ∧ M3 17 = M2 17 ∧ fr [14, 15] (vX M2) (vX M3) ∧ mV M3 3 ∧ wD (vX M3) 14 ∧ filR f 14 r (vX M2) (vX M3) ∧ M3 21 3 = M2 21 3 + r → K 110 [some (mm_R 17), some (mm_I k), some (mm_I f), some (mm_I j), some (mm_I x4), x5] [] M3 d 0 := by
            intro M3 r ⟨b1, b2, b3, b4, b5, b6, b7⟩
            have hP3 : xP M0 M3 := xP_3 ha (((hx.tr hx1).tr g1).tr b1) (by rw [b2, g5, e17, h17]) ((((hf3.tr hf1).tr g2).tr b3).mono (by simp))
            have k116 : ∀ M4, fX M3 M4 ∧ M4 17 = M3 17 ∧ fr [8 + 2 * k, 8 + 2 * k + 1] (vX M3) (vX M4) ∧ cpyR (vX M3) (vX M4) (8 + 2 * k) 14 ∧ mV M4 k → K 116 [some (mm_R 17), some (mm_I k), some (mm_I f), some (mm_I j), some (mm_I x4), x5] [] M4 d 0 := by
              intro M4 ⟨c1, c2, c3, c4, c5⟩
              have hD4 := cpy_wD b5 c4
              have hl := hP3.a.l
              have h10 := hP3.a.2
              have h10' : M4 17 10 = M3 17 10 := by rw [c2]
              have h13' : M4 17 13 = M3 17 13 := by rw [c2]
              have q0 : ∀ M5, M5 = mm_up M4 17 13 (if M4 17 10 = k then 1 else M4 17 13) → Q (.inl (some (mm_I j))) (mm_up M5 17 14 (M5 17 14 + 1)) d := fun M5 e5 => by
                refine hq _ _ (by rw [e5]; exact xP_ac (hP3.tr (xP_q hP3.a hk c1 c2 c3 c5 hD4).2)) (by rw [mm_up_ob2 (by omega), e5, mm_up_ob2 (by omega), c2, b2, g5, e17, h17]) ⟨vX M3, j, Or.inr ⟨j, rfl, by have e9 : vX M0 14 2 = M0 21 3 := rfl; omega, fun x h1 h2 => hNo x (by omega) (by have e9 : vX M0 14 2 = M0 21 3 := rfl; omega), st, vX M1, vX M2, r, hns, h, ?_, (hf3.tr hf1).mono (by simp), e21, ?_, ?_, g4, g2, b6⟩, (((hf3.tr hf1).tr g2).tr b3).mono (by simp), no9.y (by omega) ⟨rfl, vX M4, c4, c3, SE.eq (cX_m (by rw [h10']; exact h10) (by omega) e5)⟩⟩
                · have e9 : vX M0 2 4 = M0 17 1 := rfl
                  have e8 : M1 17 1 = M0 17 1 := by rw [e17, h17]
                  have := hst.2.2.1
                  omega
                · rw [hct1]
                  simp [ctW, mm_up]
                · rw [hct1]
                  exact mm_up_o _ (by omega)
              clear hq hns hnx hNo again hct hct1 g4 b6 c4 hst
              refine hK2 _ _ _ _ _ _ ?_
              refine mm_run_at (stop := []) (S := K) kkX5_next 90 ?_ (fun _ _ _ _ _ _ _ h => hK _ _ _ _ _ _ h)
              repeat' (first | with_reducible assumption | with_reducible exact mm_i17 | with_reducible exact mm_i18 | with_reducible exact mm_i19 | with_reducible exact mm_i20 | with_reducible exact mm_i21 | with_reducible exact mm_i22 | ((with_reducible show mm_rv _ _ _ _ _); first | exact True.intro | exact mm_i17 | exact mm_i18 | exact mm_i19 | exact mm_i20 | exact mm_i21 | exact mm_i22) | ((with_reducible show mm_bool _ _); first | exact True.intro | exact Or.inl rfl | exact Or.inr rfl | (show (_ : Int) = 0 ∨ _ = 1)) | refine And.intro ?_ ?_ | intro _ | with_reducible exact True.intro | exact rfl | with_reducible exact Or.inl rfl | with_reducible exact Or.inr rfl | exact Nat.le_of_ble_eq_true rfl)
              all_goals (try simp (disch := omega) only [InI, Int.toNat_natCast, Int.tmod_eq_emod_of_nonneg, Int.tdiv_eq_ediv_of_nonneg, true_implies, true_or, or_true, mm_l18, mm_l19, mm_l20, mm_l21, mm_l22] at *)
              all_goals first | omega | exact q0 _ rfl | skip
            clear hq hns hnx hNo again hct hct1
            refine hK2 _ _ _ _ _ _ ?_
            refine mm_run_at (stop := [116]) (S := K) kkX5_next 90 ?_ (fun _ _ _ _ _ _ _ h => hK _ _ _ _ _ _ h)
            repeat' (first | with_reducible assumption | with_reducible exact mm_i17 | with_reducible exact mm_i18 | with_reducible exact mm_i19 | with_reducible exact mm_i20 | with_reducible exact mm_i21 | with_reducible exact mm_i22 | ((with_reducible show mm_rv _ _ _ _ _); first | exact True.intro | exact mm_i17 | exact mm_i18 | exact mm_i19 | exact mm_i20 | exact mm_i21 | exact mm_i22 | ((with_reducible show mV _ _); exact b4)) | ((with_reducible show mV _ _); exact b4) | ((with_reducible show mm_bool _ _); first | exact True.intro | exact Or.inl rfl | exact Or.inr rfl | (show (_ : Int) = 0 ∨ _ = 1)) | refine And.intro ?_ ?_ | intro _ | with_reducible exact True.intro | exact rfl | with_reducible exact Or.inl rfl | with_reducible exact Or.inr rfl | exact Nat.le_of_ble_eq_true rfl)
            all_goals (try simp (disch := omega) only [InI, Int.toNat_natCast, Int.tmod_eq_emod_of_nonneg, Int.tdiv_eq_ediv_of_nonneg, true_implies, true_or, or_true, mm_l18, mm_l19, mm_l20, mm_l21, mm_l22] at *)
            all_goals first | omega | exact k116 _ (by assumption) | skip
          clear hq hns hnx hNo again hct hct1
          refine hK2 _ _ _ _ _ _ ?_
          refine mm_run_at (stop := [110]) (S := K) kkX5_next 90 ?_ (fun _ _ _ _ _ _ _ h => hK _ _ _ _ _ _ h)
          repeat' (first | with_reducible assumption | with_reducible exact mm_i17 | with_reducible exact mm_i18 | with_reducible exact mm_i19 | with_reducible exact mm_i20 | with_reducible exact mm_i21 | with_reducible exact mm_i22 | ((with_reducible show mm_rv _ _ _ _ _); first | exact True.intro | exact mm_i17 | exact mm_i18 | exact mm_i19 | exact mm_i20 | exact mm_i21 | exact mm_i22 | ((with_reducible show mV _ _); exact g3) | ((with_reducible show wD _ _); exact hD2) | ((with_reducible show tX _); exact ht2)) | ((with_reducible show mV _ _); exact g3) | ((with_reducible show wD _ _); exact hD2) | ((with_reducible show tX _); exact ht2) | ((with_reducible show mm_bool _ _); first | exact True.intro | exact Or.inl rfl | exact Or.inr rfl | (show (_ : Int) = 0 ∨ _ = 1)) | refine And.intro ?_ ?_ | intro _ | with_reducible exact True.intro | exact rfl | with_reducible exact Or.inl rfl | with_reducible exact Or.inr rfl | exact Nat.le_of_ble_eq_true rfl)
          all_goals (try simp (disch := omega) only [InI, Int.toNat_natCast, Int.tmod_eq_emod_of_nonneg, Int.tdiv_eq_ediv_of_nonneg, true_implies, true_or, or_true, mm_l18, mm_l19, mm_l20, mm_l21, mm_l22] at *)
          all_goals first | omega | exact k110 _ _ (by assumption) | skip
        clear hq hns hnx hNo again hct hct1
        refine hK2 _ _ _ _ _ _ ?_
        refine mm_run_at (stop := [104, 127]) (S := K) kkX5_next 90 ?_ (fun _ _ _ _ _ _ _ h => hK _ _ _ _ _ _ h)
        repeat' (first | with_reducible assumption | with_reducible exact mm_i17 | with_reducible exact mm_i18 | with_reducible exact mm_i19 | with_reducible exact mm_i20 | with_reducible exact mm_i21 | with_reducible exact mm_i22 | ((with_reducible show mm_rv _ _ _ _ _); first | exact True.intro | exact mm_i17 | exact mm_i18 | exact mm_i19 | exact mm_i20 | exact mm_i21 | exact mm_i22 | ((with_reducible show mV _ _); exact hv1)) | ((with_reducible show mV _ _); exact hv1) | ((with_reducible show mm_bool _ _); first | exact True.intro | exact Or.inl rfl | exact Or.inr rfl | (show (_ : Int) = 0 ∨ _ = 1)) | refine And.intro ?_ ?_ | intro _ | with_reducible exact True.intro | exact rfl | with_reducible exact Or.inl rfl | with_reducible exact Or.inr rfl | exact Nat.le_of_ble_eq_true rfl)
        all_goals (try simp (disch := omega) only [InI, Int.toNat_natCast, Int.tmod_eq_emod_of_nonneg, Int.tdiv_eq_ediv_of_nonneg, true_implies, true_or, or_true, mm_l18, mm_l19, mm_l20, mm_l21, mm_l22] at *)
        all_goals first | omega | exact k104 _ _ (by assumption) | skip
      · have e : st = -1 := by omega
        subst e
        have again1 := again hns
        clear hq hns hnx hNo again hct hct1
        refine hK2 _ _ _ _ _ _ ?_
        refine mm_run_at (stop := [43, 96]) (S := K) kkX5_next 90 ?_ (fun _ _ _ _ _ _ _ h => hK _ _ _ _ _ _ h)
        repeat' (first | with_reducible assumption | with_reducible exact mm_i17 | with_reducible exact mm_i18 | with_reducible exact mm_i19 | with_reducible exact mm_i20 | with_reducible exact mm_i21 | with_reducible exact mm_i22 | ((with_reducible show mm_rv _ _ _ _ _); first | exact True.intro | exact mm_i17 | exact mm_i18 | exact mm_i19 | exact mm_i20 | exact mm_i21 | exact mm_i22) | ((with_reducible show mm_bool _ _); first | exact True.intro | exact Or.inl rfl | exact Or.inr rfl | (show (_ : Int) = 0 ∨ _ = 1)) | refine And.intro ?_ ?_ | intro _ | with_reducible exact True.intro | exact rfl | with_reducible exact Or.inl rfl | with_reducible exact Or.inr rfl | exact Nat.le_of_ble_eq_true rfl)
        all_goals (try simp (disch := omega) only [InI, Int.toNat_natCast, Int.tmod_eq_emod_of_nonneg, Int.tdiv_eq_ediv_of_nonneg, true_implies, true_or, or_true, mm_l18, mm_l19, mm_l20, mm_l21, mm_l22] at *)
        all_goals first | omega | exact again1 _ _ | skip
    have k64 : ∀ x4, x4 = M 20 (30 * k + j) / 2 → K 64 [some (mm_R 17), some (mm_I k), some (mm_I f), some (mm_I j), some (mm_I x4), x5] [] M1 d 0 := by
      intro x4 e4
      have hx4 : 0 ≤ x4 ∧ x4 < M1 17 1 := by omega
      have k855 := fun b st h hb => k85 x4 b st (by rw [e4, e20]) hb h
      clear e4 k85 hq hnx hNo again hct hct1 e20 ih hrow
      refine hK2 _ _ _ _ _ _ ?_
      rcases hf with rfl | rfl
      · refine mm_run_at (stop := [70, 85]) (S := K) kkX5_next 90 ?_ (fun _ _ _ _ _ _ _ h => hK _ _ _ _ _ _ h)
        repeat' (first | with_reducible assumption | with_reducible exact mm_i17 | with_reducible exact mm_i18 | with_reducible exact mm_i19 | with_reducible exact mm_i20 | with_reducible exact mm_i21 | with_reducible exact mm_i22 | ((with_reducible show mm_rv _ _ _ _ _); first | exact True.intro | exact mm_i17 | exact mm_i18 | exact mm_i19 | exact mm_i20 | exact mm_i21 | exact mm_i22 | ((with_reducible show mV _ _); exact hv1)) | ((with_reducible show mV _ _); exact hv1) | ((with_reducible show mm_bool _ _); first | exact True.intro | exact Or.inl rfl | exact Or.inr rfl | (show (_ : Int) = 0 ∨ _ = 1)) | refine And.intro ?_ ?_ | intro _ | with_reducible exact True.intro | exact rfl | with_reducible exact Or.inl rfl | with_reducible exact Or.inr rfl | exact Nat.le_of_ble_eq_true rfl)
        all_goals (try simp (disch := omega) only [InI, Int.toNat_natCast, Int.tmod_eq_emod_of_nonneg, Int.tdiv_eq_ediv_of_nonneg, true_implies, true_or, or_true, mm_l18, mm_l19, mm_l20, mm_l21, mm_l22] at *)
        all_goals first | omega | exact k855 _ _ (by assumption) (by first | omega | (split <;> omega) | (simp <;> omega)) | (refine Or.inl ⟨trivial, ?_⟩; omega) | (refine Or.inr ⟨trivial, ?_⟩; omega) | skip
      · refine mm_run_at (stop := [77, 85]) (S := K) kkX5_next 90 ?_ (fun _ _ _ _ _ _ _ h => hK _ _ _ _ _ _ h)
        repeat' (first | with_reducible assumption | with_reducible exact mm_i17 | with_reducible exact mm_i18 | with_reducible exact mm_i19 | with_reducible exact mm_i20 | with_reducible exact mm_i21 | with_reducible exact mm_i22 | ((with_reducible show mm_rv _ _ _ _ _); first | exact True.intro | exact mm_i17 | exact mm_i18 | exact mm_i19 | exact mm_i20 | exact mm_i21 | exact mm_i22 | ((with_reducible show mV _ _); exact hv1)) | ((with_reducible show mV _ _); exact hv1) | ((with_reducible show mm_bool _ _); first | exact True.intro | exact Or.inl rfl | exact Or.inr rfl | (show (_ : Int) = 0 ∨ _ = 1)) | refine And.intro ?_ ?_ | intro _ | with_reducible exact True.intro | exact rfl | with_reducible exact Or.inl rfl | with_reducible exact Or.inr rfl | exact Nat.le_of_ble_eq_true rfl)
        all_goals (try simp (disch := omega) only [InI, Int.toNat_natCast, Int.tmod_eq_emod_of_nonneg, Int.tdiv_eq_ediv_of_nonneg, true_implies, true_or, or_true, mm_l18, mm_l19, mm_l20, mm_l21, mm_l22] at *)
        all_goals first | omega | exact k855 _ _ (by assumption) (by first | omega | (split <;> omega) | (simp <;> omega)) | (refine Or.inl ⟨trivial, ?_⟩; omega) | (refine Or.inr ⟨trivial, ?_⟩; omega) | skip
    clear k85 hq hnx hNo again hct hct1 e20 ih hrow
    rw [e1] at k64
    have e9 : ((j + 1 : Nat) : Int) - 1 = j := by omega
    rw [e9]
    have e6 : (30 * (k : Int).toNat + (j : Int).toNat) = 30 * k + j := by omega
    refine mm_run_at (stop := [64, 133]) (S := K) kkX5_next 90 ?_ (fun _ _ _ _ _ _ _ h => hK _ _ _ _ _ _ h)
    repeat' (first | with_reducible assumption | with_reducible exact mm_i17 | with_reducible exact mm_i18 | with_reducible exact mm_i19 | with_reducible exact mm_i20 | with_reducible exact mm_i21 | with_reducible exact mm_i22 | ((with_reducible show mm_rv _ _ _ _ _); first | exact True.intro | exact mm_i17 | exact mm_i18 | exact mm_i19 | exact mm_i20 | exact mm_i21 | exact mm_i22) | ((with_reducible show mm_bool _ _); first | exact True.intro | exact Or.inl rfl | exact Or.inr rfl | (show (_ : Int) = 0 ∨ _ = 1)) | refine And.intro ?_ ?_ | intro _ | with_reducible exact True.intro | exact rfl | with_reducible exact Or.inl rfl | with_reducible exact Or.inr rfl | exact Nat.le_of_ble_eq_true rfl)
    all_goals (try simp (disch := omega) only [e6, InI, Int.toNat_natCast, Int.tmod_eq_emod_of_nonneg, Int.tdiv_eq_ediv_of_nonneg, true_implies, true_or, or_true, mm_l18, mm_l19, mm_l20, mm_l21, mm_l22] at *)
    all_goals first | omega | exact k64 _ rfl | skip
set_option maxRecDepth 20000 in
theorem rn_X5_next : mm_RN flX5 ct_X5_next mm_x0 [] 1 0 6 kdX5_next sp_X5_next := by
  intro av M d Q h
  unfold sp_X5_next at h
  split at h
  · rename_i o a f
    obtain ⟨rfl, ha, h1, hf, hq⟩ := h
    obtain ⟨K, hK, hK2⟩ : ∃ K : Nat → mm_K, (∀ t ls st M d u, K t ls st M d u → rr_X5_next Q t ls st M d u) ∧ (∀ t ls st M d u, rr_X5_next Q t ls st M d u → K t ls st M d u) := ⟨rr_X5_next Q, fun _ _ _ _ _ _ h => h, fun _ _ _ _ _ _ h => h⟩
    have q1 : ∀ v, v = 1 → ¬ (0 ≤ a ∧ a ≤ 2) → Q (.inl (some (mm_I 0))) (mm_up M 17 0 v) d := fun v hv hn => hq _ _ (xP_s ha) (xq1 (fun h => by unfold iw at h; omega) hv)
    have k15 : ∀ v, v = 0 → (0 ≤ a ∧ a ≤ 2) → K 15 [some (mm_R 17), some (mm_I a), some (mm_I f), none, none, none] [] (mm_up M 17 0 v) d 0 := by
      intro v hv0 ca
      obtain ⟨M1, e0, ha1, hP1, e17, eo⟩ := xS (v := v) ha
      have e00 : M1 17 0 = 0 := by rw [← e0, hv0]; exact x00
      have eV : vX M1 = vX M := by rw [← e0, vX_u0]
      rw [e0]
      obtain ⟨k, rfl⟩ := Int.eq_ofNat_of_zero_le ca.1
      have hk : k < 3 := by omega
      have hv := ha1.v hk
      have hD := ha1.d hk
      have ht := ha1.t
      have v1 := hv.1
      obtain ⟨n, hn⟩ := Int.eq_ofNat_of_zero_le v1.1
      have en := vX_n (M := M1) (show k < 4 by omega)
      have q9 : ¬ M1 21 k = M1 17 1 → Q (.inl (some (mm_I (-9)))) (mm_up M1 17 15 (M1 17 15 + 1)) d := fun h => hq _ (-9) (hP1.tr (xA_u (x := M1 17 15 + 1) ha1)) (Or.inr ⟨(wk_in ca).1, by rw [mm_up_ob2 (by omega)]; exact e00, by rw [← eV]; exact no9.n (fun h2 => h (by rw [show vX M1 (wk (k : Int)) 2 = M1 21 k from en] at h2; exact h2)) cX_9⟩)
      have k34 : M1 21 k = M1 17 1 → ∀ M2, fX M1 M2 ∧ M2 17 = M1 17 ∧ fr [14, 15] (vX M1) (vX M2) ∧ cpyR (vX M1) (vX M2) 14 (8 + 2 * k) ∧ mV M2 3 → K 34 [some (mm_R 17), some (mm_I k), some (mm_I f), none, none, none] [] M2 d 0 := by
        intro hwh M2 ⟨g1, g2, g3, g4, g5⟩
        have hP2 := xP_3 ha1 g1 (by rw [g2]) (g3.mono (by simp))
        have hD2 := cpy_wD hD g4
        have e3 : M2 21 3 = n := by
          have h := g4.1
          rw [vX_n (by omega), hn] at h
          exact h
        have ek : M2 21 k = n := by rw [← hn, ← vX_n (M := M2) (by omega), ← vX_n (M := M1) (by omega), g3 (8 + 2 * k) (by simp; omega)]
        have k43 := hK2 _ _ _ _ _ _ (lp_X5_next (d := d) (Q := Q) (f := f) hk hP2.a ek hf g3 e3 (fun x hx => by
          have h1 := g4.2.2 x (by rw [en, hn]; omega)
          rw [show vX M2 15 x = vX M1 (8 + 2 * k + 1) x from h1, g3 (8 + 2 * k + 1) (by simp; omega)]) (fun M' r h h0 h9 => hq M' r ((hP1.tr hP2).tr h) (Or.inr ⟨(wk_in ca).1, by rw [h0, g2]; exact e00, by
          rw [← eV]
          obtain ⟨V2, q, n1, n2, n3⟩ := h9
          exact no9.y (by rw [show vX M1 (wk (k : Int)) 2 = M1 21 k from en]; exact hwh) ⟨vX M2, V2, q, g4, g3, n1, n2, n3⟩⟩)) n M2 none none (by omega) fX.rf rfl fr.rf g5 hD2 e3 (by
          funext o y
          have e33 : vX M2 14 2 = n := e3
          simp only [ctW, mm_up]
          split
          · rename_i e9
            rw [e9.1, e9.2, e33]
          · rfl) (fun x h1 h2 => by omega))
        rw [← ek] at k43
        clear hq q1 q9 g4
        refine hK2 _ _ _ _ _ _ ?_
        refine mm_run_at (stop := [43]) (S := K) kkX5_next 90 ?_ (fun _ _ _ _ _ _ _ h => hK _ _ _ _ _ _ h)
        repeat' (first | with_reducible assumption | with_reducible exact mm_i17 | with_reducible exact mm_i18 | with_reducible exact mm_i19 | with_reducible exact mm_i20 | with_reducible exact mm_i21 | with_reducible exact mm_i22 | ((with_reducible show mm_rv _ _ _ _ _); first | exact True.intro | exact mm_i17 | exact mm_i18 | exact mm_i19 | exact mm_i20 | exact mm_i21 | exact mm_i22) | ((with_reducible show mm_bool _ _); first | exact True.intro | exact Or.inl rfl | exact Or.inr rfl | (show (_ : Int) = 0 ∨ _ = 1)) | refine And.intro ?_ ?_ | intro _ | with_reducible exact True.intro | exact rfl | with_reducible exact Or.inl rfl | with_reducible exact Or.inr rfl | exact Nat.le_of_ble_eq_true rfl)
        all_goals (try simp (disch := omega) only [InI, Int.toNat_natCast, Int.tmod_eq_emod_of_nonneg, Int.tdiv_eq_ediv_of_nonneg, true_implies, true_or, or_true, mm_l18, mm_l19, mm_l20, mm_l21, mm_l22] at *)
        all_goals first | omega | exact k43 | skip
      have k20 : ∀ r, (r = 0 ∨ r = 1) ∧ (r = 1 ↔ M1 21 k = M1 17 1) → K 20 [some (mm_R 17), some (mm_I k), some (mm_I f), none, none, none] [mm_I r] M1 d 0 := by
        intro r ⟨hr, hr2⟩
        have k344 := fun h => k34 (hr2.mp h)
        have q99 := fun (h : r = 0) => q9 (fun h2 => by have := hr2.mpr h2; omega)
        clear hr2 k34 q9 hq q1
        refine hK2 _ _ _ _ _ _ ?_
        refine mm_run_at (stop := [34]) (S := K) kkX5_next 90 ?_ (fun _ _ _ _ _ _ _ h => hK _ _ _ _ _ _ h)
        repeat' (first | with_reducible assumption | with_reducible exact mm_i17 | with_reducible exact mm_i18 | with_reducible exact mm_i19 | with_reducible exact mm_i20 | with_reducible exact mm_i21 | with_reducible exact mm_i22 | ((with_reducible show mm_rv _ _ _ _ _); first | exact True.intro | exact mm_i17 | exact mm_i18 | exact mm_i19 | exact mm_i20 | exact mm_i21 | exact mm_i22 | ((with_reducible show mV _ _); exact hv)) | ((with_reducible show mV _ _); exact hv) | ((with_reducible show mm_bool _ _); first | exact True.intro | exact Or.inl rfl | exact Or.inr rfl | (show (_ : Int) = 0 ∨ _ = 1)) | refine And.intro ?_ ?_ | intro _ | with_reducible exact True.intro | exact rfl | with_reducible exact Or.inl rfl | with_reducible exact Or.inr rfl | exact Nat.le_of_ble_eq_true rfl)
        all_goals (try simp (disch := omega) only [InI, Int.toNat_natCast, Int.tmod_eq_emod_of_nonneg, Int.tdiv_eq_ediv_of_nonneg, true_implies, true_or, or_true, mm_l18, mm_l19, mm_l20, mm_l21, mm_l22] at *)
        all_goals first | omega | exact q99 (by omega) | exact k344 (by omega) _ (by assumption) | skip
      refine hK2 _ _ _ _ _ _ ?_
      refine mm_run_at (stop := [20]) (S := K) kkX5_next 90 ?_ (fun _ _ _ _ _ _ _ h => hK _ _ _ _ _ _ h)
      exact mm_c5 rfl (Nat.le_of_ble_eq_true rfl) (by exact mm_i17) (Nat.le_of_ble_eq_true rfl) (Nat.le_of_ble_eq_true rfl) (mm_a6 rfl ht ⟨by omega, by omega⟩ (by rw [Int.toNat_natCast]; exact hv) (by rw [Int.toNat_natCast]; exact hD) (fun r hr => k20 r hr))
    clear hq
    refine ⟨Nat.le_of_ble_eq_true rfl, ?_⟩
    refine mm_run_at (stop := [15]) (S := K) kkX5_next 90 ?_ (fun _ _ _ _ _ _ _ h => hK _ _ _ _ _ _ h)
    repeat' (first | with_reducible assumption | with_reducible exact mm_i17 | with_reducible exact mm_i18 | with_reducible exact mm_i19 | with_reducible exact mm_i20 | with_reducible exact mm_i21 | with_reducible exact mm_i22 | ((with_reducible show mm_rv _ _ _ _ _); first | exact True.intro | exact mm_i17 | exact mm_i18 | exact mm_i19 | exact mm_i20 | exact mm_i21 | exact mm_i22) | ((with_reducible show mm_bool _ _); first | exact True.intro | exact Or.inl rfl | exact Or.inr rfl | (show (_ : Int) = 0 ∨ _ = 1)) | refine And.intro ?_ ?_ | intro _ | with_reducible exact True.intro | exact rfl | with_reducible exact Or.inl rfl | with_reducible exact Or.inr rfl | exact Nat.le_of_ble_eq_true rfl)
    all_goals (try simp (disch := omega) only [InI, Int.toNat_natCast, Int.tmod_eq_emod_of_nonneg, Int.tdiv_eq_ediv_of_nonneg, true_implies, true_or, or_true, mm_l18, mm_l19, mm_l20, mm_l21, mm_l22] at *)
    all_goals first | omega | exact q1 _ (by omega) (by omega) | exact k15 _ (by omega) (by omega) | skip
  · exact h.elim
theorem me_X5_next {l : Launch} (hl : l.stackTraces = false) : mm_Met l yX5_next cX5_next 6 (some .int) [] 13 265 0 sp_X5_next := mm_mt hl rn_X5_next ⟨plX5, rfl⟩ kkX5_next rfl ⟨Nat.le_of_ble_eq_true rfl, Nat.le_of_ble_eq_true rfl⟩ flkX5 (fun _ h => nomatch h) (⟨mm_pe (me_X5_isNoWalk hl) mwX5_isNoWalk (mm_t7 36 rfl rfl) (Nat.le_of_ble_eq_true rfl) (Nat.le_of_ble_eq_true rfl), mm_pe (me_X5_start hl) mwX5_start (mm_t6 110 rfl rfl) (Nat.le_of_ble_eq_true rfl) (Nat.le_of_ble_eq_true rfl), mm_pe (me_X5_isWhole hl) mwX5_isWhole (mm_t7 136 rfl rfl) (Nat.le_of_ble_eq_true rfl) (Nat.le_of_ble_eq_true rfl), mm_pe (me_X5_cannot hl) mwX5_cannot (mm_t6 118 rfl rfl) (Nat.le_of_ble_eq_true rfl) (Nat.le_of_ble_eq_true rfl), mm_pe (me_X5_copied hl) mwX5_copied (mm_t7 140 rfl rfl) (Nat.le_of_ble_eq_true rfl) (Nat.le_of_ble_eq_true rfl), mm_pe (me_X5_stepOf hl) mwX5_stepOf (mm_t6 158 rfl rfl) (Nat.le_of_ble_eq_true rfl) (Nat.le_of_ble_eq_true rfl), mm_pe (me_X5_fitting hl) mwX5_fitting (mm_t7 128 rfl rfl) (Nat.le_of_ble_eq_true rfl) (Nat.le_of_ble_eq_true rfl), mm_pe (me_X5_put hl) mwX5_put (mm_t6 197 rfl rfl) (Nat.le_of_ble_eq_true rfl) (Nat.le_of_ble_eq_true rfl), mm_pe (me_X5_filled hl) mwX5_filled (mm_t7 124 rfl rfl) (Nat.le_of_ble_eq_true rfl) (Nat.le_of_ble_eq_true rfl), mm_pe (me_X5_lose hl) mwX5_lose (mm_t7 40 rfl rfl) (Nat.le_of_ble_eq_true rfl) (Nat.le_of_ble_eq_true rfl), mm_pe (me_X5_act hl) mwX5_act (mm_t6 130 rfl rfl) (Nat.le_of_ble_eq_true rfl) (Nat.le_of_ble_eq_true rfl), trivial⟩) (mm_xe0 _) n9X5
end
