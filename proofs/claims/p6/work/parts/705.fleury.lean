/-! from a START a street leads to a START of the others (Fleury) -/
noncomputable def ind (P : Prop) : Int := @ite Int P (Classical.propDecidable P) 1 0
theorem ind_t {P : Prop} (h : P) : ind P = 1 := @if_pos P (Classical.propDecidable P) h Int 1 0
theorem ind_f {P : Prop} (h : ¬ P) : ind P = 0 := @if_neg P (Classical.propDecidable P) h Int 1 0
theorem ind_01 (P : Prop) : (P ∧ ind P = 1) ∨ (¬ P ∧ ind P = 0) := by
  rcases Classical.em P with h | h
  · exact Or.inl ⟨h, ind_t h⟩
  · exact Or.inr ⟨h, ind_f h⟩
theorem ind_iff {P R : Prop} (h : P ↔ R) : ind P = ind R := by
  rcases ind_01 P with ⟨a, b⟩ | ⟨a, b⟩ <;> rcases ind_01 R with ⟨c, d⟩ | ⟨c, d⟩
  · rw [b, d]
  · exact absurd (h.mp a) c
  · exact absurd (h.mpr c) a
  · rw [b, d]
def sm (g : Nat → Int) : Nat → Int
  | 0 => 0
  | m + 1 => sm g m + g m
theorem sm_add (g h : Nat → Int) : ∀ m, sm (fun v => g v + h v) m = sm g m + sm h m
  | 0 => rfl
  | m + 1 => by
    simp only [sm, sm_add g h m]
    omega
theorem sm_congr {g h : Nat → Int} : ∀ m, (∀ v, v < m → g v = h v) → sm g m = sm h m
  | 0, _ => rfl
  | m + 1, e => by
    simp only [sm]
    rw [sm_congr m (fun v hv => e v (by omega)), e m (by omega)]
theorem sm_none {a : Nat} {x : Int} : ∀ m, m ≤ a → sm (fun v => if v = a then x else 0) m = 0
  | 0, _ => rfl
  | m + 1, h => by
    simp only [sm]
    rw [sm_none m (by omega), if_neg (by omega)]
    rfl
theorem sm_one {a : Nat} {x : Int} : ∀ m, a < m → sm (fun v => if v = a then x else 0) m = x
  | 0, h => by omega
  | m + 1, h => by
    simp only [sm]
    by_cases e : a = m
    · rw [sm_none m (by omega), if_pos e.symm]
      omega
    · rw [sm_one m (by omega), if_neg (by omega)]
      omega
theorem sm_dbl (g : Nat → Int) : ∀ m, sm (fun v => 2 * g v) m = 2 * sm g m
  | 0 => rfl
  | m + 1 => by
    simp only [sm, sm_dbl g m]
    omega
theorem sm_nn {g : Nat → Int} : ∀ m, (∀ v, v < m → 0 ≤ g v) → 0 ≤ sm g m
  | 0, _ => Int.le_refl _
  | m + 1, h => by
    have := sm_nn m (fun v hv => h v (by omega))
    have := h m (by omega)
    simp only [sm]
    omega
theorem sm_all0 {g : Nat → Int} : ∀ m, (∀ v, v < m → 0 ≤ g v) → sm g m = 0 → ∀ v, v < m → g v = 0
  | 0, _, _ => fun v hv => by omega
  | m + 1, h, e => fun v hv => by
    have h1 := sm_nn m (fun v hv => h v (by omega))
    have h2 := h m (by omega)
    simp only [sm] at e
    by_cases e2 : v = m
    · rw [e2]
      omega
    · exact sm_all0 m (fun v hv => h v (by omega)) (by omega) v (by omega)
theorem sm_ex1 {g : Nat → Int} : ∀ m, (∀ v, v < m → g v = 0 ∨ g v = 1) → sm g m = 1 → ∃ z, z < m ∧ g z = 1 ∧ ∀ v, v < m → v ≠ z → g v = 0
  | 0, _, e => by simp [sm] at e
  | m + 1, h, e => by
    have hm := h m (by omega)
    have h0 : ∀ v, v < m → 0 ≤ g v := fun v hv => by have := h v (by omega); omega
    simp only [sm] at e
    rcases hm with hm | hm
    · obtain ⟨z, a, b, c⟩ := sm_ex1 m (fun v hv => h v (by omega)) (by omega)
      refine ⟨z, by omega, b, fun v hv hz => ?_⟩
      by_cases e2 : v = m
      · rw [e2]; exact hm
      · exact c v (by omega) hz
    · have := sm_all0 m h0 (by omega)
      exact ⟨m, by omega, hm, fun v hv hz => this v (by omega)⟩
theorem sm_ex2 {g : Nat → Int} {m a : Nat} (h : ∀ v, v < m → g v = 0 ∨ g v = 1) (e : sm g m = 2) (ha : a < m) (h1 : g a = 1) : ∃ z, z < m ∧ z ≠ a ∧ g z = 1 ∧ ∀ v, v < m → v ≠ a → v ≠ z → g v = 0 := by
  have e1 : sm g m = sm (fun v => if v = a then 0 else g v) m + sm (fun v => if v = a then 1 else 0) m := by
    rw [← sm_add]
    refine sm_congr m (fun v _ => ?_)
    by_cases e : v = a
    · rw [if_pos e, if_pos e, e, h1]; rfl
    · rw [if_neg e, if_neg e]; omega
  rw [sm_one m ha] at e1
  obtain ⟨z, z1, z2, z3⟩ := sm_ex1 (g := fun v => if v = a then 0 else g v) m (fun v hv => by
    by_cases e : v = a
    · exact Or.inl (if_pos e)
    · have := h v hv
      show (if v = a then 0 else g v) = 0 ∨ (if v = a then 0 else g v) = 1
      rw [if_neg e]
      exact this) (by omega)
  have hza : z ≠ a := fun e => by
    rw [if_pos e] at z2
    omega
  rw [if_neg hza] at z2
  refine ⟨z, z1, hza, z2, fun v hv hva hvz => ?_⟩
  have := z3 v hv hvz
  rw [if_neg hva] at this
  exact this
/-- how many ends at corners with a property -/
noncomputable def tot (F : Nat → Int) (S : Int) (P : Int → Prop) : Nat → Int
  | 0 => 0
  | k + 1 => tot F S P k + ind (P (F k)) * bt S k
theorem oc_tot {F : Nat → Int} {S : Int} {P : Int → Prop} : ∀ n, (∀ k, k < n → 0 ≤ F k ∧ F k < 10) → sm (fun v => ind (P (v : Int)) * oc F S v n) 10 = tot F S P n
  | 0, _ => by
    rw [sm_congr (h := fun _ => 0) 10 (fun v _ => by simp [oc])]
    rfl
  | n + 1, h => by
    have ih := oc_tot (P := P) (S := S) n (fun k hk => h k (by omega))
    obtain ⟨a, ha⟩ := Int.eq_ofNat_of_zero_le (h n (by omega)).1
    have ha2 := (h n (by omega)).2
    have e : sm (fun v => ind (P (v : Int)) * oc F S v (n + 1)) 10 = sm (fun v => ind (P (v : Int)) * oc F S v n) 10 + sm (fun v => if v = a then ind (P (F n)) * bt S n else 0) 10 := by
      rw [← sm_add]
      refine sm_congr 10 (fun v _ => ?_)
      simp only [oc]
      rw [Int.mul_add]
      by_cases e : v = a
      · rw [if_pos e, if_pos (by rw [ha, e]), e, ha]
      · rw [if_neg e, if_neg (by rw [ha]; omega), Int.mul_zero]
    rw [e, ih, sm_one 10 (by omega)]
    rfl
theorem tot_cl {F T : Nat → Int} {S : Int} {P : Int → Prop} : ∀ n, (∀ k, k < n → bt S k = 1 → (P (F k) ↔ P (T k))) → tot F S P n = tot T S P n
  | 0, _ => rfl
  | n + 1, h => by
    simp only [tot]
    rw [tot_cl n (fun k hk => h k (by omega))]
    rcases bt_01 S n with e | e
    · rw [e, Int.mul_zero, Int.mul_zero]
    · rw [ind_iff (h n (by omega) e)]
theorem odn_sm {F T : Nat → Int} {n : Nat} {ow S : Int} : ∀ m, odn F T n ow S m = sm (fun c => if ow = 0 then (oc F S c n + oc T S c n) % 2 else if oc F S c n = oc T S c n then 0 else 1) m
  | 0 => rfl
  | m + 1 => by
    simp only [odn, sm, odn_sm m]
theorem oc_pos {F : Nat → Int} {S c : Int} : ∀ n, 0 < oc F S c n → ∃ k, k < n ∧ F k = c ∧ bt S k = 1
  | 0, h => by simp [oc] at h
  | n + 1, h => by
    simp only [oc] at h
    by_cases e : F n = c ∧ bt S n = 1
    · exact ⟨n, by omega, e⟩
    · have h2 : 0 < oc F S c n := by
        by_cases e1 : F n = c
        · rw [if_pos e1] at h
          rcases bt_01 S n with b | b
          · omega
          · exact absurd ⟨e1, b⟩ e
        · rw [if_neg e1] at h
          omega
      obtain ⟨k, a, b⟩ := oc_pos n h2
      exact ⟨k, by omega, b⟩
theorem oc_two {F : Nat → Int} {S c : Int} : ∀ n k, k < n → F k = c → bt S k = 1 → (∀ j, j < n → F j = c → bt S j = 1 → j = k) → oc F S c n = 1
  | 0, k, h, _, _, _ => by omega
  | n + 1, k, h, h1, h2, h3 => by
    simp only [oc]
    by_cases e : k = n
    · subst e
      rw [if_pos h1, h2]
      have h0 := oc_le F S c k
      have : ¬ 0 < oc F S c k := fun hp => by
        obtain ⟨j, a, b, d⟩ := oc_pos k hp
        have := h3 j (by omega) b d
        omega
      omega
    · have ih := oc_two n k (by omega) h1 h2 (fun j hj a b => h3 j (by omega) a b)
      by_cases e1 : F n = c
      · rw [if_pos e1]
        rcases bt_01 S n with b | b
        · omega
        · exact absurd (h3 n (by omega) e1 b).symm e
      · rw [if_neg e1]
        omega
theorem oc_ge {F : Nat → Int} {S c : Int} : ∀ n k, k < n → F k = c → bt S k = 1 → 0 < oc F S c n
  | 0, k, h, _, _ => by omega
  | n + 1, k, h, h1, h2 => by
    have h0 := oc_le F S c n
    have hb := bt_01 S n
    simp only [oc]
    by_cases e : k = n
    · subst e
      rw [if_pos h1, h2]
      omega
    · have := oc_ge n k (by omega) h1 h2
      split <;> omega
/-- one street less -/
theorem oc_less {F : Nat → Int} {S S' c : Int} {e : Nat} : ∀ n, (∀ k, k < n → bt S' k = if k = e then 0 else bt S k) → bt S e = 1 → oc F S' c n = oc F S c n - (if e < n ∧ F e = c then 1 else 0)
  | 0, _, _ => by simp [oc]
  | n + 1, h, h1 => by
    have ih := oc_less (F := F) (c := c) n (fun k hk => h k (by omega)) h1
    simp only [oc]
    rw [ih, h n (by omega)]
    by_cases e2 : n = e
    · subst e2
      rw [if_neg (show ¬ (n < n ∧ F n = c) by omega), if_pos rfl]
      by_cases e3 : F n = c
      · rw [if_pos e3, if_pos e3, if_pos ⟨by omega, e3⟩, h1]
        omega
      · rw [if_neg e3, if_neg e3, if_neg (fun h => e3 h.2)]
        omega
    · rw [if_neg e2]
      by_cases e4 : e < n ∧ F e = c
      · rw [if_pos e4, if_pos (show e < n + 1 ∧ F e = c from ⟨by omega, e4.2⟩)]
        omega
      · rw [if_neg e4, if_neg (show ¬ (e < n + 1 ∧ F e = c) from fun h => e4 ⟨by omega, h.2⟩)]
        omega
/-- the corners' balance: one corner where a walk begins, one where it ends -/
def zf (F T : Nat → Int) (n : Nat) (ow S : Int) (c z : Nat) : Prop := ∀ v : Nat, v < 10 → (ow = 0 → (oc F S v n + oc T S v n) % 2 = ((if v = c then 1 else 0) + (if v = z then 1 else 0)) % 2) ∧ (ow ≠ 0 → oc F S v n = oc T S v n + (if v = c then 1 else 0) - (if v = z then 1 else 0))
theorem st_zf {F T : Nat → Int} {n c : Nat} {ow S : Int} (hF : ∀ k, k < n → 0 ≤ F k ∧ F k < 10) (hT : ∀ k, k < n → 0 ≤ T k ∧ T k < 10) (hc : c < 10) (h : (odn F T n ow S 10 = 0 ∧ 0 < oc F S c n + oc T S c n) ∨ (odn F T n ow S 10 = 2 ∧ ((ow = 0 ∧ (oc F S c n + oc T S c n) % 2 = 1) ∨ (ow ≠ 0 ∧ oc F S c n = oc T S c n + 1)))) : ∃ z, z < 10 ∧ zf F T n ow S c z := by
  rw [odn_sm] at h
  have h01 : ∀ v : Nat, v < 10 → (if ow = 0 then (oc F S v n + oc T S v n) % 2 else if oc F S v n = oc T S v n then 0 else 1) = 0 ∨ (if ow = 0 then (oc F S v n + oc T S v n) % 2 else if oc F S v n = oc T S v n then 0 else 1) = 1 := fun v _ => by
    split
    · omega
    · split <;> omega
  rcases h with ⟨h1, h2⟩ | ⟨h1, h2⟩
  · have h3 := sm_all0 10 (fun v hv => by have := h01 v hv; omega) h1
    refine ⟨c, hc, fun v hv => ⟨fun e => ?_, fun e => ?_⟩⟩
    · have := h3 v hv
      rw [if_pos e] at this
      rw [this]
      split <;> rfl
    · have := h3 v hv
      rw [if_neg e] at this
      split at this <;> omega
  · have hc1 : (if ow = 0 then (oc F S c n + oc T S c n) % 2 else if oc F S c n = oc T S c n then 0 else 1) = 1 := by
      rcases h2 with ⟨a, b⟩ | ⟨a, b⟩
      · rw [if_pos a]; exact b
      · rw [if_neg a, if_neg (by omega)]
    obtain ⟨z, z1, z2, z3, z4⟩ := sm_ex2 h01 h1 hc hc1
    refine ⟨z, z1, fun v hv => ⟨fun e => ?_, fun e => ?_⟩⟩
    · by_cases e1 : v = c
      · rw [if_pos e] at hc1
        rw [e1, if_pos rfl, if_neg (fun e => z2 e.symm)]
        exact hc1
      · by_cases e2 : v = z
        · rw [if_pos e] at z3
          rw [e2, if_neg z2, if_pos rfl]
          exact z3
        · have := z4 v hv e1 e2
          rw [if_pos e] at this
          rw [if_neg e1, if_neg e2]
          exact this
    · have hcc : oc F S c n = oc T S c n + 1 := by
        rcases h2 with ⟨a, _⟩ | ⟨_, b⟩
        · exact absurd a e
        · exact b
      have h0 : ∀ v : Nat, v < 10 → v ≠ c → v ≠ z → oc F S v n = oc T S v n := fun v hv a b => by
        have := z4 v hv a b
        rw [if_neg e] at this
        split at this <;> omega
      have a1 := oc_tot (F := F) (S := S) (P := fun _ => True) n hF
      have a2 := oc_tot (F := T) (S := S) (P := fun _ => True) n hT
      have a3 := tot_cl (F := F) (T := T) (S := S) (P := fun _ => True) n (fun _ _ _ => Iff.rfl)
      have hs : sm (fun v => ind True * oc F S v n) 10 = sm (fun v => ind True * oc T S v n) 10 + (sm (fun v => if v = c then 1 else 0) 10 + sm (fun v => if v = z then (oc F S z n - oc T S z n) else 0) 10) := by
        rw [← sm_add, ← sm_add]
        refine sm_congr 10 (fun v hv => ?_)
        rw [ind_t trivial]
        by_cases e1 : v = c
        · rw [e1, if_pos rfl, if_neg (fun e => z2 e.symm)]
          omega
        · by_cases e2 : v = z
          · rw [e2, if_neg z2, if_pos rfl]
            omega
          · rw [if_neg e1, if_neg e2]
            have := h0 v hv e1 e2
            omega
      rw [sm_one 10 hc, sm_one 10 z1] at hs
      have hz : oc F S z n = oc T S z n - 1 := by omega
      by_cases e1 : v = c
      · rw [e1, if_pos rfl, if_neg (fun e => z2 e.symm)]
        omega
      · by_cases e2 : v = z
        · rw [e2, if_neg z2, if_pos rfl]
          omega
        · rw [if_neg e1, if_neg e2]
          have := h0 v hv e1 e2
          omega
theorem zf_st {F T : Nat → Int} {n g z : Nat} {ow S : Int} (hg : g < 10) (hz : z < 10) (h : zf F T n ow S g z) (ht : g = z → 0 < oc F S g n + oc T S g n) : (odn F T n ow S 10 = 0 ∧ 0 < oc F S g n + oc T S g n) ∨ (odn F T n ow S 10 = 2 ∧ ((ow = 0 ∧ (oc F S g n + oc T S g n) % 2 = 1) ∨ (ow ≠ 0 ∧ oc F S g n = oc T S g n + 1))) := by
  rw [odn_sm]
  by_cases e : g = z
  · left
    refine ⟨?_, ht e⟩
    rw [sm_congr (h := fun _ => 0) 10 (fun v hv => ?_)]
    · rfl
    · have := h v hv
      by_cases e0 : ow = 0
      · rw [if_pos e0, this.1 e0, e]
        split <;> rfl
      · have := this.2 e0
        rw [e] at this
        rw [if_neg e0, if_pos (by split at this <;> omega)]
  · right
    refine ⟨?_, ?_⟩
    · rw [sm_congr (h := fun v => (if v = g then 1 else 0) + (if v = z then 1 else 0)) 10 (fun v hv => ?_)]
      · rw [sm_add, sm_one 10 hg, sm_one 10 hz]
        rfl
      · have := h v hv
        by_cases e0 : ow = 0
        · rw [if_pos e0, this.1 e0]
          by_cases e1 : v = g
          · rw [if_pos e1, if_neg (by omega)]; rfl
          · rw [if_neg e1]
            split <;> rfl
        · have := this.2 e0
          rw [if_neg e0]
          by_cases e1 : v = g
          · rw [if_pos e1, if_neg (show ¬ v = z by omega)] at this ⊢
            rw [if_neg (by omega)]; rfl
          · rw [if_neg e1] at this ⊢
            by_cases e2 : v = z
            · rw [if_pos e2] at this ⊢
              rw [if_neg (by omega)]; rfl
            · rw [if_neg e2] at this ⊢
              rw [if_pos (by omega)]; rfl
    · have := h g hg
      by_cases e0 : ow = 0
      · left
        refine ⟨e0, ?_⟩
        rw [this.1 e0, if_pos rfl, if_neg e]
        rfl
      · right
        refine ⟨e0, ?_⟩
        have := this.2 e0
        rw [if_pos rfl, if_neg e] at this
        omega
/-- reached from g by the streets of S -/
def rch (F T : Nat → Int) (n : Nat) (S g v : Int) : Prop := ∀ P : Int → Prop, (∀ k, k < n → bt S k = 1 → (P (F k) ↔ P (T k))) → P g → P v
theorem rch_g {F T : Nat → Int} {n : Nat} {S g : Int} : rch F T n S g g := fun _ _ h => h
theorem rch_cl {F T : Nat → Int} {n : Nat} {S g : Int} : ∀ k, k < n → bt S k = 1 → (rch F T n S g (F k) ↔ rch F T n S g (T k)) := fun k hk hb => ⟨fun h P hP hg => (hP k hk hb).mp (h P hP hg), fun h P hP hg => (hP k hk hb).mpr (h P hP hg)⟩
/-- what is reached holds the walk's end -/
theorem rch_z {F T : Nat → Int} {n g z : Nat} {ow S : Int} (hF : ∀ k, k < n → 0 ≤ F k ∧ F k < 10) (hT : ∀ k, k < n → 0 ≤ T k ∧ T k < 10) (hg : g < 10) (hz : z < 10) (h : zf F T n ow S g z) : rch F T n S g z := by
  have a1 := oc_tot (F := F) (S := S) (P := rch F T n S g) n hF
  have a2 := oc_tot (F := T) (S := S) (P := rch F T n S g) n hT
  have a3 := tot_cl (F := F) (T := T) (S := S) (P := rch F T n S g) n rch_cl
  have ig : ind (rch F T n S g g) = 1 := ind_t rch_g
  by_cases e0 : ow = 0
  · have hs : sm (fun v => ind (rch F T n S g v) * oc F S v n) 10 + sm (fun v => ind (rch F T n S g v) * oc T S v n) 10 = (sm (fun v => if v = g then ind (rch F T n S g g) else 0) 10 + sm (fun v => if v = z then ind (rch F T n S g z) else 0) 10) + sm (fun v => 2 * (ind (rch F T n S g v) * ((oc F S v n + oc T S v n - (if v = g then 1 else 0) - (if v = z then 1 else 0)) / 2))) 10 := by
      rw [← sm_add, ← sm_add, ← sm_add]
      refine sm_congr 10 (fun v hv => ?_)
      have hp := (h v hv).1 e0
      have e1 : (if v = g then ind (rch F T n S g g) else 0) = ind (rch F T n S g v) * (if v = g then 1 else 0) := by
        by_cases e : v = g
        · rw [if_pos e, if_pos e, e]; omega
        · rw [if_neg e, if_neg e]; omega
      have e2 : (if v = z then ind (rch F T n S g z) else 0) = ind (rch F T n S g v) * (if v = z then 1 else 0) := by
        by_cases e : v = z
        · rw [if_pos e, if_pos e, e]; omega
        · rw [if_neg e, if_neg e]; omega
      rw [e1, e2]
      rcases ind_01 (rch F T n S g v) with ⟨_, e⟩ | ⟨_, e⟩
      · rw [e]
        split <;> split <;> rename_i q1 q2 <;> simp only [q1, q2, if_true, if_false] at hp ⊢ <;> omega
      · rw [e]
        omega
    rw [sm_one 10 hg, sm_one 10 hz, ig, sm_dbl] at hs
    rcases ind_01 (rch F T n S g z) with ⟨hr, e⟩ | ⟨hr, e⟩
    · exact hr
    · rw [e, a1, a2, a3] at hs
      omega
  · have hs : sm (fun v => ind (rch F T n S g v) * oc F S v n) 10 + sm (fun v => if v = z then ind (rch F T n S g z) else 0) 10 = sm (fun v => ind (rch F T n S g v) * oc T S v n) 10 + sm (fun v => if v = g then ind (rch F T n S g g) else 0) 10 := by
      rw [← sm_add, ← sm_add]
      refine sm_congr 10 (fun v hv => ?_)
      have hp := (h v hv).2 e0
      have e1 : (if v = g then ind (rch F T n S g g) else 0) = ind (rch F T n S g v) * (if v = g then 1 else 0) := by
        by_cases e : v = g
        · rw [if_pos e, if_pos e, e]; omega
        · rw [if_neg e, if_neg e]; omega
      have e2 : (if v = z then ind (rch F T n S g z) else 0) = ind (rch F T n S g v) * (if v = z then 1 else 0) := by
        by_cases e : v = z
        · rw [if_pos e, if_pos e, e]; omega
        · rw [if_neg e, if_neg e]; omega
      rw [e1, e2]
      rcases ind_01 (rch F T n S g v) with ⟨_, e⟩ | ⟨_, e⟩
      · rw [e]
        omega
      · rw [e]
        omega
    rw [sm_one 10 hg, sm_one 10 hz, ig, a1, a2, a3] at hs
    rcases ind_01 (rch F T n S g z) with ⟨hr, e⟩ | ⟨hr, e⟩
    · exact hr
    · rw [e] at hs
      omega
/-- where a street that is left by corner c leads -/
def gof (F T : Nat → Int) (c : Int) (e : Nat) : Int := if F e = c then T e else F e
def lvs (F T : Nat → Int) (ow c : Int) (e : Nat) : Prop := F e = c ∨ (ow = 0 ∧ T e = c)
theorem gof_e {F T : Nat → Int} {ow c : Int} {e : Nat} (h : lvs F T ow c e) : (F e = c ∧ T e = gof F T c e) ∨ (F e = gof F T c e ∧ T e = c) := by
  unfold gof
  by_cases e1 : F e = c
  · rw [if_pos e1]
    exact Or.inl ⟨e1, rfl⟩
  · rw [if_neg e1]
    exact Or.inr ⟨rfl, (h.resolve_left e1).2⟩
/-- one street less, in the balance -/
theorem zf_less {F T : Nat → Int} {n c z g e : Nat} {ow S S' : Int} (he : e < n) (hb : bt S e = 1) (hS : ∀ k, k < n → bt S' k = if k = e then 0 else bt S k) (hl : lvs F T ow c e) (hg : gof F T c e = g) (h : zf F T n ow S c z) : zf F T n ow S' g z := by
  intro v hv
  have h1 := oc_less (F := F) (c := v) n hS hb
  have h2 := oc_less (F := T) (c := v) n hS hb
  have hv2 := h v hv
  rw [h1, h2]
  have iz : ∀ x : Nat, (if e < n ∧ (x : Int) = (v : Int) then (1 : Int) else 0) = if v = x then 1 else 0 := fun x => by
    by_cases q : v = x
    · rw [if_pos q, if_pos ⟨he, by omega⟩]
    · rw [if_neg q, if_neg (fun h => q (by omega))]
  have h3 := hv2.1
  have h4 := hv2.2
  clear hv2 h1 h2
  rcases gof_e hl with ⟨a, b⟩ | ⟨a, b⟩
  · rw [a, b, hg, iz, iz]
    generalize (if v = c then (1 : Int) else 0) = A at *
    generalize (if v = g then (1 : Int) else 0) = B at *
    generalize (if v = z then (1 : Int) else 0) = C at *
    exact ⟨fun e0 => by have := h3 e0; omega, fun e0 => by have := h4 e0; omega⟩
  · rw [a, b, hg, iz, iz]
    rcases hl with hl | hl
    · have hgc : (g : Int) = c := by rw [← hg, ← a]; exact hl
      have hgc2 : g = c := by omega
      subst hgc2
      generalize (if v = g then (1 : Int) else 0) = B at *
      generalize (if v = z then (1 : Int) else 0) = C at *
      exact ⟨fun e0 => by have := h3 e0; omega, fun e0 => by have := h4 e0; omega⟩
    · generalize (if v = c then (1 : Int) else 0) = A at *
      generalize (if v = g then (1 : Int) else 0) = B at *
      generalize (if v = z then (1 : Int) else 0) = C at *
      exact ⟨fun e0 => by have := h3 e0; omega, fun e0 => absurd hl.1 e0⟩
/-- all others are reached behind it: they are a START's -/
theorem good_st {F T : Nat → Int} {n g z : Nat} {ow S : Int} (hg : g < 10) (hz : z < 10) (hn : ∀ k, bt S k = 1 → k < n) (h0 : 0 ≤ S) (h : zf F T n ow S g z) (hr : ∀ k, k < n → bt S k = 1 → rch F T n S g (F k)) : ST F T n ow S g := by
  by_cases e : S = 0
  · exact Or.inl e
  · obtain ⟨k, hk⟩ : ∃ k, bt S k = 1 := Classical.byContradiction fun h2 => e (bt_ext2 h0 (Int.le_refl _) (fun k => ⟨fun h3 => absurd ⟨k, h3⟩ h2, fun h3 => by rw [bt_0] at h3; omega⟩))
    have hkn := hn k hk
    refine Or.inr ⟨fun P hP ⟨k0, a, b, c⟩ j hj hjb => ?_, zf_st hg hz h (fun _ => ?_)⟩
    · rcases Classical.em (P g) with hPg | hPg
      · exact hr j hj hjb P hP hPg
      · have := hr k0 a b (fun v => ¬ P v) (fun k hk hkb => by rw [hP k hk hkb]) hPg
        exact absurd c this
    · have o1 := oc_le F S g n
      have o2 := oc_le T S g n
      refine Classical.byContradiction fun h2 => ?_
      have h3 : ∀ j, j < n → bt S j = 1 → F j ≠ g ∧ T j ≠ g := fun j hj hjb => ⟨fun h4 => by have := oc_ge (F := F) n j hj h4 hjb; omega, fun h4 => by have := oc_ge (F := T) n j hj h4 hjb; omega⟩
      exact (h3 k hkn hk).1 (hr k hkn hk (fun v => v = g) (fun j hj hjb => ⟨fun h4 => absurd h4 (h3 j hj hjb).1, fun h4 => absurd h4 (h3 j hj hjb).2⟩) rfl)
theorem fleury {F T : Nat → Int} {n : Nat} {ow S c : Int} (hF : ∀ k, k < n → 0 ≤ F k ∧ F k < 10) (hT : ∀ k, k < n → 0 ≤ T k ∧ T k < 10) (hS : 0 ≤ S ∧ S < 1073741824) (h30 : n ≤ 30) (hn : ∀ k, bt S k = 1 → k < n) (h0 : S ≠ 0) (h : ST F T n ow S c) : ∃ e, e < n ∧ bt S e = 1 ∧ lvs F T ow c e ∧ ST F T n ow (clr S e) (gof F T c e) := by
  obtain ⟨hG, hST⟩ := h.resolve_left h0
  have o1 := oc_le F S c n
  have o2 := oc_le T S c n

  obtain ⟨e0, l1, l2, l3⟩ : ∃ e, e < n ∧ bt S e = 1 ∧ lvs F T ow c e := by
    by_cases eo : ow = 0
    · have hp : 0 < oc F S c n + oc T S c n := by rcases hST with a | ⟨_, a | a⟩ <;> omega
      by_cases hp2 : 0 < oc F S c n
      · obtain ⟨k, a, b, d⟩ := oc_pos n hp2
        exact ⟨k, a, d, Or.inl b⟩
      · obtain ⟨k, a, b, d⟩ := oc_pos (F := T) (S := S) (c := c) n (by omega)
        exact ⟨k, a, d, Or.inr ⟨eo, b⟩⟩
    · have hp : 0 < oc F S c n := by
        rcases hST with ⟨a, b⟩ | ⟨_, a | a⟩
        · refine Classical.byContradiction fun h2 => ?_
          obtain ⟨k, a1, b1, d1⟩ := oc_pos (F := T) (S := S) (c := c) n (by omega)
          obtain ⟨x, hx⟩ := Int.eq_ofNat_of_zero_le (hT k a1).1
          have hx2 := (hT k a1).2
          rw [odn_sm] at a
          have := sm_all0 10 (fun v hv => by rw [if_neg eo]; split <;> omega) a x (by omega)
          rw [if_neg eo, ← hx, b1] at this
          split at this <;> omega
        · omega
        · omega
      obtain ⟨k, a, b, d⟩ := oc_pos n hp
      exact ⟨k, a, d, Or.inl b⟩
  obtain ⟨cn, hcn, hc10⟩ : ∃ cn : Nat, c = cn ∧ cn < 10 := by
    have hc : 0 ≤ c ∧ c < 10 := by
      rcases l3 with a | ⟨_, a⟩
      · rw [← a]; exact hF e0 l1
      · rw [← a]; exact hT e0 l1
    exact ⟨c.toNat, by omega, by omega⟩
  subst hcn
  obtain ⟨z, hz, hzf⟩ := st_zf hF hT hc10 hST
  have hbit : ∀ e, e < n → ∀ k, k < n → bt (clr S e) k = if k = e then 0 else bt S k := fun e he k hk => (clr_spec hS (s := e) (by omega)).2 k (by omega)
  have hnn : ∀ e, e < n → ∀ k, bt (clr S e) k = 1 → k < n := fun e he k hk => by
    have hs := clr_spec hS (s := e) (by omega)
    by_cases h32 : k < 32
    · have := hs.2 k h32
      rw [hk] at this
      by_cases e2 : k = e
      · omega
      · rw [if_neg e2] at this
        exact hn k this.symm
    · have := bt_hi30 hs.1 (k := k) (by omega)
      omega
  have hgb : ∀ e, e < n → ∃ g : Nat, gof F T cn e = g ∧ g < 10 := fun e he => by
    have h1 := hF e he
    have h2 := hT e he
    refine ⟨(gof F T cn e).toNat, ?_, ?_⟩ <;> (unfold gof; split <;> omega)
  have hcl : ∀ e, e < n → (clr S e) ≥ 0 := fun e he => (clr_spec hS (s := e) (by omega)).1.1
  have fin : ∀ e, e < n → bt S e = 1 → lvs F T ow cn e → (∀ k, k < n → bt (clr S e) k = 1 → rch F T n (clr S e) (gof F T cn e) (F k)) → ∃ e, e < n ∧ bt S e = 1 ∧ lvs F T ow cn e ∧ ST F T n ow (clr S e) (gof F T cn e) := fun e he hb hl hr => by
    obtain ⟨g, hg, hg10⟩ := hgb e he
    refine ⟨e, he, hb, hl, ?_⟩
    rw [hg] at hr ⊢
    exact good_st hg10 hz (hnn e he) (hcl e he) (zf_less he hb (hbit e he) hl hg hzf) hr
  by_cases hex : ∃ e, e < n ∧ bt S e = 1 ∧ lvs F T ow cn e ∧ rch F T n (clr S e) (gof F T cn e) cn
  · obtain ⟨e, he, hb, hl, hr⟩ := hex
    refine fin e he hb hl (fun k hk hkb => ?_)
    have hkk := hbit e he k hk
    rw [hkb] at hkk
    have hke : k ≠ e := fun h2 => by rw [if_pos h2] at hkk; omega
    rw [if_neg hke] at hkk
    refine hG (rch F T n (clr S e) (gof F T cn e)) (fun j hj hjb => ?_) ⟨e, he, hb, ?_⟩ k hk hkk.symm
    · by_cases hje : j = e
      · subst hje
        rcases gof_e hl with ⟨a, b⟩ | ⟨a, b⟩
        · rw [a, b]
          exact ⟨fun _ => rch_g, fun _ => hr⟩
        · rw [a, b]
          exact ⟨fun _ => hr, fun _ => rch_g⟩
      · exact rch_cl j hj (by rw [hbit e he j hj, if_neg hje]; exact hjb)
    · rcases gof_e hl with ⟨a, b⟩ | ⟨a, b⟩
      · rw [a]; exact hr
      · rw [a]; exact rch_g
  · have hno : ∀ e, e < n → bt S e = 1 → lvs F T ow cn e → ¬ rch F T n (clr S e) (gof F T cn e) cn := fun e he hb hl hr => hex ⟨e, he, hb, hl, hr⟩
    have hzr : ∀ e, e < n → bt S e = 1 → lvs F T ow cn e → rch F T n (clr S e) (gof F T cn e) z := fun e he hb hl => by
      obtain ⟨g, hg, hg10⟩ := hgb e he
      have := zf_less he hb (hbit e he) hl hg hzf
      rw [hg]
      exact rch_z hF hT hg10 hz this
    have hzc : z ≠ cn := fun h2 => hno e0 l1 l2 l3 (by have h3 := hzr e0 l1 l2 l3; rw [h2] at h3; exact h3)
    have huni : ∀ e, e < n → bt S e = 1 → lvs F T ow cn e → e = e0 := fun e he hb hl => Classical.byContradiction fun hne => by

      refine hno e0 l1 l2 l3 (fun P hP hg2 => ?_)
      have hPz : P z := hzr e0 l1 l2 l3 P hP hg2
      have hPg1 : P (gof F T cn e) := Classical.byContradiction fun hn1 => by
        have := hzr e he hb hl (fun v => rch F T n (clr S e) (gof F T cn e) v ∧ ¬ P v) (fun k hk hkb => ?_) ⟨rch_g, hn1⟩
        · exact this.2 hPz
        · have hkk := hbit e he k hk
          rw [hkb] at hkk
          have hke : k ≠ e := fun h2 => by rw [if_pos h2] at hkk; omega
          rw [if_neg hke] at hkk
          have hrc := rch_cl (F := F) (T := T) (n := n) (S := clr S e) (g := gof F T cn e) k hk hkb
          by_cases hk0 : k = e0
          · subst hk0
            have hnc := hno e he hb hl
            rcases gof_e l3 with ⟨a, b⟩ | ⟨a, b⟩
            · rw [a] at hrc ⊢
              exact ⟨fun h3 => absurd h3.1 hnc, fun h3 => absurd (hrc.mpr h3.1) hnc⟩
            · rw [b] at hrc ⊢
              exact ⟨fun h3 => absurd (hrc.mp h3.1) hnc, fun h3 => absurd h3.1 hnc⟩
          · rw [hrc, hP k hk (by rw [hbit e0 l1 k hk, if_neg hk0]; exact hkk.symm)]
      have hPe := hP e he (by rw [hbit e0 l1 e he, if_neg hne]; exact hb)
      rcases gof_e hl with ⟨a, b⟩ | ⟨a, b⟩
      · rw [a, b] at hPe
        exact hPe.mpr hPg1
      · rw [a, b] at hPe
        exact hPe.mp hPg1

    have htouch : ∀ k, k < n → bt S k = 1 → k ≠ e0 → F k ≠ cn ∧ T k ≠ cn := fun k hk hkb hke => by
      refine ⟨fun h2 => hke (huni k hk hkb (Or.inl h2)), fun h2 => ?_⟩
      by_cases eo : ow = 0
      · exact hke (huni k hk hkb (Or.inr ⟨eo, h2⟩))
      · have hd := (hzf cn hc10).2 eo
        rw [if_pos rfl, if_neg (fun e => hzc e.symm)] at hd
        have hone := oc_two (F := F) (S := S) (c := cn) n e0 l1 (l3.resolve_right (fun h3 => eo h3.1)) l2 (fun j hj a b => huni j hj b (Or.inl a))
        have := oc_ge (F := T) n k hk h2 hkb
        omega
    refine fin e0 l1 l2 l3 (fun k hk hkb => ?_)
    have hkk := hbit e0 l1 k hk
    rw [hkb] at hkk
    have hke : k ≠ e0 := fun h2 => by rw [if_pos h2] at hkk; omega
    rw [if_neg hke] at hkk
    have := hG (fun v => rch F T n (clr S e0) (gof F T cn e0) v ∨ v = cn) (fun j hj hjb => ?_) ⟨e0, l1, l2, ?_⟩ k hk hkk.symm
    · rcases this with h2 | h2
      · exact h2
      · exact absurd h2 (htouch k hk hkk.symm hke).1
    · by_cases hje : j = e0
      · subst hje
        rcases gof_e l3 with ⟨a, b⟩ | ⟨a, b⟩
        · rw [a, b]
          exact ⟨fun _ => Or.inl rch_g, fun _ => Or.inr rfl⟩
        · rw [a, b]
          exact ⟨fun _ => Or.inr rfl, fun _ => Or.inl rch_g⟩
      · have ht := htouch j hj hjb hje
        have := rch_cl (F := F) (T := T) (n := n) (S := clr S e0) (g := gof F T cn e0) j hj (by rw [hbit e0 l1 j hj, if_neg hje]; exact hjb)
        exact ⟨fun h3 => Or.inl (this.mp (h3.resolve_right ht.1)), fun h3 => Or.inl (this.mpr (h3.resolve_right ht.2))⟩
    · rcases gof_e l3 with ⟨a, b⟩ | ⟨a, b⟩
      · rw [a]; exact Or.inr rfl
      · rw [a]; exact Or.inl rch_g
/-- so where a START is, a street can be walked -/
theorem fleury_wh {V : mm_M} {S c : Int} (ht : tW V) (hS : 0 ≤ S ∧ S < 1073741824) (hn : ∀ k, bt S k = 1 → k < (V 2 4).toNat) (h0 : S ≠ 0) (h : STV V S c) : ∃ s : Nat, s < (V 2 4).toNat ∧ whS V S c s := by
  have t1 := ht.1
  obtain ⟨e, e1, e2, e3, e4⟩ := fleury (fun k hk => (ht.2.1 k (by omega)).1) (fun k hk => (ht.2.1 k (by omega)).2) hS (by omega) hn h0 h
  refine ⟨e, e1, e2, ?_, ?_⟩
  · unfold lv
    rw [Int.toNat_natCast]
    rcases e3 with a | ⟨a, b⟩
    · rw [if_pos a]; omega
    · by_cases q : V 3 e = c
      · rw [if_pos q]; omega
      · rw [if_neg q, if_pos ⟨a, b⟩]; omega
  · have : gl V (lv V e c) = gof (V 3) (V 4) c e := by
      unfold lv gof
      rw [Int.toNat_natCast]
      by_cases q : V 3 e = c
      · rw [if_pos q, if_pos q]
        unfold gl
        rw [if_pos (by omega), show (2 * (e : Int) / 2).toNat = e by omega]
      · rw [if_neg q, if_neg q, if_pos (e3.resolve_left q)]
        unfold gl
        rw [if_neg (by omega), show ((2 * (e : Int) + 1) / 2).toNat = e by omega]
    rw [this]
    exact e4

