/-! no street twice -/
def wD (M : mm_M) (w : Nat) : Prop := ∀ i j : Nat, i < M w 2 → j < M w 2 → M (w + 1) i / 2 = M (w + 1) j / 2 → i = j
def wN (M : mm_M) (w : Nat) (s : Int) : Prop := ∀ i : Nat, i < M w 2 → M (w + 1) i / 2 ≠ s
theorem wD.to {M M' : mm_M} {w : Nat} (h : wD M w) (h1 : M' w = M w) (h2 : M' (w + 1) = M (w + 1)) : wD M' w := by
  unfold wD
  rw [h1, h2]
  exact h
theorem wD.to2 {M M' : mm_M} {w : Nat} (h : wD M w) (h1 : M' w 2 = M w 2) (h2 : M' (w + 1) = M (w + 1)) : wD M' w := by
  unfold wD
  rw [h1, h2]
  exact h
theorem wN.to {M M' : mm_M} {w : Nat} {s : Int} (h : wN M w s) (h1 : M' w = M w) (h2 : M' (w + 1) = M (w + 1)) : wN M' w s := by
  unfold wN
  rw [h1, h2]
  exact h
theorem put_ix {M M' : mm_M} {w : Nat} {p s : Int} (h : putR M M' w p s) : ∀ i : Nat, i < M' w 2 → (M' (w + 1) i = s ∧ (i : Int) = p) ∨ ∃ i' : Nat, i' < M w 2 ∧ M' (w + 1) i = M (w + 1) i' ∧ ((i' = i ∧ (M' = M ∨ i < p)) ∨ (i' + 1 = i ∧ p < i)) := by
  intro i hi
  rcases h with ⟨h0, h1, h2, h3⟩ | ⟨-, rfl⟩
  · obtain ⟨a1, a2, a3⟩ := h3 i (by omega)
    rcases Int.lt_trichotomy (i : Int) p with h4 | h4 | h4
    · exact Or.inr ⟨i, by omega, a1 h4, Or.inl ⟨rfl, Or.inr h4⟩⟩
    · exact Or.inl ⟨a2 h4, h4⟩
    · exact Or.inr ⟨i - 1, by omega, a3 h4, Or.inr ⟨by omega, h4⟩⟩
  · exact Or.inr ⟨i, hi, rfl, Or.inl ⟨rfl, Or.inl rfl⟩⟩
theorem put_wD {M M' : mm_M} {w : Nat} {p s : Int} (hd : wD M w) (hn : wN M w (s / 2)) (h : putR M M' w p s) : wD M' w := by
  intro i j hi hj e
  rcases put_ix h i hi with ⟨a1, a2⟩ | ⟨i', a0, a1, a2⟩
  · rcases put_ix h j hj with ⟨b1, b2⟩ | ⟨j', b0, b1, b2⟩
    · omega
    · rw [a1, b1] at e
      exact absurd e.symm (hn j' b0)
  · rcases put_ix h j hj with ⟨b1, b2⟩ | ⟨j', b0, b1, b2⟩
    · rw [a1, b1] at e
      exact absurd e (hn i' a0)
    · rw [a1, b1] at e
      have h5 := hd i' j' a0 b0 e
      rcases a2 with ⟨a2, a3 | a3⟩ | a2
      · subst a3
        rcases h with h6 | h6
        · have := h6.2.1
          omega
        · rcases b2 with b2 | b2
          · omega
          · subst a2
            subst h5
            have e1 := b2.1
            exfalso
            have := hd i' j a0 hj (by rw [b1])
            omega
      · rcases b2 with ⟨b2, b3 | b3⟩ | b2
        · subst b3
          have := hd i' j a0 hj (by rw [b1]; exact e)
          omega
        · omega
        · omega
      · rcases b2 with ⟨b2, b3 | b3⟩ | b2
        · subst b3
          have := hd i j' hi b0 (by rw [a1]; exact e)
          omega
        · omega
        · omega
theorem put_wN {M M' : mm_M} {w : Nat} {p s t : Int} (hn : wN M w t) (hs : s / 2 ≠ t) (h : putR M M' w p s) : wN M' w t := by
  intro i hi
  rcases put_ix h i hi with ⟨a1, a2⟩ | ⟨i', a0, a1, a2⟩
  · rw [a1]
    exact hs
  · rw [a1]
    exact hn i' a0
theorem tak_ix {M M' : mm_M} {w : Nat} {p : Int} (h : takR M M' w p) (hp : 0 ≤ p ∧ p < M w 2) : ∀ i : Nat, i < M' w 2 → ∃ i' : Nat, i' < M w 2 ∧ M' (w + 1) i = M (w + 1) i' ∧ ((i' = i ∧ i < p) ∨ (i' = i + 1 ∧ p ≤ i)) := by
  intro i hi
  rcases h with ⟨h0, h1, h2, h3⟩ | ⟨h0, -⟩
  · obtain ⟨a1, a2⟩ := h3 i (by omega)
    rcases Int.lt_or_le (i : Int) p with h4 | h4
    · exact ⟨i, by omega, a1 h4, Or.inl ⟨rfl, h4⟩⟩
    · exact ⟨i + 1, by omega, a2 h4, Or.inr ⟨rfl, h4⟩⟩
  · exact absurd hp h0
theorem tak_wD {M M' : mm_M} {w : Nat} {p : Int} (hd : wD M w) (h : takR M M' w p) : wD M' w := by
  by_cases hp : 0 ≤ p ∧ p < M w 2
  · intro i j hi hj e
    obtain ⟨i', a0, a1, a2⟩ := tak_ix h hp i hi
    obtain ⟨j', b0, b1, b2⟩ := tak_ix h hp j hj
    rw [a1, b1] at e
    have := hd i' j' a0 b0 e
    omega
  · rcases h with h | ⟨-, rfl⟩
    · exact absurd h.1 hp
    · exact hd
theorem tak_wN {M M' : mm_M} {w : Nat} {p t : Int} (hn : wN M w t) (h : takR M M' w p) : wN M' w t := by
  by_cases hp : 0 ≤ p ∧ p < M w 2
  · intro i hi
    obtain ⟨i', a0, a1, a2⟩ := tak_ix h hp i hi
    rw [a1]
    exact hn i' a0
  · rcases h with h | ⟨-, rfl⟩
    · exact absurd h.1 hp
    · exact hn
/-- what is taken out isn't there any more -/
theorem tak_out {M M' : mm_M} {w : Nat} {p : Int} (hd : wD M w) (h : takR M M' w p) (hp : 0 ≤ p ∧ p < M w 2) : wN M' w (M (w + 1) p.toNat / 2) := by
  intro i hi e
  obtain ⟨i', a0, a1, a2⟩ := tak_ix h hp i hi
  rw [a1] at e
  have := hd i' p.toNat a0 (by omega) e
  omega
/-- pigeons: streets below n, none twice, and one that isn't there: fewer than n -/
theorem pigeon : ∀ (n : Nat) (f : Nat → Nat) (m : Nat), (∀ i, i < m → f i < n) → (∀ i j, i < m → j < m → f i = f j → i = j) → m ≤ n
  | 0, f, m, h, _ => by
    cases m with
    | zero => omega
    | succ m => exact absurd (h 0 (by omega)) (by omega)
  | n + 1, f, m, h, h2 => by
    by_cases hx : ∃ i, i < m ∧ f i = n
    · obtain ⟨k, hk, hkn⟩ := hx
      obtain ⟨m, rfl⟩ : ∃ m', m = m' + 1 := ⟨m - 1, by omega⟩
      have := pigeon n (fun i => if i < k then f i else f (i + 1)) m (fun i hi => by
        show (if i < k then f i else f (i + 1)) < n
        split
        · have h3 := h i (by omega)
          have : f i ≠ n := fun e => by have := h2 i k (by omega) hk (by omega); omega
          omega
        · have h3 := h (i + 1) (by omega)
          have : f (i + 1) ≠ n := fun e => by have := h2 (i + 1) k (by omega) hk (by omega); omega
          omega) (fun i j hi hj e => by
        have e : (if i < k then f i else f (i + 1)) = (if j < k then f j else f (j + 1)) := e
        split at e <;> split at e
        · exact h2 i j (by omega) (by omega) e
        · have := h2 i (j + 1) (by omega) (by omega) e
          omega
        · have := h2 (i + 1) j (by omega) (by omega) e
          omega
        · have := h2 (i + 1) (j + 1) (by omega) (by omega) e
          omega)
      omega
    · have := pigeon n f m (fun i hi => by
        have h3 := h i hi
        have : f i ≠ n := fun e => hx ⟨i, hi, e⟩
        omega) h2
      omega
theorem wD_lt {M : mm_M} {w : Nat} {s : Int} (hv : wV M w) (hd : wD M w) (hs : 0 ≤ s ∧ s < M 2 4) (hn : wN M w s) : M w 2 < M 2 4 := by
  obtain ⟨v1, v2, v3⟩ := hv
  have h := pigeon (M 2 4).toNat (fun i => if i < (M w 2).toNat then (M (w + 1) i / 2).toNat else s.toNat) ((M w 2).toNat + 1) (fun i hi => by
    show (if i < (M w 2).toNat then (M (w + 1) i / 2).toNat else s.toNat) < _
    split
    · have := v3 i (by omega)
      omega
    · omega) (fun i j hi hj e => by
    have e : (if i < (M w 2).toNat then (M (w + 1) i / 2).toNat else s.toNat) = (if j < (M w 2).toNat then (M (w + 1) j / 2).toNat else s.toNat) := e
    split at e <;> split at e
    · have a := v3 i (by omega)
      have b := v3 j (by omega)
      exact hd i j (by omega) (by omega) (by omega)
    · have a := v3 i (by omega)
      exact absurd (by omega) (hn i (by omega))
    · have b := v3 j (by omega)
      exact absurd (by omega) (hn j (by omega))
    · omega)
  omega
theorem wDk {M M' : mm_M} {v w : Nat} (h : wD M v) (hf : fr [w, w + 1] M M') (hv : isK v) (hw : isK w) (hne : v ≠ w) : wD M' v := by
  have := wk_ap hv hw hne
  exact h.to (hf v (by simp; omega)) (hf (v + 1) (by simp; omega))
theorem wNk {M M' : mm_M} {v w : Nat} {s : Int} (h : wN M v s) (hf : fr [w, w + 1] M M') (hv : isK v) (hw : isK w) (hne : v ≠ w) : wN M' v s := by
  have := wk_ap hv hw hne
  exact h.to (hf v (by simp; omega)) (hf (v + 1) (by simp; omega))
theorem wD5 {M M' : mm_M} {v : Nat} (h : wD M v) (hf : fr [5, 6] M M') (hv : isK v) : wD M' v := by
  have := wk_no hv
  exact h.to (hf v (by simp; omega)) (hf (v + 1) (by simp; omega))
theorem wD_0 {M : mm_M} {w : Nat} (h : M w 2 = 0) : wD M w := fun i j hi => by omega

