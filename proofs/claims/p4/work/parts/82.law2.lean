/-! the law's own stretches: steps for one Z; the invariant of its loop -/
def mm_QF : mm_Q := fun _ _ _ => False
/-- Z holds wherever a step of the law's code leads to Z -/
def mm_CZ (l : Launch) (SC : Nat → Option (Nat × (Nat → Int32))) (MU : Nat) (Z : Nat → mm_K) : Prop :=
  ∀ (cd : List mm_E) (ct : List (Nat × mm_Ca)), mm_chk code cd = true → mm_PEs l RL (mm_rm 2048 84000 0) ct → ∀ pc i t rest ls st M d u Kn Kj, mm_at pc cd = (pc, i, t) :: rest →
    mm_op (mm_look flL) (mm_look ct) mm_x0 (mm_look ([] : List (Nat × Int))) SC 0 MU (fun _ _ => none) mm_QF pc i t rest ls st M d u Kn Kj →
    (∀ ls st M d u, Kn ls st M d u → Z (pc + mm_len i) ls st M d u) → (∀ t ls st M d u, Kj t ls st M d u → Z t ls st M d u) → Z pc ls st M d u
section WZ
variable {l : Launch} {SC : Nat → Option (Nat × (Nat → Int32))} {MU : Nat} {Z : Nat → mm_K} {cd : List mm_E} {ct : List (Nat × mm_Ca)} {stop : List Nat}
theorem mm_wpZ (hC : mm_CZ l SC MU Z) (hk : mm_chk code cd = true) (hPE : mm_PEs l RL (mm_rm 2048 84000 0) ct) :
    ∀ (n : Nat) (r : List mm_E), (∃ pre, cd = pre ++ r) → ∀ ls st M d u, mm_wp (mm_look flL) (mm_look ct) mm_x0 (mm_look ([] : List (Nat × Int))) SC 0 MU (fun _ _ => none) mm_QF cd stop Z n r ls st M d u → Z (mm_hd r) ls st M d u
  | 0, r, hs, ls, st, M, d, u, h => by simp [mm_wp] at h
  | n + 1, [], hs, ls, st, M, d, u, h => by simp [mm_wp] at h
  | n + 1, (pc, i, t) :: rest, ⟨pre, hs⟩, ls, st, M, d, u, h => by
    have hk' := hk
    rw [hs] at hk'
    have hat : mm_at pc cd = (pc, i, t) :: rest := by
      rw [hs]
      exact mm_at_app pre (pc, i, t) rest hk'
    refine hC cd ct hk hPE pc i t rest ls st M d u _ _ hat h (fun ls st M d u h1 => ?_) (fun t ls st M d u h1 => ?_)
    · cases rest with
      | nil => exact h1.elim
      | cons q r =>
        have hq : q.1 = pc + mm_len i := eq_of_beq (mm_chk_cons (mm_chk_app pre _ hk')).2.2.1
        rw [← hq]
        simp only [mm_nxt] at h1
        cases e : mm_in q.1 stop
        · rw [e] at h1
          exact mm_wpZ hC hk hPE n (q :: r) ⟨pre ++ [(pc, i, t)], by rw [hs]; simp⟩ ls st M d u h1
        · rw [e] at h1
          exact h1
    · simp only [mm_jmp] at h1
      cases e : mm_in t stop
      · rw [e] at h1
        simp only [cond_false] at h1
        cases ha : mm_at t cd with
        | nil =>
          rw [ha] at h1
          cases n <;> simp [mm_wp] at h1
        | cons q r =>
          rw [ha] at h1
          have h2 := mm_wpZ hC hk hPE n (q :: r) (by have := mm_at_suf t cd; rw [ha] at this; exact this) ls st M d u h1
          have h3 : q.1 = t := mm_at_hd t cd q r ha
          rw [← h3]
          exact h2
      · rw [e] at h1
        exact h1
theorem mm_wpZ_at {pc : Nat} {ls : mm_Ls} {st : List mm_V} {M : mm_M} {d : List Nat} {u : Nat} (hC : mm_CZ l SC MU Z) (hk : mm_chk code cd = true) (hPE : mm_PEs l RL (mm_rm 2048 84000 0) ct) (n : Nat)
    (h : mm_wp (mm_look flL) (mm_look ct) mm_x0 (mm_look ([] : List (Nat × Int))) SC 0 MU (fun _ _ => none) mm_QF cd stop Z n (mm_at pc cd) ls st M d u) : Z pc ls st M d u := by
  have h1 := mm_wpZ hC hk hPE n (mm_at pc cd) (mm_at_suf pc cd) ls st M d u h
  cases ha : mm_at pc cd with
  | nil =>
    rw [ha] at h
    cases n <;> simp [mm_wp] at h
  | cons q r =>
    rw [ha] at h1
    have h3 : q.1 = pc := mm_at_hd pc cd q r ha
    rw [← h3]
    exact h1
end WZ
theorem mm_sc {SC : Nat → Option (Nat × (Nat → Int32))} {b L : Nat} {xs : Nat → Int32} {P : Nat → (Nat → Int32) → Prop} (h : SC b = some (L, xs)) (hp : P L xs) : (match SC b with | some (n, xs) => P n xs | none => False) := by
  rw [h]
  exact hp
theorem hxI (x : Int32) : InI x.toInt := ⟨Int32.le_toInt x, by have := Int32.toInt_lt x; omega⟩
/-- the loop's invariant: both sides in order, as many knocks on each side, at most n -/
def LI (n : Nat) (M : mm_M) : Prop := wA M ∧ xA M ∧ M 1 6 = M 17 16 ∧ 0 ≤ M 1 6 ∧ M 1 6 ≤ n
theorem LI.l {n : Nat} {M M' : mm_M} (h : LI n M) (h1 : lP M M') : LI n M' := by
  obtain ⟨a, b, c, d, e⟩ := h
  obtain ⟨f, g, i⟩ := h1
  exact ⟨f, b.kp (fun o h2 h3 => g o (Or.inr (by omega)) (by omega)), by rw [i, g 17 (Or.inr (by omega)) (by omega)]; exact c, by rw [i]; exact d, by rw [i]; exact e⟩
theorem LI.c {n : Nat} {M M' : mm_M} (h : LI n M) (h1 : cP M M') : LI n M' := h.l (lP.of h1)
theorem LI.m {n : Nat} {M M' : mm_M} (h : LI n M) (h1 : xP M M') : LI n M' := by
  obtain ⟨a, b, c, d, e⟩ := h
  have h2 : M' 1 = M 1 := h1.1 1 (Or.inl (by omega))
  have h3 : M' 17 16 = M 17 16 := h1.2.1.2.2
  exact ⟨a.kp (fun o _ h3 => h1.1 o (Or.inl (by omega))), h1.a, by rw [h2, h3]; exact c, by rw [h2]; exact d, by rw [h2]; exact e⟩
theorem LI.up {n : Nat} {M : mm_M} (h : LI n M) : LI (n + 1) M := ⟨h.1, h.2.1, h.2.2.1, h.2.2.2.1, by have := h.2.2.2.2; omega⟩

