/-! the law's own stretches: steps for one Z; the invariant of its loop -/
def mm_QF : mm_Q := fun _ _ _ => False
/-- Z holds wherever a step of the law's code leads to Z -/
def mm_CZ (l : Launch) (SC : Nat → Option (Nat × (Nat → Int32))) (MU : Nat) (Z : Nat → mm_K) : Prop :=
  ∀ (cd : List mm_E) (ct : List (Nat × mm_Ca)), mm_chk code cd = true → mm_PEs l RL (mm_rm 2048 84000 0) ct → ∀ pc i t rest ls st M d u Kn Kj, mm_at pc cd = (pc, i, t) :: rest →
    mm_op (mm_look flL) (mm_look ct) mm_x0 (mm_look ([] : List (Nat × Int))) SC 0 MU (fun _ _ => none) mm_QF pc i t rest ls st M d u Kn Kj →
    (∀ ls st M d u, Kn ls st M d u → Z (pc + mm_len i) ls st M d u) → (∀ t ls st M d u, Kj t ls st M d u → Z t ls st M d u) → Z pc ls st M d u
section WZ
variable {l : Launch} {SC : Nat → Option (Nat × (Nat → Int32))} {MU : Nat} {Z : Nat → mm_K} {cd : List mm_E} {ct : List (Nat × mm_Ca)} {stop : List Nat}
theorem mm_wpZ (hC : mm_CZ l SC MU Z) (hk : mm_chk code cd = true) (hPE : mm_PEs l RL (mm_rm 2048 84000 0) ct) :
    ∀ (n : Nat) (r : List mm_E), (∃ pre, cd = pre ++ r) → ∀ ls st M d u, mm_wp (mm_look flL) (mm_look ct) mm_x0 (mm_look ([] : List (Nat × Int))) SC 0 MU (fun _ _ => none) mm_QF cd stop Z n r ls st M d u → Z (mm_hd r) ls st M d u
  | 0, r, hs, ls, st, M, d, u, h => by simp [mm_wp] at h
  | n + 1, [], hs, ls, st, M, d, u, h => by simp [mm_wp] at h
  | n + 1, (pc, i, t) :: rest, ⟨pre, hs⟩, ls, st, M, d, u, h => by
    have hk' := hk
    rw [hs] at hk'
    have hat : mm_at pc cd = (pc, i, t) :: rest := by
      rw [hs]
      exact mm_at_app pre (pc, i, t) rest hk'
    refine hC cd ct hk hPE pc i t rest ls st M d u _ _ hat h (fun ls st M d u h1 => ?_) (fun t ls st M d u h1 => ?_)
    · cases rest with
      | nil => exact h1.elim
      | cons q r =>
        have hq : q.1 = pc + mm_len i := eq_of_beq (mm_chk_cons (mm_chk_app pre _ hk')).2.2.1
        rw [← hq]
        simp only [mm_nxt] at h1
        cases e : mm_in q.1 stop
        · rw [e] at h1
          exact mm_wpZ hC hk hPE n (q :: r) ⟨pre ++ [(pc, i, t)], by rw [hs]; simp⟩ ls st M d u h1
        · rw [e] at h1
          exact h1
    · simp only [mm_jmp] at h1
      cases e : mm_in t stop
      · rw [e] at h1
        simp only [cond_false] at h1
        cases ha : mm_at t cd with
        | nil =>
          rw [ha] at h1
          cases n <;> simp [mm_wp] at h1
        | cons q r =>
          rw [ha] at h1
          have h2 := mm_wpZ hC hk hPE n (q :: r) (by have := mm_at_suf t cd; rw [ha] at this; exact this) ls st M d u h1
          have h3 : q.1 = t := mm_at_hd t cd q r ha
          rw [← h3]
          exact h2
      · rw [e] at h1
        exact h1
theorem mm_wpZ_at {pc : Nat} {ls : mm_Ls} {st : List mm_V} {M : mm_M} {d : List Nat} {u : Nat} (hC : mm_CZ l SC MU Z) (hk : mm_chk code cd = true) (hPE : mm_PEs l RL (mm_rm 2048 84000 0) ct) (n : Nat)
    (h : mm_wp (mm_look flL) (mm_look ct) mm_x0 (mm_look ([] : List (Nat × Int))) SC 0 MU (fun _ _ => none) mm_QF cd stop Z n (mm_at pc cd) ls st M d u) : Z pc ls st M d u := by
  have h1 := mm_wpZ hC hk hPE n (mm_at pc cd) (mm_at_suf pc cd) ls st M d u h
  cases ha : mm_at pc cd with
  | nil =>
    rw [ha] at h
    cases n <;> simp [mm_wp] at h
  | cons q r =>
    rw [ha] at h1
    have h3 : q.1 = pc := mm_at_hd pc cd q r ha
    rw [← h3]
    exact h1
end WZ
theorem mm_sc {SC : Nat → Option (Nat × (Nat → Int32))} {b L : Nat} {xs : Nat → Int32} {P : Nat → (Nat → Int32) → Prop} (h : SC b = some (L, xs)) (hp : P L xs) : (match SC b with | some (n, xs) => P n xs | none => False) := by
  rw [h]
  exact hp
theorem hxI (x : Int32) : InI x.toInt := ⟨Int32.le_toInt x, by have := Int32.toInt_lt x; omega⟩
/-- the loop's invariant: both sides in order, the same to the eye; at most n knocks -/
def LI (n : Nat) (M : mm_M) : Prop := wA M ∧ xA M ∧ (SE M (vX M) ∧ WI M) ∧ 0 ≤ M 1 6 ∧ M 1 6 ≤ n
theorem LI.up {n : Nat} {M : mm_M} (h : LI n M) : LI (n + 1) M := ⟨h.1, h.2.1, h.2.2.1, h.2.2.2.1, by have := h.2.2.2.2; omega⟩
theorem se_kp {A B : mm_M} (h : ∀ o, 1 ≤ o → o ≤ 16 → B o = A o) : SE A B := ⟨.of (h 2 (by omega) (by omega)) (h 3 (by omega) (by omega)) (h 4 (by omega) (by omega)), fun w hw => by
  have hl := isK_le hw.k
  exact .of (h w (by omega) (by omega)) (h (w + 1) (by omega) (by omega)), .of (h 16 (by omega) (by omega)), .of (h 1 (by omega) (by omega))⟩
theorem hl_v {M M1 M2 : mm_M} (h1 : cP M M1) (h2 : ∀ o, o ≠ 23 → M2 o = M1 o) : vX M2 = vX M := vX_kp (fun o a b => by rw [h2 o (by omega)]; exact h1.2.1 o (Or.inr (by omega)))
theorem hl_x {n : Nat} {M M1 M2 : mm_M} (hI : LI n M) (h1 : cP M M1) (h2 : ∀ o, o ≠ 23 → M2 o = M1 o) : xA M2 := hI.2.1.kp (fun o a b => by rw [h2 o (by omega)]; exact h1.2.1 o (Or.inr (by omega)))
theorem LI.step {n : Nat} {M M1 M2 M' : mm_M} (hI : LI n M) (h1 : cP M M1) (h2 : ∀ o, o ≠ 23 → M2 o = M1 o) (h3 : xP M2 M') (hS : SE M1 (vX M')) (hW : WI M1) : LI (n + 1) M' := by
  have e : ∀ o, 1 ≤ o → o ≤ 16 → M' o = M1 o := fun o _ b => by rw [h3.1 o (Or.inl (by omega)), h2 o (by omega)]
  have e6 : M' 1 6 = M 1 6 := by rw [e 1 (by omega) (by omega)]; exact h1.2.2
  have hk := hI.2.2.2
  exact ⟨h1.1.kp e, h3.a, ⟨(se_kp e).sy.tr hS, (WI_te (se_kp e).t).mp hW⟩, by rw [e6]; exact hk.1, by rw [e6]; omega⟩
/-- texts, and what nobody sees -/
theorem LI.q {n : Nat} {M M1 M2 M' : mm_M} (hI : LI n M) (h1 : cP M M1) (h2 : ∀ o, o ≠ 23 → M2 o = M1 o) (h3 : xP M2 M') (hs : SE M M1) (hm : SE (vX M2) (vX M')) : LI (n + 1) M' := by
  rw [hl_v h1 h2] at hm
  exact hI.step h1 h2 h3 (hI.2.2.1.1.ends hs hm) (WT_s hs hI.2.2.1.2)
theorem LI.knock {n : Nat} {M M1 : mm_M} (hI : LI n M) (ha : wA M1) (hF : cF M M1) (h6 : M1 1 6 = M 1 6 + 1) (hc : C_knock M M1 0 (M 1 6 + 1)) : M1 17 16 = M 1 6 ∧ LI (n + 1) (mm_up (mm_up M1 17 0 0) 17 16 (M1 17 16 + 1)) := by
  have e17 : M1 17 = M 17 := hF 17 (Or.inr (by omega))
  have hn : M 1 6 = M 17 16 := hI.2.2.1.1.2.2.2.2.2
  obtain ⟨M3, e3⟩ : ∃ M3, M3 = mm_up (mm_up M1 17 0 0) 17 16 (M1 17 16 + 1) := ⟨_, rfl⟩
  have ev1 : vX M1 = vX M := vX_kp (fun o a b => hF o (Or.inr (by omega)))
  have ev : vX M3 = mm_up (vX M) 1 6 (vX M 1 6 + 1) := by rw [e3, vX_u16, vX_u0, ev1, e17]; rfl
  have e : ∀ o, 1 ≤ o → o ≤ 16 → M3 o = M1 o := fun o _ b => by rw [e3, mm_up_o _ (by omega), mm_up_o _ (by omega)]
  have hx : xA M3 := by
    have h4 := hI.2.1
    refine ⟨?_, by rw [e3, mm_up_ob2 (by omega), mm_up_ob2 (by omega), e17]; exact h4.2⟩
    rw [ev]
    refine ⟨?_, fun w hw => ?_, h4.1.2.2.to (mm_up_o _ (by omega)) (fun h1 _ => ?_)⟩
    · have ht := h4.1.1
      unfold tW at *
      rw [mm_up_o 2 (by omega), mm_up_o 3 (by omega), mm_up_o 4 (by omega)]
      exact ht
    · have := isK_le hw.k
      exact wV.me (h4.1.2.1 w hw) (mm_up_o _ (by omega)) (mm_up_o _ (by omega)) (mm_up_o _ (by omega))
    · have := isK_le (h4.1.2.2.1.resolve_left h1).k
      rw [mm_up_o _ (by omega)]
      exact Int.le_refl _
  have hd := D_knock hI.2.2.1.1 hc (U' := vX M3) (e' := 0) (r' := vX M 1 6 + 1) ⟨rfl, rfl, by rw [ev]; exact SE.rf⟩
  have hk := hI.2.2.2
  have e6 : M3 1 6 = M 1 6 + 1 := by rw [e 1 (by omega) (by omega)]; exact h6
  have hW : WI M1 := WT_s hc.2.2 (WI_2 (by rw [mm_up_o _ (by omega)]) (by rw [mm_up_o _ (by omega)]) (by rw [mm_up_o _ (by omega)]) hI.2.2.1.2)
  rw [← e3]
  exact ⟨by rw [e17, ← hn], ha.kp e, hx, ⟨(se_kp e).sy.tr hd.2.2.2, (WI_te (se_kp e).t).mp hW⟩, by omega, by omega⟩

