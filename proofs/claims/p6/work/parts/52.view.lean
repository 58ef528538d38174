/-! the model's state, seen as the class's: so all words for the class's state serve the model, too -/
def vX1 (M : mm_M) (k : Nat) : Int := if k = 4 then M 17 14 else if k = 5 then M 17 15 else if k = 6 then M 17 16 else 0
def vX2 (M : mm_M) (k : Nat) : Int := if k = 4 then M 17 1 else if k = 5 then M 17 4 else if k = 6 then M 17 5 else if k = 7 then M 17 6 else 0
def vXw (M : mm_M) (i k : Nat) : Int := if k = 2 then M 21 i else if k = 3 then M 22 i else 0
def vXs (M : mm_M) (i k : Nat) : Int := if k < 30 then M 20 (30 * i + k) else 0
def vXc (M : mm_M) (k : Nat) : Int := if k = 1 then (if M 17 10 = -1 then 0 else 8 + 2 * M 17 10) else if k = 2 then M 17 11 else if k = 3 then M 17 12 else if k = 4 then M 17 13 else 0
def vX (M : mm_M) : mm_M := fun o k => if o = 1 then vX1 M k else if o = 2 then vX2 M k else if o = 3 then M 18 k else if o = 4 then M 19 k else
  if o = 8 then vXw M 0 k else if o = 9 then vXs M 0 k else if o = 10 then vXw M 1 k else if o = 11 then vXs M 1 k else if o = 12 then vXw M 2 k else if o = 13 then vXs M 2 k else
  if o = 14 then vXw M 3 k else if o = 15 then vXs M 3 k else if o = 16 then vXc M k else 0
theorem vX_24 (M : mm_M) : vX M 2 4 = M 17 1 := rfl
theorem vX_25 (M : mm_M) : vX M 2 5 = M 17 4 := rfl
theorem vX_26 (M : mm_M) : vX M 2 6 = M 17 5 := rfl
theorem vX_27 (M : mm_M) : vX M 2 7 = M 17 6 := rfl
theorem vX_3 (M : mm_M) : vX M 3 = M 18 := rfl
theorem vX_4 (M : mm_M) : vX M 4 = M 19 := rfl
theorem vX_14 (M : mm_M) : vX M 1 4 = M 17 14 := rfl
theorem vX_15 (M : mm_M) : vX M 1 5 = M 17 15 := rfl
theorem vX_16 (M : mm_M) : vX M 1 6 = M 17 16 := rfl
theorem vX_c2 (M : mm_M) : vX M 16 2 = M 17 11 := rfl
theorem vX_c3 (M : mm_M) : vX M 16 3 = M 17 12 := rfl
theorem vX_c4 (M : mm_M) : vX M 16 4 = M 17 13 := rfl
theorem vX_c1 (M : mm_M) : vX M 16 1 = if M 17 10 = -1 then 0 else 8 + 2 * M 17 10 := rfl
theorem vX_w {M : mm_M} {k : Nat} (hk : k < 4) : vX M (8 + 2 * k) = vXw M k := by
  have h4 : k = 0 ∨ k = 1 ∨ k = 2 ∨ k = 3 := by omega
  rcases h4 with rfl | rfl | rfl | rfl <;> rfl
theorem vX_s {M : mm_M} {k : Nat} (hk : k < 4) : vX M (8 + 2 * k + 1) = vXs M k := by
  have h4 : k = 0 ∨ k = 1 ∨ k = 2 ∨ k = 3 := by omega
  rcases h4 with rfl | rfl | rfl | rfl <;> rfl
theorem vX_n {M : mm_M} {k : Nat} (hk : k < 4) : vX M (8 + 2 * k) 2 = M 21 k := by rw [vX_w hk]; rfl
theorem vX_b {M : mm_M} {k : Nat} (hk : k < 4) : vX M (8 + 2 * k) 3 = M 22 k := by rw [vX_w hk]; rfl
theorem vX_i {M : mm_M} {k i : Nat} (hk : k < 4) (hi : i < 30) : vX M (8 + 2 * k + 1) i = M 20 (30 * k + i) := by rw [vX_s hk]; simp [vXs, hi]
theorem isKk {k : Nat} (hk : k < 4) : isK (8 + 2 * k) := by unfold isK; omega
theorem tX_i {M : mm_M} : tX M ↔ tW (vX M) := Iff.rfl
theorem lv_v {M : mm_M} {s c : Int} : lvX M s c = lv (vX M) s c := rfl
theorem cm_v {M : mm_M} {s c : Int} : cmX M s c = cm (vX M) s c := rfl
theorem gl_v {M : mm_M} {s : Int} : glX M s = gl (vX M) s := rfl
theorem sr_v {M : mm_M} {s : Int} : srX M s = sr (vX M) s := rfl
theorem mV_i {M : mm_M} {k : Nat} (hk : k < 4) : mV M k ↔ wV (vX M) (8 + 2 * k) := by
  unfold mV wV
  rw [vX_n hk, vX_b hk, vX_24]
  constructor
  · rintro ⟨a, b, c⟩
    exact ⟨a, b, fun i hi => by rw [vX_i hk (by omega)]; exact c i hi⟩
  · rintro ⟨a, b, c⟩
    exact ⟨a, b, fun i hi => by have := c i hi; rw [vX_i hk (by omega)] at this; exact this⟩
theorem cor_v {M : mm_M} {k : Nat} {p : Int} (hk : k < 4) (hv : mV M k) (hp : 0 ≤ p ∧ p ≤ M 21 k) : corX M k p = cor (vX M) (8 + 2 * k) p := by
  unfold corX cor
  rw [vX_n hk, vX_b hk]
  have h1 := hv.1
  by_cases h : p = 0
  · rw [if_pos h, if_neg (by omega)]
  · rw [if_neg h, if_pos (by omega), vX_i hk (by omega)]
    rfl
/-- what the model may change -/
def fX (M M' : mm_M) : Prop := ∀ o, o < 17 ∨ 22 < o → M' o = M o
theorem fX.rf {M : mm_M} : fX M M := fun _ _ => rfl
theorem fX.tr {M M' M'' : mm_M} (h : fX M M') (h2 : fX M' M'') : fX M M'' := fun o ho => (h2 o ho).trans (h o ho)
theorem fX.up {M M' : mm_M} {o k : Nat} {v : Int} (h : fX M M') (ho : 17 ≤ o ∧ o ≤ 22) : fX M (mm_up M' o k v) := fun x hx => by
  rw [mm_up_o x (by omega)]
  exact h x hx
theorem vX_cs (o : Nat) : o = 1 ∨ o = 2 ∨ o = 3 ∨ o = 4 ∨ o = 8 ∨ o = 9 ∨ o = 10 ∨ o = 11 ∨ o = 12 ∨ o = 13 ∨ o = 14 ∨ o = 15 ∨ o = 16 ∨ (o ≠ 1 ∧ o ≠ 2 ∧ o ≠ 3 ∧ o ≠ 4 ∧ o ≠ 8 ∧ o ≠ 9 ∧ o ≠ 10 ∧ o ≠ 11 ∧ o ≠ 12 ∧ o ≠ 13 ∧ o ≠ 14 ∧ o ≠ 15 ∧ o ≠ 16) := by omega
theorem vX_oth {M : mm_M} {o k : Nat} (h : o ≠ 1 ∧ o ≠ 2 ∧ o ≠ 3 ∧ o ≠ 4 ∧ o ≠ 8 ∧ o ≠ 9 ∧ o ≠ 10 ∧ o ≠ 11 ∧ o ≠ 12 ∧ o ≠ 13 ∧ o ≠ 14 ∧ o ≠ 15 ∧ o ≠ 16) : vX M o k = 0 := by
  obtain ⟨a, b, c, d, e, f, g, h, i, j, k, l, m⟩ := h
  unfold vX
  rw [if_neg a, if_neg b, if_neg c, if_neg d, if_neg e, if_neg f, if_neg g, if_neg h, if_neg i, if_neg j, if_neg k, if_neg l, if_neg m]
theorem vX_u20 {M : mm_M} {k i : Nat} {v : Int} (hk : k < 4) (hi : i < 30) : vX (mm_up M 20 (30 * k + i) v) = mm_up (vX M) (8 + 2 * k + 1) i v := by
  funext o j
  have h4 : k = 0 ∨ k = 1 ∨ k = 2 ∨ k = 3 := by omega
  rcases h4 with rfl | rfl | rfl | rfl
  all_goals
    rcases vX_cs o with rfl | rfl | rfl | rfl | rfl | rfl | rfl | rfl | rfl | rfl | rfl | rfl | rfl | ho
    case inr.inr.inr.inr.inr.inr.inr.inr.inr.inr.inr.inr.inr =>
      rw [vX_oth ho, mm_up_o _ (by omega), vX_oth ho]
    all_goals
      simp [vX, vXw, vXs, vXc, vX1, vX2, mm_up]
    all_goals
      repeat' split
    all_goals first | rfl | omega
theorem vX_u21 {M : mm_M} {k : Nat} {v : Int} (hk : k < 4) : vX (mm_up M 21 k v) = mm_up (vX M) (8 + 2 * k) 2 v := by
  funext o j
  have h4 : k = 0 ∨ k = 1 ∨ k = 2 ∨ k = 3 := by omega
  rcases h4 with rfl | rfl | rfl | rfl
  all_goals
    rcases vX_cs o with rfl | rfl | rfl | rfl | rfl | rfl | rfl | rfl | rfl | rfl | rfl | rfl | rfl | ho
    case inr.inr.inr.inr.inr.inr.inr.inr.inr.inr.inr.inr.inr =>
      rw [vX_oth ho, mm_up_o _ (by omega), vX_oth ho]
    all_goals
      simp [vX, vXw, vXs, vXc, vX1, vX2, mm_up]
    all_goals
      repeat' split
    all_goals first | rfl | omega
theorem vX_u22 {M : mm_M} {k : Nat} {v : Int} (hk : k < 4) : vX (mm_up M 22 k v) = mm_up (vX M) (8 + 2 * k) 3 v := by
  funext o j
  have h4 : k = 0 ∨ k = 1 ∨ k = 2 ∨ k = 3 := by omega
  rcases h4 with rfl | rfl | rfl | rfl
  all_goals
    rcases vX_cs o with rfl | rfl | rfl | rfl | rfl | rfl | rfl | rfl | rfl | rfl | rfl | rfl | rfl | ho
    case inr.inr.inr.inr.inr.inr.inr.inr.inr.inr.inr.inr.inr =>
      rw [vX_oth ho, mm_up_o _ (by omega), vX_oth ho]
    all_goals
      simp [vX, vXw, vXs, vXc, vX1, vX2, mm_up]
    all_goals
      repeat' split
    all_goals first | rfl | omega
theorem vX_u18 {M : mm_M} {k : Nat} {v : Int} : vX (mm_up M 18 k v) = mm_up (vX M) 3 k v := by
  funext o j
  all_goals
    rcases vX_cs o with rfl | rfl | rfl | rfl | rfl | rfl | rfl | rfl | rfl | rfl | rfl | rfl | rfl | ho
    case inr.inr.inr.inr.inr.inr.inr.inr.inr.inr.inr.inr.inr =>
      rw [vX_oth ho, mm_up_o _ (by omega), vX_oth ho]
    all_goals
      simp [vX, vXw, vXs, vXc, vX1, vX2, mm_up]
    all_goals
      repeat' split
    all_goals first | rfl | omega
theorem vX_u19 {M : mm_M} {k : Nat} {v : Int} : vX (mm_up M 19 k v) = mm_up (vX M) 4 k v := by
  funext o j
  all_goals
    rcases vX_cs o with rfl | rfl | rfl | rfl | rfl | rfl | rfl | rfl | rfl | rfl | rfl | rfl | rfl | ho
    case inr.inr.inr.inr.inr.inr.inr.inr.inr.inr.inr.inr.inr =>
      rw [vX_oth ho, mm_up_o _ (by omega), vX_oth ho]
    all_goals
      simp [vX, vXw, vXs, vXc, vX1, vX2, mm_up]
    all_goals
      repeat' split
    all_goals first | rfl | omega
theorem vX_u0 {M : mm_M} {v : Int} : vX (mm_up M 17 0 v) = vX M := by
  funext o j
  rfl
theorem vX_u1 {M : mm_M} {v : Int} : vX (mm_up M 17 1 v) = mm_up (vX M) 2 4 v := by
  funext o j
  all_goals
    rcases vX_cs o with rfl | rfl | rfl | rfl | rfl | rfl | rfl | rfl | rfl | rfl | rfl | rfl | rfl | ho
    case inr.inr.inr.inr.inr.inr.inr.inr.inr.inr.inr.inr.inr =>
      rw [vX_oth ho, mm_up_o _ (by omega), vX_oth ho]
    all_goals
      simp [vX, vXw, vXs, vXc, vX1, vX2, mm_up]
    all_goals
      repeat' split
    all_goals first | rfl | omega
theorem vX_u4 {M : mm_M} {v : Int} : vX (mm_up M 17 4 v) = mm_up (vX M) 2 5 v := by
  funext o j
  all_goals
    rcases vX_cs o with rfl | rfl | rfl | rfl | rfl | rfl | rfl | rfl | rfl | rfl | rfl | rfl | rfl | ho
    case inr.inr.inr.inr.inr.inr.inr.inr.inr.inr.inr.inr.inr =>
      rw [vX_oth ho, mm_up_o _ (by omega), vX_oth ho]
    all_goals
      simp [vX, vXw, vXs, vXc, vX1, vX2, mm_up]
    all_goals
      repeat' split
    all_goals first | rfl | omega
theorem vX_u5 {M : mm_M} {v : Int} : vX (mm_up M 17 5 v) = mm_up (vX M) 2 6 v := by
  funext o j
  all_goals
    rcases vX_cs o with rfl | rfl | rfl | rfl | rfl | rfl | rfl | rfl | rfl | rfl | rfl | rfl | rfl | ho
    case inr.inr.inr.inr.inr.inr.inr.inr.inr.inr.inr.inr.inr =>
      rw [vX_oth ho, mm_up_o _ (by omega), vX_oth ho]
    all_goals
      simp [vX, vXw, vXs, vXc, vX1, vX2, mm_up]
    all_goals
      repeat' split
    all_goals first | rfl | omega
theorem vX_u6 {M : mm_M} {v : Int} : vX (mm_up M 17 6 v) = mm_up (vX M) 2 7 v := by
  funext o j
  all_goals
    rcases vX_cs o with rfl | rfl | rfl | rfl | rfl | rfl | rfl | rfl | rfl | rfl | rfl | rfl | rfl | ho
    case inr.inr.inr.inr.inr.inr.inr.inr.inr.inr.inr.inr.inr =>
      rw [vX_oth ho, mm_up_o _ (by omega), vX_oth ho]
    all_goals
      simp [vX, vXw, vXs, vXc, vX1, vX2, mm_up]
    all_goals
      repeat' split
    all_goals first | rfl | omega
theorem vX_u10 {M : mm_M} {v : Int} : vX (mm_up M 17 10 v) = mm_up (vX M) 16 1 (if v = -1 then 0 else 8 + 2 * v) := by
  funext o j
  all_goals
    rcases vX_cs o with rfl | rfl | rfl | rfl | rfl | rfl | rfl | rfl | rfl | rfl | rfl | rfl | rfl | ho
    case inr.inr.inr.inr.inr.inr.inr.inr.inr.inr.inr.inr.inr =>
      rw [vX_oth ho, mm_up_o _ (by omega), vX_oth ho]
    all_goals
      simp [vX, vXw, vXs, vXc, vX1, vX2, mm_up]
    all_goals
      repeat' split
    all_goals first | rfl | omega
theorem vX_u11 {M : mm_M} {v : Int} : vX (mm_up M 17 11 v) = mm_up (vX M) 16 2 v := by
  funext o j
  all_goals
    rcases vX_cs o with rfl | rfl | rfl | rfl | rfl | rfl | rfl | rfl | rfl | rfl | rfl | rfl | rfl | ho
    case inr.inr.inr.inr.inr.inr.inr.inr.inr.inr.inr.inr.inr =>
      rw [vX_oth ho, mm_up_o _ (by omega), vX_oth ho]
    all_goals
      simp [vX, vXw, vXs, vXc, vX1, vX2, mm_up]
    all_goals
      repeat' split
    all_goals first | rfl | omega
theorem vX_u12 {M : mm_M} {v : Int} : vX (mm_up M 17 12 v) = mm_up (vX M) 16 3 v := by
  funext o j
  all_goals
    rcases vX_cs o with rfl | rfl | rfl | rfl | rfl | rfl | rfl | rfl | rfl | rfl | rfl | rfl | rfl | ho
    case inr.inr.inr.inr.inr.inr.inr.inr.inr.inr.inr.inr.inr =>
      rw [vX_oth ho, mm_up_o _ (by omega), vX_oth ho]
    all_goals
      simp [vX, vXw, vXs, vXc, vX1, vX2, mm_up]
    all_goals
      repeat' split
    all_goals first | rfl | omega
theorem vX_u13 {M : mm_M} {v : Int} : vX (mm_up M 17 13 v) = mm_up (vX M) 16 4 v := by
  funext o j
  all_goals
    rcases vX_cs o with rfl | rfl | rfl | rfl | rfl | rfl | rfl | rfl | rfl | rfl | rfl | rfl | rfl | ho
    case inr.inr.inr.inr.inr.inr.inr.inr.inr.inr.inr.inr.inr =>
      rw [vX_oth ho, mm_up_o _ (by omega), vX_oth ho]
    all_goals
      simp [vX, vXw, vXs, vXc, vX1, vX2, mm_up]
    all_goals
      repeat' split
    all_goals first | rfl | omega
theorem vX_u14 {M : mm_M} {v : Int} : vX (mm_up M 17 14 v) = mm_up (vX M) 1 4 v := by
  funext o j
  all_goals
    rcases vX_cs o with rfl | rfl | rfl | rfl | rfl | rfl | rfl | rfl | rfl | rfl | rfl | rfl | rfl | ho
    case inr.inr.inr.inr.inr.inr.inr.inr.inr.inr.inr.inr.inr =>
      rw [vX_oth ho, mm_up_o _ (by omega), vX_oth ho]
    all_goals
      simp [vX, vXw, vXs, vXc, vX1, vX2, mm_up]
    all_goals
      repeat' split
    all_goals first | rfl | omega
theorem vX_u15 {M : mm_M} {v : Int} : vX (mm_up M 17 15 v) = mm_up (vX M) 1 5 v := by
  funext o j
  all_goals
    rcases vX_cs o with rfl | rfl | rfl | rfl | rfl | rfl | rfl | rfl | rfl | rfl | rfl | rfl | rfl | ho
    case inr.inr.inr.inr.inr.inr.inr.inr.inr.inr.inr.inr.inr =>
      rw [vX_oth ho, mm_up_o _ (by omega), vX_oth ho]
    all_goals
      simp [vX, vXw, vXs, vXc, vX1, vX2, mm_up]
    all_goals
      repeat' split
    all_goals first | rfl | omega
theorem vX_u16 {M : mm_M} {v : Int} : vX (mm_up M 17 16 v) = mm_up (vX M) 1 6 v := by
  funext o j
  all_goals
    rcases vX_cs o with rfl | rfl | rfl | rfl | rfl | rfl | rfl | rfl | rfl | rfl | rfl | rfl | rfl | ho
    case inr.inr.inr.inr.inr.inr.inr.inr.inr.inr.inr.inr.inr =>
      rw [vX_oth ho, mm_up_o _ (by omega), vX_oth ho]
    all_goals
      simp [vX, vXw, vXs, vXc, vX1, vX2, mm_up]
    all_goals
      repeat' split
    all_goals first | rfl | omega
/-- a call: what its spec asks -/
theorem mm_ci {C : Nat → Option mm_Ca} {mu : Nat} {hn : Nat → Nat → Option Nat} {Qr : mm_Q} {how idx pc : Nat} {ls : mm_Ls} {st : List mm_V} {M : mm_M} {d : List Nat} {u : Nat} {Kn : mm_K} {Kj : Nat → mm_K} {h n rc mu' : Nat} {sp : mm_S} (hC : C idx = some (h, n, rc, sp, mu'))
    (he : (Nat.beq h how && (Nat.ble n st.length && (Nat.ble (mm_cats (st.drop n)) 8 && Nat.ble (u + mu') mu))) = true) (hrv : mm_rv st n rc M d)
    (hsp : sp (st.take n).reverse M d (fun o M' d' => match o with
        | .inl r => Kn ls (mm_push r (st.drop n)) M' d' (u + mu')
        | .inr k => match hn pc k with
          | none => Qr (.inr k) M' d'
          | some hpc => ∀ q : Nat, Kj hpc ls [mm_X q] M' d' (u + mu'))) : mm_call C mu hn Qr how idx pc ls st M d u Kn Kj := by
  simp only [Bool.and_eq_true] at he
  unfold mm_call
  rw [hC]
  exact ⟨Nat.eq_of_beq_eq_true he.1, Nat.le_of_ble_eq_true he.2.1, hrv, Nat.le_of_ble_eq_true he.2.2.1, Nat.le_of_ble_eq_true he.2.2.2, hsp⟩
theorem vX_e20 {M : mm_M} {k i a : Nat} {x y : Int} (hk : k < 4) (hi : i < 30) (ha : a = 30 * k + i) (hx : x = y) : vX (mm_up M 20 a x) = mm_up (vX M) (8 + 2 * k + 1) i y := by
  rw [ha, hx]
  exact vX_u20 hk hi
theorem vX_e21 {M : mm_M} {k a : Nat} {x y : Int} (hk : k < 4) (ha : a = k) (hx : x = y) : vX (mm_up M 21 a x) = mm_up (vX M) (8 + 2 * k) 2 y := by
  rw [ha, hx]
  exact vX_u21 hk
theorem vX_e22 {M : mm_M} {k a : Nat} {x y : Int} (hk : k < 4) (ha : a = k) (hx : x = y) : vX (mm_up M 22 a x) = mm_up (vX M) (8 + 2 * k) 3 y := by
  rw [ha, hx]
  exact vX_u22 hk
theorem vX_r20 {M : mm_M} {k i a : Nat} (hk : k < 4) (hi : i < 30) (ha : a = 30 * k + i) : M 20 a = vX M (8 + 2 * k + 1) i := by
  rw [ha, vX_i hk hi]
theorem mm_up_ob {M : mm_M} {o o' a b : Nat} {x : Int} (h : o' ≠ o) : mm_up M o a x o' b = M o' b := by
  rw [mm_up_o _ h]
theorem mm_c5 {A B C D E S : Prop} (a : A) (b : B) (c : C) (d : D) (e : E) (s : S) : A ∧ B ∧ C ∧ D ∧ E ∧ S := ⟨a, b, c, d, e, s⟩
theorem mm_a2 {A B : Prop} (a : A) (b : B) : A ∧ B := ⟨a, b⟩
theorem mm_a3 {A B C : Prop} (a : A) (b : B) (c : C) : A ∧ B ∧ C := ⟨a, b, c⟩
theorem mm_a4 {A B C D : Prop} (a : A) (b : B) (c : C) (d : D) : A ∧ B ∧ C ∧ D := ⟨a, b, c, d⟩
theorem mm_a5 {A B C D E : Prop} (a : A) (b : B) (c : C) (d : D) (e : E) : A ∧ B ∧ C ∧ D ∧ E := ⟨a, b, c, d, e⟩
theorem mm_a6 {A B C D E F : Prop} (a : A) (b : B) (c : C) (d : D) (e : E) (f : F) : A ∧ B ∧ C ∧ D ∧ E ∧ F := ⟨a, b, c, d, e, f⟩
theorem mm_a7 {A B C D E F G : Prop} (a : A) (b : B) (c : C) (d : D) (e : E) (f : F) (g : G) : A ∧ B ∧ C ∧ D ∧ E ∧ F ∧ G := ⟨a, b, c, d, e, f, g⟩
theorem mm_a8 {A B C D E F G H : Prop} (a : A) (b : B) (c : C) (d : D) (e : E) (f : F) (g : G) (h : H) : A ∧ B ∧ C ∧ D ∧ E ∧ F ∧ G ∧ H := ⟨a, b, c, d, e, f, g, h⟩

