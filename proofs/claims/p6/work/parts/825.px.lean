/-! a call on both sides: what it leaves, what both tell -/
theorem W_lay {p0 p1 : Int} {V V' : mm_M} {e r : Int} (hV : wA V) (h : C_lay p0 p1 V V' e r) : WT V V' := ok1_W h (fun _ h => no9_W h (fun _ h => fun _ => WT_cn h.2 (WI_0 (by simp [addS, endM, mm_up]))))
theorem P_lay {p0 p1 : Int} {n : Nat} {M M1 M2 M' : mm_M} {e r r' : Int} (hI : LI n M) (h1 : cP M M1) (h2 : ∀ o, o ≠ 23 → M2 o = M1 o) (hc : C_lay p0 p1 M M1 e r) (h3 : xP M2 M') (hx : C_lay p0 p1 (vX M2) (vX M') (M' 17 0) r') : LI (n + 1) M' ∧ M' 17 0 = e ∧ (e = 0 → r = r') := by
  rw [hl_v h1 h2] at hx
  obtain ⟨d1, d2, d3, d4⟩ := D_lay hI.1 hI.2.2.1.1 hc hx
  exact ⟨hI.step h1 h2 h3 d4 (W_lay hI.1 hc hI.2.2.1.2), d1.symm, d3⟩
theorem W_layRing {p0 p1 : Int} {V V' : mm_M} {e r : Int} (hV : wA V) (h : C_layRing p0 p1 V V' e r) : WT V V' := ok1_W h (fun _ h => no9_W h (fun _ h => fun _ => by
    obtain ⟨_, V1, h2, h3⟩ := h
    exact WT_cn h3 (WI_0 (by rw [h2.2.1 6 (by omega)]; simp [endM, mm_up]))))
theorem P_layRing {p0 p1 : Int} {n : Nat} {M M1 M2 M' : mm_M} {e r r' : Int} (hI : LI n M) (h1 : cP M M1) (h2 : ∀ o, o ≠ 23 → M2 o = M1 o) (hc : C_layRing p0 p1 M M1 e r) (h3 : xP M2 M') (hx : C_layRing p0 p1 (vX M2) (vX M') (M' 17 0) r') : LI (n + 1) M' ∧ M' 17 0 = e ∧ (e = 0 → r = r') := by
  rw [hl_v h1 h2] at hx
  obtain ⟨d1, d2, d3, d4⟩ := D_layRing hI.1 hI.2.2.1.1 hc hx
  exact ⟨hI.step h1 h2 h3 d4 (W_layRing hI.1 hc hI.2.2.1.2), d1.symm, d3⟩
theorem W_words {p0 p1 : Int} {V V' : mm_M} {e r : Int} (hV : wA V) (h : C_words p0 p1 V V' e r) : WT V V' := ok1_W h (fun _ h => no9_W h (fun _ h => fun _ => by
    obtain ⟨_, V1, h2, h3⟩ := h
    refine WT_cn h3 (fun _ => ?_)
    rw [h2.2.1, h2.2.2.2.1, h2.2.2.2.2.1]
    exact Int.le_refl _))
theorem P_words {p0 p1 : Int} {n : Nat} {M M1 M2 M' : mm_M} {e r r' : Int} (hI : LI n M) (h1 : cP M M1) (h2 : ∀ o, o ≠ 23 → M2 o = M1 o) (hc : C_words p0 p1 M M1 e r) (h3 : xP M2 M') (hx : C_words p0 p1 (vX M2) (vX M') (M' 17 0) r') : LI (n + 1) M' ∧ M' 17 0 = e ∧ (e = 0 → r = r') := by
  rw [hl_v h1 h2] at hx
  obtain ⟨d1, d2, d3, d4⟩ := D_words hI.2.2.1.1 hc hx
  exact ⟨hI.step h1 h2 h3 d4 (W_words hI.1 hc hI.2.2.1.2), d1.symm, d3⟩
theorem W_close {p0 : Int} {V V' : mm_M} {e r : Int} (hV : wA V) (h : C_close p0 V V' e r) : WT V V' := ok1_W h (fun _ h => no9_W h (fun _ h => fun _ => by
    obtain ⟨_, V1, h2, h3⟩ := h
    exact WT_cn h3 (WI_0 h2.2.2.2.2.1)))
theorem P_close {p0 : Int} {n : Nat} {M M1 M2 M' : mm_M} {e r r' : Int} (hI : LI n M) (h1 : cP M M1) (h2 : ∀ o, o ≠ 23 → M2 o = M1 o) (hc : C_close p0 M M1 e r) (h3 : xP M2 M') (hx : C_close p0 (vX M2) (vX M') (M' 17 0) r') : LI (n + 1) M' ∧ M' 17 0 = e ∧ (e = 0 → r = r') := by
  rw [hl_v h1 h2] at hx
  obtain ⟨d1, d2, d3, d4⟩ := D_close hI.2.2.1.1 hc hx
  exact ⟨hI.step h1 h2 h3 d4 (W_close hI.1 hc hI.2.2.1.2), d1.symm, d3⟩
theorem W_end {p0 p1 : Int} {V V' : mm_M} {e r : Int} (hV : wA V) (h : C_end p0 p1 V V' e r) : WT V V' := ok1_W h (fun _ h => WT_s h.2)
theorem P_end {p0 p1 : Int} {n : Nat} {M M1 M2 M' : mm_M} {e r r' : Int} (hb1 : p1 = 0 ∨ p1 = 1) (hI : LI n M) (h1 : cP M M1) (h2 : ∀ o, o ≠ 23 → M2 o = M1 o) (hc : C_end p0 p1 M M1 e r) (h3 : xP M2 M') (hx : C_end p0 p1 (vX M2) (vX M') (M' 17 0) r') : LI (n + 1) M' ∧ M' 17 0 = e ∧ (e = 0 → r = r') := by
  rw [hl_v h1 h2] at hx
  obtain ⟨d1, d2, d3, d4⟩ := D_end hI.2.2.1.1 hc hx
  exact ⟨hI.step h1 h2 h3 d4 (W_end hI.1 hc hI.2.2.1.2), d1.symm, d3⟩
theorem W_ways {p0 p1 : Int} {V V' : mm_M} {e r : Int} (hV : wA V) (h : C_ways p0 p1 V V' e r) : WT V V' := ok2_W h (fun h => WT_s h.2)
theorem P_ways {p0 p1 : Int} {n : Nat} {M M1 M2 M' : mm_M} {e r r' : Int} (hI : LI n M) (h1 : cP M M1) (h2 : ∀ o, o ≠ 23 → M2 o = M1 o) (hc : C_ways p0 p1 M M1 e r) (h3 : xP M2 M') (hx : C_ways p0 p1 (vX M2) (vX M') (M' 17 0) r') : LI (n + 1) M' ∧ M' 17 0 = e ∧ (e = 0 → r = r') := by
  rw [hl_v h1 h2] at hx
  obtain ⟨d1, d2, d3, d4⟩ := D_ways hI.1 hI.2.2.1.1 hc hx
  exact ⟨hI.step h1 h2 h3 d4 (W_ways hI.1 hc hI.2.2.1.2), d1.symm, d3⟩
theorem W_isStart {p0 : Int} {V V' : mm_M} {e r : Int} (hV : wA V) (h : C_isStart p0 V V' e r) : WT V V' := ok1_W h (fun _ h => WT_s h.2)
theorem P_isStart {p0 : Int} {n : Nat} {M M1 M2 M' : mm_M} {e r r' : Int} (hI : LI n M) (h1 : cP M M1) (h2 : ∀ o, o ≠ 23 → M2 o = M1 o) (hc : C_isStart p0 M M1 e r) (h3 : xP M2 M') (hx : C_isStart p0 (vX M2) (vX M') (M' 17 0) r') : LI (n + 1) M' ∧ M' 17 0 = e ∧ (e = 0 → r = r') := by
  rw [hl_v h1 h2] at hx
  obtain ⟨d1, d2, d3, d4⟩ := D_isStart hI.2.2.1.1 hc hx
  exact ⟨hI.step h1 h2 h3 d4 (W_isStart hI.1 hc hI.2.2.1.2), d1.symm, d3⟩
theorem W_rule {p0 : Int} {V V' : mm_M} {e r : Int} (hV : wA V) (h : C_rule p0 V V' e r) : WT V V' := ok1_W h (fun _ h => WT_s h.2)
theorem P_rule {p0 : Int} {n : Nat} {M M1 M2 M' : mm_M} {e r r' : Int} (hI : LI n M) (h1 : cP M M1) (h2 : ∀ o, o ≠ 23 → M2 o = M1 o) (hc : C_rule p0 M M1 e r) (h3 : xP M2 M') (hx : C_rule p0 (vX M2) (vX M') (M' 17 0) r') : LI (n + 1) M' ∧ M' 17 0 = e ∧ (e = 0 → r = r') := by
  rw [hl_v h1 h2] at hx
  obtain ⟨d1, d2, d3, d4⟩ := D_rule hI.2.2.1.1 hc hx
  exact ⟨hI.step h1 h2 h3 d4 (W_rule hI.1 hc hI.2.2.1.2), d1.symm, d3⟩
theorem W_begin {p0 p1 : Int} {V V' : mm_M} {e r : Int} (hV : wA V) (h : C_begin p0 p1 V V' e r) : WT V V' := ok1_W h (fun hp h => WT_2 (by
    have hl := isK_le (wk3 hp.1).k
    rw [losI_o (by omega)]
    unfold bgM
    rw [mm_up_o _ (by omega), mm_up_o _ (by omega)]) h.2)
theorem P_begin {p0 p1 : Int} {n : Nat} {M M1 M2 M' : mm_M} {e r r' : Int} (hI : LI n M) (h1 : cP M M1) (h2 : ∀ o, o ≠ 23 → M2 o = M1 o) (hc : C_begin p0 p1 M M1 e r) (h3 : xP M2 M') (hx : C_begin p0 p1 (vX M2) (vX M') (M' 17 0) r') : LI (n + 1) M' ∧ M' 17 0 = e ∧ (e = 0 → r = r') := by
  rw [hl_v h1 h2] at hx
  obtain ⟨d1, d2, d3, d4⟩ := D_begin hI.2.2.1.1 hc hx
  exact ⟨hI.step h1 h2 h3 d4 (W_begin hI.1 hc hI.2.2.1.2), d1.symm, d3⟩
theorem W_step {p0 p1 p2 : Int} {V V' : mm_M} {e r : Int} (hV : wA V) (h : C_step p0 p1 p2 V V' e r) : WT V V' := ok1_W h (fun hp h => by
    obtain ⟨V1, h1, h2⟩ := h
    have hl := isK_le (wk3 hp.1).k
    refine WT_2 ?_ h2
    rw [losI_o (by omega)]
    rcases h1 with ⟨_, _, e⟩ | ⟨_, _, e, _⟩
    · rw [e]
    · exact e 2 (by simp; omega))
theorem P_step {p0 p1 p2 : Int} {n : Nat} {M M1 M2 M' : mm_M} {e r r' : Int} (hb2 : p2 = 0 ∨ p2 = 1) (hI : LI n M) (h1 : cP M M1) (h2 : ∀ o, o ≠ 23 → M2 o = M1 o) (hc : C_step p0 p1 p2 M M1 e r) (h3 : xP M2 M') (hx : C_step p0 p1 p2 (vX M2) (vX M') (M' 17 0) r') : LI (n + 1) M' ∧ M' 17 0 = e ∧ (e = 0 → r = r') := by
  rw [hl_v h1 h2] at hx
  obtain ⟨d1, d2, d3, d4⟩ := D_step hI.1 hI.2.2.1.1 hc hx
  exact ⟨hI.step h1 h2 h3 d4 (W_step hI.1 hc hI.2.2.1.2), d1.symm, d3⟩
theorem W_back {p0 p1 : Int} {V V' : mm_M} {e r : Int} (hV : wA V) (h : C_back p0 p1 V V' e r) : WT V V' := ok1_W h (fun hp h => no9_W h (fun _ h => by
    obtain ⟨_, V1, h1, h2⟩ := h
    have hl := isK_le (wk3 hp).k
    exact WT_2 (by rw [losM_o (by omega)]; exact h1.1 2 (by simp; omega)) h2))
theorem P_back {p0 p1 : Int} {n : Nat} {M M1 M2 M' : mm_M} {e r r' : Int} (hb1 : p1 = 0 ∨ p1 = 1) (hI : LI n M) (h1 : cP M M1) (h2 : ∀ o, o ≠ 23 → M2 o = M1 o) (hc : C_back p0 p1 M M1 e r) (h3 : xP M2 M') (hx : C_back p0 p1 (vX M2) (vX M') (M' 17 0) r') : LI (n + 1) M' ∧ M' 17 0 = e ∧ (e = 0 → r = r') := by
  rw [hl_v h1 h2] at hx
  obtain ⟨d1, d2, d3, d4⟩ := D_back hI.1 hI.2.2.1.1 hc hx
  exact ⟨hI.step h1 h2 h3 d4 (W_back hI.1 hc hI.2.2.1.2), d1.symm, d3⟩
theorem W_on {p0 p1 : Int} {V V' : mm_M} {e r : Int} (hV : wA V) (h : C_on p0 p1 V V' e r) : WT V V' := ok1_W h (fun hp h => by
    obtain ⟨V1, n, h1, h2, h3⟩ := h
    have hl := isK_le (wk3 hp).k
    exact WT_2 (by rw [losI_o (by omega)]; exact goR_fr _ _ _ _ h1 2 (by simp; omega)) h3)
theorem P_on {p0 p1 : Int} {n : Nat} {M M1 M2 M' : mm_M} {e r r' : Int} (hb1 : p1 = 0 ∨ p1 = 1) (hI : LI n M) (h1 : cP M M1) (h2 : ∀ o, o ≠ 23 → M2 o = M1 o) (hc : C_on p0 p1 M M1 e r) (h3 : xP M2 M') (hx : C_on p0 p1 (vX M2) (vX M') (M' 17 0) r') : LI (n + 1) M' ∧ M' 17 0 = e ∧ (e = 0 → r = r') := by
  rw [hl_v h1 h2] at hx
  obtain ⟨d1, d2, d3, d4⟩ := D_on hb1 hI.1 hI.2.2.1.1 hc hx
  exact ⟨hI.step h1 h2 h3 d4 (W_on hI.1 hc hI.2.2.1.2), d1.symm, d3⟩
theorem W_complete {p0 p1 : Int} {V V' : mm_M} {e r : Int} (hV : wA V) (h : C_complete p0 p1 V V' e r) : WT V V' := ok1_W h (fun hp h => no9_W h (fun _ h => by
    obtain ⟨V0, V1, n, h0, h1, h2, h3, h4⟩ := h
    have hl := isK_le (wk3 hp).k
    exact WT_2 (by rw [losI_o (by omega), h2 2 (by simp; omega), h0 2 (by simp)]) h4))
theorem P_complete {p0 p1 : Int} {n : Nat} {M M1 M2 M' : mm_M} {e r r' : Int} (hb1 : p1 = 0 ∨ p1 = 1) (hI : LI n M) (h1 : cP M M1) (h2 : ∀ o, o ≠ 23 → M2 o = M1 o) (hc : C_complete p0 p1 M M1 e r) (h3 : xP M2 M') (hx : C_complete p0 p1 (vX M2) (vX M') (M' 17 0) r') : LI (n + 1) M' ∧ M' 17 0 = e ∧ (e = 0 → r = r') := by
  rw [hl_v h1 h2] at hx
  obtain ⟨d1, d2, d3, d4⟩ := D_complete hb1 hI.1 hI.2.2.1.1 hc hx
  exact ⟨hI.step h1 h2 h3 d4 (W_complete hI.1 hc hI.2.2.1.2), d1.symm, d3⟩
theorem W_splice {p0 p1 p2 : Int} {V V' : mm_M} {e r : Int} (hV : wA V) (h : C_splice p0 p1 p2 V V' e r) : WT V V' := ok1_W h (fun hp h => no9_W h (fun _ h => by
    obtain ⟨_, V1, h1, h2, h3⟩ := h
    have hl := isK_le (wk3 hp.1).k
    have hl2 := isK_le (wk3 hp.2.1).k
    exact WT_2 (by rw [losM_o (by omega), losM_o (by omega)]; exact h2 2 (by simp; omega)) h3))
theorem P_splice {p0 p1 p2 : Int} {n : Nat} {M M1 M2 M' : mm_M} {e r r' : Int} (hI : LI n M) (h1 : cP M M1) (h2 : ∀ o, o ≠ 23 → M2 o = M1 o) (hc : C_splice p0 p1 p2 M M1 e r) (h3 : xP M2 M') (hx : C_splice p0 p1 p2 (vX M2) (vX M') (M' 17 0) r') : LI (n + 1) M' ∧ M' 17 0 = e ∧ (e = 0 → r = r') := by
  rw [hl_v h1 h2] at hx
  obtain ⟨d1, d2, d3, d4⟩ := D_splice hI.1 hI.2.2.1.1 hc hx
  exact ⟨hI.step h1 h2 h3 d4 (W_splice hI.1 hc hI.2.2.1.2), d1.symm, d3⟩
theorem W_join {p0 p1 : Int} {V V' : mm_M} {e r : Int} (hV : wA V) (h : C_join p0 p1 V V' e r) : WT V V' := ok1_W h (fun hp h => no9_W h (fun _ h => by
    obtain ⟨i, j, _, _, V1, V2, h2, h3, h4, h5, h6⟩ := h
    have hl := isK_le (wk3 hp.1).k
    have hl2 := isK_le (wk3 hp.2).k
    exact WT_2 (by rw [losM_o (by omega), losM_o (by omega), h5 2 (by simp; omega)]; exact h3 2 (by simp; omega)) h6))
theorem P_join {p0 p1 : Int} {n : Nat} {M M1 M2 M' : mm_M} {e r r' : Int} (hI : LI n M) (h1 : cP M M1) (h2 : ∀ o, o ≠ 23 → M2 o = M1 o) (hc : C_join p0 p1 M M1 e r) (h3 : xP M2 M') (hx : C_join p0 p1 (vX M2) (vX M') (M' 17 0) r') : LI (n + 1) M' ∧ M' 17 0 = e ∧ (e = 0 → r = r') := by
  rw [hl_v h1 h2] at hx
  obtain ⟨d1, d2, d3, d4⟩ := D_join hI.1 hI.2.2.1.1 hc hx
  exact ⟨hI.step h1 h2 h3 d4 (W_join hI.1 hc hI.2.2.1.2), d1.symm, d3⟩
theorem W_cut {p0 p1 p2 p3 : Int} {V V' : mm_M} {e r : Int} (hV : wA V) (h : C_cut p0 p1 p2 p3 V V' e r) : WT V V' := ok1_W h (fun hp h => no9_W h (fun _ h => by
    obtain ⟨_, V1, h1, h2, h3⟩ := h
    have hl := isK_le (wk3 hp.1).k
    have hl2 := isK_le (wk3 hp.2.1).k
    exact WT_2 (by rw [losM_o (by omega), losM_o (by omega)]; exact h2 2 (by simp; omega)) h3))
theorem P_cut {p0 p1 p2 p3 : Int} {n : Nat} {M M1 M2 M' : mm_M} {e r r' : Int} (hI : LI n M) (h1 : cP M M1) (h2 : ∀ o, o ≠ 23 → M2 o = M1 o) (hc : C_cut p0 p1 p2 p3 M M1 e r) (h3 : xP M2 M') (hx : C_cut p0 p1 p2 p3 (vX M2) (vX M') (M' 17 0) r') : LI (n + 1) M' ∧ M' 17 0 = e ∧ (e = 0 → r = r') := by
  rw [hl_v h1 h2] at hx
  obtain ⟨d1, d2, d3, d4⟩ := D_cut hI.1 hI.2.2.1.1 hc hx
  exact ⟨hI.step h1 h2 h3 d4 (W_cut hI.1 hc hI.2.2.1.2), d1.symm, d3⟩
theorem W_turnRound {p0 : Int} {V V' : mm_M} {e r : Int} (hV : wA V) (h : C_turnRound p0 V V' e r) : WT V V' := ok1_W h (fun hp h => no9_W h (fun _ h => by
    obtain ⟨V1, V2, h1, h2, h3, h4, h5, h6⟩ := h
    have hl := isK_le (wk3 hp).k
    exact WT_2 (by rw [h4 2 (by simp; omega)]; exact h2 2 (by simp; omega)) h6))
theorem P_turnRound {p0 : Int} {n : Nat} {M M1 M2 M' : mm_M} {e r r' : Int} (hI : LI n M) (h1 : cP M M1) (h2 : ∀ o, o ≠ 23 → M2 o = M1 o) (hc : C_turnRound p0 M M1 e r) (h3 : xP M2 M') (hx : C_turnRound p0 (vX M2) (vX M') (M' 17 0) r') : LI (n + 1) M' ∧ M' 17 0 = e ∧ (e = 0 → r = r') := by
  rw [hl_v h1 h2] at hx
  obtain ⟨d1, d2, d3, d4⟩ := D_turnRound hI.1 hI.2.2.1.1 hc hx
  exact ⟨hI.step h1 h2 h3 d4 (W_turnRound hI.1 hc hI.2.2.1.2), d1.symm, d3⟩
theorem W_rotate {p0 p1 : Int} {V V' : mm_M} {e r : Int} (hV : wA V) (h : C_rotate p0 p1 V V' e r) : WT V V' := ok2_W h (fun h => no9_W h (fun _ h => by
    obtain ⟨V1, h1, h2, h3, h4⟩ := h
    refine WT_2 ?_ h4
    rw [losI_o (by omega)]
    exact h2 2 (by unfold wk; simp; omega)))
theorem P_rotate {p0 p1 : Int} {n : Nat} {M M1 M2 M' : mm_M} {e r r' : Int} (hI : LI n M) (h1 : cP M M1) (h2 : ∀ o, o ≠ 23 → M2 o = M1 o) (hc : C_rotate p0 p1 M M1 e r) (h3 : xP M2 M') (hx : C_rotate p0 p1 (vX M2) (vX M') (M' 17 0) r') : LI (n + 1) M' ∧ M' 17 0 = e ∧ (e = 0 → r = r') := by
  rw [hl_v h1 h2] at hx
  obtain ⟨d1, d2, d3, d4⟩ := D_rotate hI.1 hI.2.2.1.1 hc hx
  exact ⟨hI.step h1 h2 h3 d4 (W_rotate hI.1 hc hI.2.2.1.2), d1.symm, d3⟩
theorem W_first {p0 p1 p2 : Int} {V V' : mm_M} {e r : Int} (hV : wA V) (h : C_first p0 p1 p2 V V' e r) : WT V V' := ok1_W h (fun hp h => no9_W h (fun _ h => by
    obtain ⟨V0, V1, V2, n, h0, h1, h2, h3, h4, h5, h6⟩ := h
    have hl := isK_le (wk3 hp.1).k
    refine WT_2 ?_ h6
    rw [h4 2 (by simp), h2 2 (by simp; omega)]
    unfold bgM
    rw [mm_up_o _ (by omega), mm_up_o _ (by omega), h0 2 (by simp)]))
theorem P_first {p0 p1 p2 : Int} {n : Nat} {M M1 M2 M' : mm_M} {e r r' : Int} (hb2 : p2 = 0 ∨ p2 = 1) (hI : LI n M) (h1 : cP M M1) (h2 : ∀ o, o ≠ 23 → M2 o = M1 o) (hc : C_first p0 p1 p2 M M1 e r) (h3 : xP M2 M') (hx : C_first p0 p1 p2 (vX M2) (vX M') (M' 17 0) r') : LI (n + 1) M' ∧ M' 17 0 = e ∧ (e = 0 → r = r') := by
  rw [hl_v h1 h2] at hx
  obtain ⟨d1, d2, d3, d4⟩ := D_first hb2 hI.1 hI.2.2.1.1 hc hx
  exact ⟨hI.step h1 h2 h3 d4 (W_first hI.1 hc hI.2.2.1.2), d1.symm, d3⟩
theorem W_next {p0 p1 : Int} {V V' : mm_M} {e r : Int} (hV : wA V) (h : C_next p0 p1 V V' e r) : WT V V' := ok1_W h (fun hp h => no9_W h (fun _ h => by
    obtain ⟨V1, V2, q, h1, h2, h3, h4, h5⟩ := h
    have hl := isK_le (wk3 hp).k
    refine no9_W h5 (fun _ h => ?_)
    obtain ⟨_, V3, b2, b3, b4⟩ := h
    exact WT_2 (by rw [losM_o (by omega), b3 2 (by simp; omega), h4 2 (by simp), h2 2 (by simp)]) b4))
theorem P_next {p0 p1 : Int} {n : Nat} {M M1 M2 M' : mm_M} {e r r' : Int} (hb1 : p1 = 0 ∨ p1 = 1) (hI : LI n M) (h1 : cP M M1) (h2 : ∀ o, o ≠ 23 → M2 o = M1 o) (hc : C_next p0 p1 M M1 e r) (h3 : xP M2 M') (hx : C_next p0 p1 (vX M2) (vX M') (M' 17 0) r') : LI (n + 1) M' ∧ M' 17 0 = e ∧ (e = 0 → r = r') := by
  rw [hl_v h1 h2] at hx
  obtain ⟨d1, d2, d3, d4⟩ := D_next hb1 hI.1 hI.2.2.1.1 hc hx
  exact ⟨hI.step h1 h2 h3 d4 (W_next hI.1 hc hI.2.2.1.2), d1.symm, d3⟩
theorem W_copy {p0 p1 : Int} {V V' : mm_M} {e r : Int} (hV : wA V) (h : C_copy p0 p1 V V' e r) : WT V V' := ok1_W h (fun hp h => no9_W h (fun _ h => by
    obtain ⟨_, V0, V1, h2, h3, h4, h5⟩ := h
    have hl := isK_le (wk3 hp.2).k
    exact WT_2 (by rw [h4 2 (by simp; omega), h2, losI_o (by omega)]) h5))
theorem P_copy {p0 p1 : Int} {n : Nat} {M M1 M2 M' : mm_M} {e r r' : Int} (hI : LI n M) (h1 : cP M M1) (h2 : ∀ o, o ≠ 23 → M2 o = M1 o) (hc : C_copy p0 p1 M M1 e r) (h3 : xP M2 M') (hx : C_copy p0 p1 (vX M2) (vX M') (M' 17 0) r') : LI (n + 1) M' ∧ M' 17 0 = e ∧ (e = 0 → r = r') := by
  rw [hl_v h1 h2] at hx
  obtain ⟨d1, d2, d3, d4⟩ := D_copy hI.2.2.1.1 hc hx
  exact ⟨hI.step h1 h2 h3 d4 (W_copy hI.1 hc hI.2.2.1.2), d1.symm, d3⟩
theorem W_length {p0 : Int} {V V' : mm_M} {e r : Int} (hV : wA V) (h : C_length p0 V V' e r) : WT V V' := ok1_W h (fun _ h => WT_s h.2)
theorem P_length {p0 : Int} {n : Nat} {M M1 M2 M' : mm_M} {e r r' : Int} (hI : LI n M) (h1 : cP M M1) (h2 : ∀ o, o ≠ 23 → M2 o = M1 o) (hc : C_length p0 M M1 e r) (h3 : xP M2 M') (hx : C_length p0 (vX M2) (vX M') (M' 17 0) r') : LI (n + 1) M' ∧ M' 17 0 = e ∧ (e = 0 → r = r') := by
  rw [hl_v h1 h2] at hx
  obtain ⟨d1, d2, d3, d4⟩ := D_length hI.2.2.1.1 hc hx
  exact ⟨hI.step h1 h2 h3 d4 (W_length hI.1 hc hI.2.2.1.2), d1.symm, d3⟩
theorem W_cornerAt {p0 p1 : Int} {V V' : mm_M} {e r : Int} (hV : wA V) (h : C_cornerAt p0 p1 V V' e r) : WT V V' := ok1_W h (fun _ h => WT_s h.2)
theorem P_cornerAt {p0 p1 : Int} {n : Nat} {M M1 M2 M' : mm_M} {e r r' : Int} (hI : LI n M) (h1 : cP M M1) (h2 : ∀ o, o ≠ 23 → M2 o = M1 o) (hc : C_cornerAt p0 p1 M M1 e r) (h3 : xP M2 M') (hx : C_cornerAt p0 p1 (vX M2) (vX M') (M' 17 0) r') : LI (n + 1) M' ∧ M' 17 0 = e ∧ (e = 0 → r = r') := by
  rw [hl_v h1 h2] at hx
  obtain ⟨d1, d2, d3, d4⟩ := D_cornerAt hI.1 hI.2.2.1.1 hc hx
  exact ⟨hI.step h1 h2 h3 d4 (W_cornerAt hI.1 hc hI.2.2.1.2), d1.symm, d3⟩
theorem W_stepAt {p0 p1 : Int} {V V' : mm_M} {e r : Int} (hV : wA V) (h : C_stepAt p0 p1 V V' e r) : WT V V' := ok1_W h (fun _ h => WT_s h.2)
theorem P_stepAt {p0 p1 : Int} {n : Nat} {M M1 M2 M' : mm_M} {e r r' : Int} (hI : LI n M) (h1 : cP M M1) (h2 : ∀ o, o ≠ 23 → M2 o = M1 o) (hc : C_stepAt p0 p1 M M1 e r) (h3 : xP M2 M') (hx : C_stepAt p0 p1 (vX M2) (vX M') (M' 17 0) r') : LI (n + 1) M' ∧ M' 17 0 = e ∧ (e = 0 → r = r') := by
  rw [hl_v h1 h2] at hx
  obtain ⟨d1, d2, d3, d4⟩ := D_stepAt hI.2.2.1.1 hc hx
  exact ⟨hI.step h1 h2 h3 d4 (W_stepAt hI.1 hc hI.2.2.1.2), d1.symm, d3⟩
theorem W_find {p0 p1 : Int} {V V' : mm_M} {e r : Int} (hV : wA V) (h : C_find p0 p1 V V' e r) : WT V V' := ok1_W h (fun _ h => WT_s h.2)
theorem P_find {p0 p1 : Int} {n : Nat} {M M1 M2 M' : mm_M} {e r r' : Int} (hI : LI n M) (h1 : cP M M1) (h2 : ∀ o, o ≠ 23 → M2 o = M1 o) (hc : C_find p0 p1 M M1 e r) (h3 : xP M2 M') (hx : C_find p0 p1 (vX M2) (vX M') (M' 17 0) r') : LI (n + 1) M' ∧ M' 17 0 = e ∧ (e = 0 → r = r') := by
  rw [hl_v h1 h2] at hx
  obtain ⟨d1, d2, d3, d4⟩ := D_find hI.2.2.1.1 hc hx
  exact ⟨hI.step h1 h2 h3 d4 (W_find hI.1 hc hI.2.2.1.2), d1.symm, d3⟩
theorem W_is {p0 p1 : Int} {V V' : mm_M} {e r : Int} (hV : wA V) (h : C_is p0 p1 V V' e r) : WT V V' := ok1_W h (fun _ h => WT_s h.2)
theorem P_is {p0 p1 : Int} {n : Nat} {M M1 M2 M' : mm_M} {e r r' : Int} (hb1 : p1 = 0 ∨ p1 = 1) (hI : LI n M) (h1 : cP M M1) (h2 : ∀ o, o ≠ 23 → M2 o = M1 o) (hc : C_is p0 p1 M M1 e r) (h3 : xP M2 M') (hx : C_is p0 p1 (vX M2) (vX M') (M' 17 0) r') : LI (n + 1) M' ∧ M' 17 0 = e ∧ (e = 0 → r = r') := by
  rw [hl_v h1 h2] at hx
  obtain ⟨d1, d2, d3, d4⟩ := D_is hI.1 hI.2.2.1.1 hc hx
  exact ⟨hI.step h1 h2 h3 d4 (W_is hI.1 hc hI.2.2.1.2), d1.symm, d3⟩
theorem W_same {p0 p1 : Int} {V V' : mm_M} {e r : Int} (hV : wA V) (h : C_same p0 p1 V V' e r) : WT V V' := ok1_W h (fun _ h => WT_s h.2)
theorem P_same {p0 p1 : Int} {n : Nat} {M M1 M2 M' : mm_M} {e r r' : Int} (hI : LI n M) (h1 : cP M M1) (h2 : ∀ o, o ≠ 23 → M2 o = M1 o) (hc : C_same p0 p1 M M1 e r) (h3 : xP M2 M') (hx : C_same p0 p1 (vX M2) (vX M') (M' 17 0) r') : LI (n + 1) M' ∧ M' 17 0 = e ∧ (e = 0 → r = r') := by
  rw [hl_v h1 h2] at hx
  obtain ⟨d1, d2, d3, d4⟩ := D_same hI.2.2.1.1 hc hx
  exact ⟨hI.step h1 h2 h3 d4 (W_same hI.1 hc hI.2.2.1.2), d1.symm, d3⟩
theorem W_turnOf {p0 p1 : Int} {V V' : mm_M} {e r : Int} (hV : wA V) (h : C_turnOf p0 p1 V V' e r) : WT V V' := ok1_W h (fun _ h => WT_s h.2)
theorem P_turnOf {p0 p1 : Int} {n : Nat} {M M1 M2 M' : mm_M} {e r r' : Int} (hI : LI n M) (h1 : cP M M1) (h2 : ∀ o, o ≠ 23 → M2 o = M1 o) (hc : C_turnOf p0 p1 M M1 e r) (h3 : xP M2 M') (hx : C_turnOf p0 p1 (vX M2) (vX M') (M' 17 0) r') : LI (n + 1) M' ∧ M' 17 0 = e ∧ (e = 0 → r = r') := by
  rw [hl_v h1 h2] at hx
  obtain ⟨d1, d2, d3, d4⟩ := D_turnOf hI.1 hI.2.2.1.1 hc hx
  exact ⟨hI.step h1 h2 h3 d4 (W_turnOf hI.1 hc hI.2.2.1.2), d1.symm, d3⟩
theorem W_wordAt {p0 p1 p2 : Int} {V V' : mm_M} {e r : Int} (hV : wA V) (h : C_wordAt p0 p1 p2 V V' e r) : WT V V' := ok2_W h (fun h => WT_s h.2)
theorem P_wordAt {p0 p1 p2 : Int} {n : Nat} {M M1 M2 M' : mm_M} {e r r' : Int} (hI : LI n M) (h1 : cP M M1) (h2 : ∀ o, o ≠ 23 → M2 o = M1 o) (hc : C_wordAt p0 p1 p2 M M1 e r) (h3 : xP M2 M') (hx : C_wordAt p0 p1 p2 (vX M2) (vX M') (M' 17 0) r') : LI (n + 1) M' ∧ M' 17 0 = e ∧ (e = 0 → r = r') := by
  rw [hl_v h1 h2] at hx
  obtain ⟨d1, d2, d3, d4⟩ := D_wordAt hI.2.2.1.2 hI.2.2.1.1 hc hx
  exact ⟨hI.step h1 h2 h3 d4 (W_wordAt hI.1 hc hI.2.2.1.2), d1.symm, d3⟩
theorem W_cursor {p0 p1 : Int} {V V' : mm_M} {e r : Int} (hV : wA V) (h : C_cursor p0 p1 V V' e r) : WT V V' := ok1_W h (fun hp h => WT_2 (st_fr 2 (by simp)) h.2)
theorem P_cursor {p0 p1 : Int} {n : Nat} {M M1 M2 M' : mm_M} {e r r' : Int} (hI : LI n M) (h1 : cP M M1) (h2 : ∀ o, o ≠ 23 → M2 o = M1 o) (hc : C_cursor p0 p1 M M1 e r) (h3 : xP M2 M') (hx : C_cursor p0 p1 (vX M2) (vX M') (M' 17 0) r') : LI (n + 1) M' ∧ M' 17 0 = e ∧ (e = 0 → r = r') := by
  rw [hl_v h1 h2] at hx
  obtain ⟨d1, d2, d3, d4⟩ := D_cursor hI.1 hI.2.2.1.1 hc hx
  exact ⟨hI.step h1 h2 h3 d4 (W_cursor hI.1 hc hI.2.2.1.2), d1.symm, d3⟩
theorem W_cursorSet {p0 : Int} {V V' : mm_M} {e r : Int} (hV : wA V) (h : C_cursorSet p0 V V' e r) : WT V V' := ok1_W h (fun hp h => by
    obtain ⟨V1, h1, h2⟩ := h
    refine WT_2 ?_ h2
    rcases h1 with ⟨_, _, e⟩ | ⟨a, _, e⟩
    · rw [e]
    · have hl := isK_le (hV.2.2.1.resolve_left a.1.1).k
      rw [e, mm_up_o _ (by omega)])
theorem P_cursorSet {p0 : Int} {n : Nat} {M M1 M2 M' : mm_M} {e r r' : Int} (hI : LI n M) (h1 : cP M M1) (h2 : ∀ o, o ≠ 23 → M2 o = M1 o) (hc : C_cursorSet p0 M M1 e r) (h3 : xP M2 M') (hx : C_cursorSet p0 (vX M2) (vX M') (M' 17 0) r') : LI (n + 1) M' ∧ M' 17 0 = e ∧ (e = 0 → r = r') := by
  rw [hl_v h1 h2] at hx
  obtain ⟨d1, d2, d3, d4⟩ := D_cursorSet hI.1 hI.2.1.1 hI.2.2.1.1 hc hx
  exact ⟨hI.step h1 h2 h3 d4 (W_cursorSet hI.1 hc hI.2.2.1.2), d1.symm, d3⟩
theorem W_cursorAdd {p0 : Int} {V V' : mm_M} {e r : Int} (hV : wA V) (h : C_cursorAdd p0 V V' e r) : WT V V' := ok1_W h (fun hp h => by
    obtain ⟨V1, h1, h2⟩ := h
    refine WT_2 ?_ h2
    rcases h1 with ⟨_, _, e⟩ | ⟨a, _, A, _, _, e, _⟩
    · rw [e]
    · have hl := isK_le (hV.2.2.1.resolve_left a.1.1).k
      exact e 2 (by simp; omega))
theorem P_cursorAdd {p0 : Int} {n : Nat} {M M1 M2 M' : mm_M} {e r r' : Int} (hI : LI n M) (h1 : cP M M1) (h2 : ∀ o, o ≠ 23 → M2 o = M1 o) (hc : C_cursorAdd p0 M M1 e r) (h3 : xP M2 M') (hx : C_cursorAdd p0 (vX M2) (vX M') (M' 17 0) r') : LI (n + 1) M' ∧ M' 17 0 = e ∧ (e = 0 → r = r') := by
  rw [hl_v h1 h2] at hx
  obtain ⟨d1, d2, d3, d4⟩ := D_cursorAdd hI.1 hI.2.1.1 hI.2.2.1.1 hc hx
  exact ⟨hI.step h1 h2 h3 d4 (W_cursorAdd hI.1 hc hI.2.2.1.2), d1.symm, d3⟩
theorem W_house {p0 : Int} {V V' : mm_M} {e r : Int} (hV : wA V) (h : C_house p0 V V' e r) : WT V V' := ok1_W h (fun _ h => WT_s h.2)
theorem P_house {p0 : Int} {n : Nat} {M M1 M2 M' : mm_M} {e r r' : Int} (hI : LI n M) (h1 : cP M M1) (h2 : ∀ o, o ≠ 23 → M2 o = M1 o) (hc : C_house p0 M M1 e r) (h3 : xP M2 M') (hx : C_house p0 (vX M2) (vX M') (M' 17 0) r') : LI (n + 1) M' ∧ M' 17 0 = e ∧ (e = 0 → r = r') := by
  rw [hl_v h1 h2] at hx
  obtain ⟨d1, d2, d3, d4⟩ := D_house hI.2.2.1.1 hc hx
  exact ⟨hI.step h1 h2 h3 d4 (W_house hI.1 hc hI.2.2.1.2), d1.symm, d3⟩
theorem W_clear {V V' : mm_M} {e r : Int} (hV : wA V) (h : C_clear V V' e r) : WT V V' := by
  obtain ⟨_, _, V1, h2, h3⟩ := h
  exact fun _ => WT_cn h3 (WI_0 h2.2.2.2.1)
theorem P_clear {n : Nat} {M M1 M2 M' : mm_M} {e r r' : Int} (hI : LI n M) (h1 : cP M M1) (h2 : ∀ o, o ≠ 23 → M2 o = M1 o) (hc : C_clear M M1 e r) (h3 : xP M2 M') (hx : C_clear (vX M2) (vX M') (M' 17 0) r') : LI (n + 1) M' ∧ M' 17 0 = e ∧ (e = 0 → r = r') := by
  rw [hl_v h1 h2] at hx
  obtain ⟨d1, d2, d3, d4⟩ := D_clear hI.2.2.1.1 hc hx
  exact ⟨hI.step h1 h2 h3 d4 (W_clear hI.1 hc hI.2.2.1.2), d1.symm, d3⟩
theorem W_oneWay {p0 : Int} {V V' : mm_M} {e r : Int} (hV : wA V) (h : C_oneWay p0 V V' e r) : WT V V' := no9_W h.2 (fun _ h => fun hV => WT_cn h.2 (WI_2 (by simp [mm_up]) (by simp [mm_up]) (by simp [mm_up]) hV))
theorem P_oneWay {p0 : Int} {n : Nat} {M M1 M2 M' : mm_M} {e r r' : Int} (hb0 : p0 = 0 ∨ p0 = 1) (hI : LI n M) (h1 : cP M M1) (h2 : ∀ o, o ≠ 23 → M2 o = M1 o) (hc : C_oneWay p0 M M1 e r) (h3 : xP M2 M') (hx : C_oneWay p0 (vX M2) (vX M') (M' 17 0) r') : LI (n + 1) M' ∧ M' 17 0 = e ∧ (e = 0 → r = r') := by
  rw [hl_v h1 h2] at hx
  obtain ⟨d1, d2, d3, d4⟩ := D_oneWay hI.2.2.1.1 hc hx
  exact ⟨hI.step h1 h2 h3 d4 (W_oneWay hI.1 hc hI.2.2.1.2), d1.symm, d3⟩
theorem W_turnTown {V V' : mm_M} {e r : Int} (hV : wA V) (h : C_turnTown V V' e r) : WT V V' := by
  obtain ⟨_, _, V1, h2, h3⟩ := h
  exact fun _ => WT_cn h3 (WI_0 h2.2.2.2.2.1)
theorem P_turnTown {n : Nat} {M M1 M2 M' : mm_M} {e r r' : Int} (hI : LI n M) (h1 : cP M M1) (h2 : ∀ o, o ≠ 23 → M2 o = M1 o) (hc : C_turnTown M M1 e r) (h3 : xP M2 M') (hx : C_turnTown (vX M2) (vX M') (M' 17 0) r') : LI (n + 1) M' ∧ M' 17 0 = e ∧ (e = 0 → r = r') := by
  rw [hl_v h1 h2] at hx
  obtain ⟨d1, d2, d3, d4⟩ := D_turnTown hI.1 hI.2.2.1.1 hc hx
  exact ⟨hI.step h1 h2 h3 d4 (W_turnTown hI.1 hc hI.2.2.1.2), d1.symm, d3⟩
theorem W_streets {V V' : mm_M} {e r : Int} (hV : wA V) (h : C_streets V V' e r) : WT V V' := WT_s h.2.2
theorem P_streets {n : Nat} {M M1 M2 M' : mm_M} {e r r' : Int} (hI : LI n M) (h1 : cP M M1) (h2 : ∀ o, o ≠ 23 → M2 o = M1 o) (hc : C_streets M M1 e r) (h3 : xP M2 M') (hx : C_streets (vX M2) (vX M') (M' 17 0) r') : LI (n + 1) M' ∧ M' 17 0 = e ∧ (e = 0 → r = r') := by
  rw [hl_v h1 h2] at hx
  obtain ⟨d1, d2, d3, d4⟩ := D_streets hI.2.2.1.1 hc hx
  exact ⟨hI.step h1 h2 h3 d4 (W_streets hI.1 hc hI.2.2.1.2), d1.symm, d3⟩
theorem W_odd {V V' : mm_M} {e r : Int} (hV : wA V) (h : C_odd V V' e r) : WT V V' := WT_s h.2.2
theorem P_odd {n : Nat} {M M1 M2 M' : mm_M} {e r r' : Int} (hI : LI n M) (h1 : cP M M1) (h2 : ∀ o, o ≠ 23 → M2 o = M1 o) (hc : C_odd M M1 e r) (h3 : xP M2 M') (hx : C_odd (vX M2) (vX M') (M' 17 0) r') : LI (n + 1) M' ∧ M' 17 0 = e ∧ (e = 0 → r = r') := by
  rw [hl_v h1 h2] at hx
  obtain ⟨d1, d2, d3, d4⟩ := D_odd hI.1 hI.2.2.1.1 hc hx
  exact ⟨hI.step h1 h2 h3 d4 (W_odd hI.1 hc hI.2.2.1.2), d1.symm, d3⟩
theorem W_hangs {V V' : mm_M} {e r : Int} (hV : wA V) (h : C_hangs V V' e r) : WT V V' := WT_s h.2.2
theorem P_hangs {n : Nat} {M M1 M2 M' : mm_M} {e r r' : Int} (hI : LI n M) (h1 : cP M M1) (h2 : ∀ o, o ≠ 23 → M2 o = M1 o) (hc : C_hangs M M1 e r) (h3 : xP M2 M') (hx : C_hangs (vX M2) (vX M') (M' 17 0) r') : LI (n + 1) M' ∧ M' 17 0 = e ∧ (e = 0 → r = r') := by
  rw [hl_v h1 h2] at hx
  obtain ⟨d1, d2, d3, d4⟩ := D_hangs hI.1 hI.2.2.1.1 hc hx
  exact ⟨hI.step h1 h2 h3 d4 (W_hangs hI.1 hc hI.2.2.1.2), d1.symm, d3⟩
theorem W_kind {V V' : mm_M} {e r : Int} (hV : wA V) (h : C_kind V V' e r) : WT V V' := WT_s h.2.2
theorem P_kind {n : Nat} {M M1 M2 M' : mm_M} {e r r' : Int} (hI : LI n M) (h1 : cP M M1) (h2 : ∀ o, o ≠ 23 → M2 o = M1 o) (hc : C_kind M M1 e r) (h3 : xP M2 M') (hx : C_kind (vX M2) (vX M') (M' 17 0) r') : LI (n + 1) M' ∧ M' 17 0 = e ∧ (e = 0 → r = r') := by
  rw [hl_v h1 h2] at hx
  obtain ⟨d1, d2, d3, d4⟩ := D_kind hI.1 hI.2.2.1.1 hc hx
  exact ⟨hI.step h1 h2 h3 d4 (W_kind hI.1 hc hI.2.2.1.2), d1.symm, d3⟩
theorem W_cursorGo {p0 : Int} {V V' : mm_M} {e r : Int} (hV : wA V) (h : C_cursorGo p0 V V' e r) : WT V V' := by
  obtain ⟨_, V1, h1, h2⟩ := h
  refine WT_2 ?_ h2
  rcases h1 with ⟨_, _, e⟩ | ⟨_, _, e, _⟩
  · rw [e]
  · exact e 2 (by simp)
theorem P_cursorGo {p0 : Int} {n : Nat} {M M1 M2 M' : mm_M} {e r r' : Int} (hb0 : p0 = 0 ∨ p0 = 1) (hI : LI n M) (h1 : cP M M1) (h2 : ∀ o, o ≠ 23 → M2 o = M1 o) (hc : C_cursorGo p0 M M1 e r) (h3 : xP M2 M') (hx : C_cursorGo p0 (vX M2) (vX M') (M' 17 0) r') : LI (n + 1) M' ∧ M' 17 0 = e ∧ (e = 0 → r = r') := by
  rw [hl_v h1 h2] at hx
  obtain ⟨d1, d2, d3, d4⟩ := D_cursorGo hI.1 hI.2.1.1 hI.2.2.1.1 hc hx
  exact ⟨hI.step h1 h2 h3 d4 (W_cursorGo hI.1 hc hI.2.2.1.2), d1.symm, d3⟩
theorem W_cursorRemove {V V' : mm_M} {e r : Int} (hV : wA V) (h : C_cursorRemove V V' e r) : WT V V' := by
  obtain ⟨_, V1, h1, h2⟩ := h
  refine WT_2 ?_ h2
  rcases h1 with ⟨_, _, e⟩ | ⟨a, _, A, _, _, e, _⟩
  · rw [e]
  · have hl := isK_le (hV.2.2.1.resolve_left a.1.1).k
    exact e 2 (by simp; omega)
theorem P_cursorRemove {n : Nat} {M M1 M2 M' : mm_M} {e r r' : Int} (hI : LI n M) (h1 : cP M M1) (h2 : ∀ o, o ≠ 23 → M2 o = M1 o) (hc : C_cursorRemove M M1 e r) (h3 : xP M2 M') (hx : C_cursorRemove (vX M2) (vX M') (M' 17 0) r') : LI (n + 1) M' ∧ M' 17 0 = e ∧ (e = 0 → r = r') := by
  rw [hl_v h1 h2] at hx
  obtain ⟨d1, d2, d3, d4⟩ := D_cursorRemove hI.1 hI.2.1.1 hI.2.2.1.1 hc hx
  exact ⟨hI.step h1 h2 h3 d4 (W_cursorRemove hI.1 hc hI.2.2.1.2), d1.symm, d3⟩
theorem W_cursorCan {p0 : Int} {V V' : mm_M} {e r : Int} (hV : wA V) (h : C_cursorCan p0 V V' e r) : WT V V' := WT_s h.2.2
theorem P_cursorCan {p0 : Int} {n : Nat} {M M1 M2 M' : mm_M} {e r r' : Int} (hb0 : p0 = 0 ∨ p0 = 1) (hI : LI n M) (h1 : cP M M1) (h2 : ∀ o, o ≠ 23 → M2 o = M1 o) (hc : C_cursorCan p0 M M1 e r) (h3 : xP M2 M') (hx : C_cursorCan p0 (vX M2) (vX M') (M' 17 0) r') : LI (n + 1) M' ∧ M' 17 0 = e ∧ (e = 0 → r = r') := by
  rw [hl_v h1 h2] at hx
  obtain ⟨d1, d2, d3, d4⟩ := D_cursorCan hI.1 hI.2.1.1 hI.2.2.1.1 hc hx
  exact ⟨hI.step h1 h2 h3 d4 (W_cursorCan hI.1 hc hI.2.2.1.2), d1.symm, d3⟩
theorem W_cursorPlace {p0 : Int} {V V' : mm_M} {e r : Int} (hV : wA V) (h : C_cursorPlace p0 V V' e r) : WT V V' := WT_s h.2.2
theorem P_cursorPlace {p0 : Int} {n : Nat} {M M1 M2 M' : mm_M} {e r r' : Int} (hb0 : p0 = 0 ∨ p0 = 1) (hI : LI n M) (h1 : cP M M1) (h2 : ∀ o, o ≠ 23 → M2 o = M1 o) (hc : C_cursorPlace p0 M M1 e r) (h3 : xP M2 M') (hx : C_cursorPlace p0 (vX M2) (vX M') (M' 17 0) r') : LI (n + 1) M' ∧ M' 17 0 = e ∧ (e = 0 → r = r') := by
  rw [hl_v h1 h2] at hx
  obtain ⟨d1, d2, d3, d4⟩ := D_cursorPlace hI.1 hI.2.2.1.1 hc hx
  exact ⟨hI.step h1 h2 h3 d4 (W_cursorPlace hI.1 hc hI.2.2.1.2), d1.symm, d3⟩

