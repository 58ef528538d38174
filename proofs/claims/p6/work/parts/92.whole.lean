/-! from the entry to the law's end -/
set_option maxRecDepth 20000 in
set_option maxHeartbeats 8000000 in
theorem whole_start {p : Program} {e : Env} {s : State} {m : MethodId} {below : List Frame} {meth : Method} {c : Code} (l : Launch) (hflags : l.flags = flags0) {b L : Nat} {xs : Nat → Int32} (hL : L ≤ 320) (C0 : lw_At p s m meth c b L xs) : W p l e room_1 s m #[Value.ref b] below meth c s.heap [] 0 0 (lw_Z below #[Value.ref b] s) (entryFrame m ([Value.ref b] : List Value).toArray 7) := by
  obtain ⟨hx, hb, hr, hml, hown, hts, hX, hbl, hlocks, hgv⟩ := id C0
  have hl : l.stackTraces = false := by
    unfold Launch.stackTraces
    rw [hflags]
    decide +kernel
  have hs : ∀ c ∈ flatC st_n, c.before #[Value.ref b] s = true := flat_of_before st_n hgv
  have hA : ∀ a : Nat, a < s.heap.size → ¬ mm_AL s a := fun a h h2 => Nat.lt_irrefl _ (Nat.lt_of_lt_of_le h h2)
  obtain ⟨D, hD⟩ := st_K hts
  obtain ⟨cI, i1, i2⟩ := st_row (ty := .int) (hts _ (by decide +kernel))
  obtain ⟨cB, b1, b2⟩ := st_row (ty := .byte) (hts _ (by decide +kernel))
  have hK1 : va_K D mm_cl [(cI, .int)] s := ⟨hD, fun k q hq => by
    match k, hq with
    | 0, hq => cases hq; exact ⟨i1, i2⟩
    | k + 1, hq => simp at hq⟩
  have hAO : ∀ U : State, s.WarmedH U.vm → va_AO RX2 U := fun U hW => va_AO.moved hW.alike (va_AO.of (hts (.arrayOver (.object RX2)) (by decide +kernel)))
  obtain ⟨z24, z25, z28, z29, hJ⟩ := st_J hts hs hA
  have hU : ∀ w ∈ mm_U, w.before #[Value.ref b] s = true := fun w hw => (List.mem_append.mp hw).elim (fun h => hts _ (List.mem_filter.mp h).1) (fun h => va_Nw.use (mm_nw_ot w h) (st_nw hts w h))
  have hNw : va_Nw (.methodLinkNest RL 139 yX4_init RL) s := st_nw hts _ (by decide +kernel)
  refine law_s1 l C0 hK1 hAO (fun cW x0 m0 t1 g1 w1 w2 w3 w4 u1 r1 r2 r3 r4 r5 v1 v2 v3 v4 v5 H locs ls hK hP hD1 hS hlv => ?_)
  refine law_s2 l C0 hK hNw hP hD1 hS hlv (fun o0 H locs ls hP hD2 hS hlv => ?_)
  have hK3 : va_K D mm_cl (mm_ty (cI, cB, cW)) s := ⟨hD, fun k q hq => by
    match k, hq with
    | 0, hq => cases hq; exact ⟨i1, i2⟩
    | 1, hq => cases hq; exact ⟨b1, b2⟩
    | 2, hq => cases hq; exact hK.2 1 _ rfl
    | k + 3, hq => simp [mm_ty] at hq⟩
  have hW := ws0 (cI := cI) (cB := cB) (cW := cW) (x0 := x0) (o0 := o0) (z24 := z24) (z25 := z25) (z28 := z28) (z29 := z29) (m0 := m0) (t1 := t1) (g1 := g1) (w1 := w1) (w2 := w2) (w3 := w3) (w4 := w4) (u1 := u1) (r1 := r1) (r2 := r2) (r3 := r3) (r4 := r4) (r5 := r5) (v1 := v1) (v2 := v2) (v3 := v3) (v4 := v4) (v5 := v5)
  generalize hAd : AdL [0, x0, t1, r1.1, r1.2.1, r1.2.2.1, r1.2.2.2, g1, w1, r2, w2, r3, w3, r4, w4, r5, u1, m0, v1, v2, v3, v4, v5, o0, z24, z25, 0, 0, z28, z29] = Ad at hW
  have a8 : ∀ j, j < 3 → fW (some w1) (some w2) (some w3) j = some (mm_ad Ad (8 + 2 * j)) := by
    intro j hj
    rw [← hAd]
    rcases (show j = 0 ∨ j = 1 ∨ j = 2 by omega) with rfl | rfl | rfl <;> rfl
  have hP3 : va_P D mm_cl (mm_ws (cI, cB, cW) Ad M0 []) H := by
    rw [hW]
    exact va_P_row (k := 6) (g := fun j => some (mm_ad Ad (8 + 2 * j))) hP rfl a8
  have hD4 : va_D (mm_AL s) (mm_ws (cI, cB, cW) Ad M0 []) := by
    rw [hW]
    exact va_D.set (p := 6) hD2 rfl
  have hJ1 : mm_J (mm_AL s) Ad s := hJ Ad (by rw [← hAd]; rfl) (by rw [← hAd]; rfl) (by rw [← hAd]; rfl) (by rw [← hAd]; rfl)
  have hG : mm_G (mm_AL s) D (cI, cB, cW) Ad s := st_G hts hs hK3 hJ1
  have X : mm_Cx p s m #[Value.ref b] c code RL 7 mm_U D (cI, cB, cW) (mm_AL s) := ⟨hx, hb, hml, hown, hU, hK3, fun _ h => h, fun q hq w hw => mm_T_U w (mm_T_cls q hq w hw)⟩
  have hSX : mm_SX s (mm_AL s) (fun q => if q = b then some (L, xs) else none) := by
    intro q n ys h9
    have h : (if q = b then some (L, xs) else none) = some (n, ys) := h9
    by_cases hq : q = b
    · rw [if_pos hq] at h
      cases h
      rw [hq]
      exact ⟨hX, hbl, hA b hbl⟩
    · rw [if_neg hq] at h
      cases h
  have hSC : (fun q => if q = b then some (L, xs) else none) b = some (L, xs) := if_pos rfl
  have hZ := zl_loop (below := below) (e := e) hl X hG hSX hr hlocks hSC hL (fun n u i M hi hI hn hu fin x5 x6 => csL_35 hl (mm_CZ_law X hG hSX) hSC (by omega) hi hI hn hu fin x5 x6) LI0 (u := 42) (by decide)
  have n1 : mm_cc Ad (mm_R 1) = .ref x0 := by rw [← hAd]; rfl
  have n17 : mm_cc Ad (mm_R 17) = .ref m0 := by rw [← hAd]; rfl
  have n23 : mm_cc Ad (mm_R 23) = .ref o0 := by rw [← hAd]; rfl
  have hLo : mm_Lo Ad 7 [some (mm_X b), some (mm_R 1), some (mm_R 17), some (mm_R 23), some (mm_I 0), none, none] ls := by
    refine ⟨hlv.1, hlv.2.1, rfl, fun i v hv => ?_⟩
    match i, hv with
    | 0, hv => cases hv; exact hlv.2.2 (0, .ref b) (by simp)
    | 1, hv => cases hv; rw [n1]; exact hlv.2.2 (1, .ref x0) (by simp)
    | 2, hv => cases hv; rw [n17]; exact hlv.2.2 (2, .ref m0) (by simp)
    | 3, hv => cases hv; rw [n23]; exact hlv.2.2 (3, .ref o0) (by simp)
    | 4, hv => cases hv; exact hlv.2.2 (4, .int 0) (by simp)
    | 5, hv => cases hv
    | 6, hv => cases hv
    | i + 7, hv => simp [mm_nth] at hv
  exact W.widen (k := 42) (n := 504) (by decide) (by decide) (hZ H locs ls hLo hP3 hD4 hS)

