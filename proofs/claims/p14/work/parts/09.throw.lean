/-! the words of the class's throws -/
theorem mm_Uq {w : Jvm.Cond} (h : (goodWord w = true ∧ (w ∈ tables_1_3.take 130 ∨ w ∈ tables_1_2.drop 200 ∨ w ∈ lw_tbl)) ∨ w ∈ mm_nw) : w ∈ mm_U := by
  rcases h with ⟨g, h | h | h⟩ | h
  · exact mm_T_U _ (mm_Tof (Or.inl (List.mem_append_right _ (List.mem_append_right _ (List.mem_append_left _ (List.mem_of_mem_take h))))) g)
  · exact mm_T_U _ (mm_Tof (Or.inl (List.mem_append_right _ (List.mem_append_left _ (List.mem_of_mem_drop h)))) g)
  · exact mm_T_U _ (mm_Tof (Or.inr h) g)
  · exact List.mem_append_right _ h
theorem mm_xq0 : ∀ w ∈ Jvm.Cond.classLink RX3 342 (mm_xn 0) :: Jvm.Cond.initialized (mm_xn 0) :: vx_atS RX3 346 (mm_xn 0) mm_nms, (goodWord w = true ∧ (w ∈ tables_1_3.take 130 ∨ w ∈ tables_1_2.drop 200 ∨ w ∈ lw_tbl)) ∨ w ∈ mm_nw := by decide +kernel
theorem mm_xw0 : ∀ w ∈ Jvm.Cond.classLink RX3 342 (mm_xn 0) :: Jvm.Cond.initialized (mm_xn 0) :: vx_atS RX3 346 (mm_xn 0) mm_nms, w ∈ mm_U := fun w hw => mm_Uq (mm_xq0 w hw)
theorem mm_xq1 : ∀ w ∈ Jvm.Cond.classLink RX3 358 (mm_xn 1) :: Jvm.Cond.initialized (mm_xn 1) :: vx_atS RX3 362 (mm_xn 1) mm_nms, (goodWord w = true ∧ (w ∈ tables_1_3.take 130 ∨ w ∈ tables_1_2.drop 200 ∨ w ∈ lw_tbl)) ∨ w ∈ mm_nw := by decide +kernel
theorem mm_xw1 : ∀ w ∈ Jvm.Cond.classLink RX3 358 (mm_xn 1) :: Jvm.Cond.initialized (mm_xn 1) :: vx_atS RX3 362 (mm_xn 1) mm_nms, w ∈ mm_U := fun w hw => mm_Uq (mm_xq1 w hw)
theorem mm_xo0 : ∀ w ∈ Jvm.Cond.classLink RX3 342 (mm_xn 0) :: Jvm.Cond.initialized (mm_xn 0) :: vx_atS RX3 346 (mm_xn 0) mm_nms, vx_ot w = true := by decide +kernel
theorem mm_xo1 : ∀ w ∈ Jvm.Cond.classLink RX3 358 (mm_xn 1) :: Jvm.Cond.initialized (mm_xn 1) :: vx_atS RX3 362 (mm_xn 1) mm_nms, vx_ot w = true := by decide +kernel
theorem mm_xss (is : Nat) (h : is = 344 ∨ is = 352 ∨ is = 354 ∨ is = 356 ∨ is = 360) : ∃ tx, (is, tx) ∈ mm_strs := by
  have h2 : (mm_strs.map Prod.fst).contains is = true := by
    rcases h with rfl | rfl | rfl | rfl | rfl <;> decide +kernel
  obtain ⟨x, hx, e⟩ := List.mem_map.mp (List.contains_iff_mem.mp h2)
  exact ⟨x.2, by rw [← e]; exact hx⟩
theorem mm_xe3 : ∀ idx is ic k, mm_x3 idx is ic = some k → mm_XE RX3 mm_U idx is ic k := by
  intro idx is ic k h
  unfold mm_x3 at h
  cases h1 : (idx == 342 && ic == 346 && (is == 344 || is == 352 || is == 354 || is == 356))
  · rw [h1] at h
    cases h2 : (idx == 358 && ic == 362 && is == 360)
    · rw [h2] at h
      exact absurd h (by simp)
    · rw [h2] at h
      simp at h h2
      obtain ⟨⟨rfl, rfl⟩, rfl⟩ := h2
      subst h
      exact ⟨rfl, mm_xss _ (by simp), mm_xw1 _ (List.mem_cons_self ..), mm_xw1 _ (List.mem_cons_of_mem _ (List.mem_cons_self ..)), fun w hw => mm_xw1 w (List.mem_cons_of_mem _ (List.mem_cons_of_mem _ hw)), mm_xo1, by decide⟩
  · rw [h1] at h
    simp at h h1
    obtain ⟨⟨rfl, rfl⟩, h2⟩ := h1
    subst h
    exact ⟨rfl, mm_xss _ (by omega), mm_xw0 _ (List.mem_cons_self ..), mm_xw0 _ (List.mem_cons_of_mem _ (List.mem_cons_self ..)), fun w hw => mm_xw0 w (List.mem_cons_of_mem _ (List.mem_cons_of_mem _ hw)), mm_xo0, by decide⟩

