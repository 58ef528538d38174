section
/-! throws, returns, a method's contract -/
def mm_nms : List String := ["java/lang/RuntimeException", "java/lang/Exception"]
/-- the words of a throw -/
def mm_XE (own : String) (Ts : List Jvm.Cond) (idx is ic k : Nat) : Prop :=
  own = RX3 ∧ (∃ tx, (is, tx) ∈ mm_strs) ∧ Jvm.Cond.classLink own idx (mm_xn k) ∈ Ts ∧ Jvm.Cond.initialized (mm_xn k) ∈ Ts ∧ (∀ w ∈ vx_atS own ic (mm_xn k) mm_nms, w ∈ Ts) ∧ (∀ w ∈ Jvm.Cond.classLink own idx (mm_xn k) :: Jvm.Cond.initialized (mm_xn k) :: vx_atS own ic (mm_xn k) mm_nms, vx_ot w = true) ∧ Bundle.fit (mm_xn k) = true
def mm_rtOK (rt : Nat) (ret : Option FieldType) : Bool := match rt, ret with
  | 0, none => true
  | 1, some .int => true
  | 2, some .boolean => true
  | 3, some .long => true
  | 4, some (.object _) => true
  | 5, some .byte => true
  | 20, none => true
  | 21, some .int => true
  | 24, some (.object _) => true
  | 24, some (.array _) => true
  | _, _ => false
section MD
variable {p : Program} {l : Launch} {e : Env} {R : Room} {s : State} {m : MethodId} {args : Array Value} {below : List Frame} {meth : Method} {c : Code}
variable {cc : ByteArray} {own : String} {nL : Nat} {Ts : List Jvm.Cond} {D : va_G} {E : mm_En} {Ad : Nat → Nat} {A : Nat → Prop}
variable {X0 : Nat → Nat → Nat → Option Nat} {rt mu : Nat} {hn : Nat → Nat → Option Nat} {Qr : mm_Q}
theorem mm_F {t : State} {H : Heap} {locs : List Loc} (hS : va_S A s.heap H locs) (h1 : H.size ≤ t.heap.size) (h2 : ∀ q : Nat, q < H.size → t.heap[q]? = H[q]?) : va_F A s t :=
  ⟨Nat.le_trans hS.1 h1, fun q a b => (h2 q (Nat.lt_of_lt_of_le a hS.1)).trans (hS.2.1 q a b)⟩
theorem mz_thr (hl : l.stackTraces = false) (X : mm_Cx p s m args c cc own nL Ts D E A) (hG : mm_G A D E Ad s) (hR : R.cells = mu ∧ R.slots = 12 * mu) (hRf : 5 < R.frames) (hRl : 82 ≤ R.locals) (htab : ∀ x ∈ c.exceptionTable.toList, False) (hlocks : meth.locks = false)
    (hXE : ∀ idx is ic k, X0 idx is ic = some k → mm_XE own Ts idx is ic k) (hn0 : ∀ pc k, hn pc k = none)
    (idx pc : Nat) (rest : List mm_E) (ls : mm_Ls) (st : List mm_V) (M : mm_M) (d : List Nat) (u : Nat) (hd : decode cc pc = .ok (.new idx, 3)) (hnx : mm_nx (pc + 3) rest = true) (hk : mm_chk cc rest = true) (h : mm_thr X0 mu hn Qr idx pc rest st M d u) :
    mm_Z p l e R s m args below meth c (vx_MQ below (mm_Qc D E Ad A Qr) (mm_XC D E Ad A Qr) args s mu (12 * mu) A) nL D E Ad A pc ls st M d u := by
  unfold mm_thr at h
  split at h
  · rename_i q1 t1 q2 is t2 q3 ic t3 q4 t4 r'
    split at h
    · rename_i k hx
      obtain ⟨rfl, hu, hq⟩ := h
      obtain ⟨rfl, ⟨tx, htx⟩, hcl, hini, hat, hot, hfit⟩ := hXE _ _ _ _ hx
      obtain ⟨d3, -, n4, k4⟩ := mm_chk_cons hk
      obtain ⟨d4, -, n7, k7⟩ := mm_chk_cons k4
      obtain ⟨d7, -, n10, k10⟩ := mm_chk_cons k7
      obtain ⟨d10, -, -, -⟩ := mm_chk_cons k10
      have e1 : q1 = pc + 3 := eq_of_beq hnx
      have e2 : q2 = q1 + 1 := eq_of_beq n4
      have e3 : q3 = q2 + 3 := eq_of_beq n7
      have e4 : q4 = q3 + 3 := eq_of_beq n10
      subst e1; subst e2; subst e3; subst e4
      intro H locs L hL hP hD hS
      obtain ⟨sa, hsa⟩ := hG.2.2.2.1 _ htx
      refine vx_throwSW X.1 X.2.1 hl X.2.2.2.1 hfit (by decide +kernel) (X.2.2.2.2.1 _ hcl) (X.2.2.2.2.1 _ hini) hsa (fun w hw => X.2.2.2.2.1 _ (hat w hw)) hot hG.2.1 hG.2.2.1 hS (hL.1.trans X.2.2.1.symm) hd d3 d4 d7 d10 (fun x hx => (htab x hx).elim) hRf ?_ (by rw [hR.1]; exact hu) (by rw [hR.2]; omega) hlocks ?_ hS.2.2 hu (by omega)
      · exact hRl
      · intro t _ h1 h2
        exact ⟨⟨k, M, d, hq, rfl, hP.kept (fun j q hj => h2 q.1 (hP j q hj).lt), hD⟩, mm_F hS h1 h2⟩
    · exact h.elim
  · exact h.elim
theorem mz_ret0 {ret : Option FieldType} (X : mm_Cx p s m args c cc own nL Ts D E A) (hr : meth.sig.returnType = ret) (hrt : mm_rtOK rt ret = true) (hlocks : meth.locks = false)
    (i : Instr) (pc : Nat) (ls : mm_Ls) (st : List mm_V) (M : mm_M) (d : List Nat) (u : Nat) (hd : decode cc pc = .ok (i, mm_len i)) (h : mm_ret rt mu i st M d u Qr) :
    mm_Z p l e R s m args below meth c (MQ below (mm_Qc D E Ad A Qr) args s mu (12 * mu) A) nL D E Ad A pc ls st M d u := by
  intro H locs L hL hP hD hS
  unfold mm_ret at h
  split at h
  · rename_i r hir
    obtain ⟨hb, hu, hq⟩ := h
    refine W.widen (k := mu) (n := 12 * mu) hu (by omega) ?_
    have hQ : ∀ t : State, t.heap = H → s.WarmedH t.vm → mm_Qc D E Ad A Qr args s (.returned (r.map (mm_cc Ad))) t := fun t ht _ => ⟨⟨r, M, d, hq, rfl, by rw [ht]; exact hP, hD⟩, hS.F ht⟩
    subst hr
    unfold mm_isRet at hir
    have r0 : ∀ {k : Nat}, (k = 0 ∨ k = 20) → mm_rtOK k meth.sig.returnType = true → meth.sig.returnType = none := by
      intro k hk h
      rcases hk with rfl | rfl
      all_goals
        revert h
        cases meth.sig.returnType <;> simp [mm_rtOK]
    have r1 : ∀ {k : Nat}, (k = 1 ∨ k = 21) → mm_rtOK k meth.sig.returnType = true → meth.sig.returnType = some .int := by
      intro k hk h
      rcases hk with rfl | rfl
      all_goals
        revert h
        cases meth.sig.returnType with
        | none => simp [mm_rtOK]
        | some t => cases t <;> simp [mm_rtOK]
    have r4 : ∀ {k : Nat}, (k = 4 ∨ k = 24) → mm_rtOK k meth.sig.returnType = true → ∃ rt9, meth.sig.returnType = some rt9 ∧ ((∃ n, rt9 = .object n) ∨ ∃ t, rt9 = .array t) := by
      intro k hk h
      rcases hk with rfl | rfl
      all_goals
        revert h
        cases meth.sig.returnType with
        | none => simp [mm_rtOK]
        | some t => cases t <;> simp [mm_rtOK]
    have aret : ∀ v : Nat ⊕ Nat, (∃ rt9, meth.sig.returnType = some rt9 ∧ ((∃ n, rt9 = .object n) ∨ ∃ t, rt9 = .array t)) → (∀ t : State, t.heap = H → s.WarmedH t.vm → mm_Qc D E Ad A Qr args s (.returned (some (mm_cc Ad (.inr (.inr v))))) t) → decode cc pc = .ok (.areturn, 1) → W p l e R s m args below meth c H locs mu (12 * mu) (MQ below (mm_Qc D E Ad A Qr) args s mu (12 * mu) A) (F0 m pc L [mm_cc Ad (.inr (.inr v))]) := by
      intro v ⟨rt9, hr0, hr9⟩ hQ hd
      rcases mm_rcases Ad v with hv | ⟨q, hv⟩
      · simp only [hv] at hQ ⊢
        exact W.aret X.1 X.2.1 hr0 hr9 (Or.inl rfl) hQ hS.2.2 hd
      · simp only [hv] at hQ ⊢
        exact W.aret X.1 X.2.1 hr0 hr9 (Or.inr ⟨_, rfl⟩) hQ hS.2.2 hd
    split at hir
    · cases hir
      exact W.vret X.1 X.2.1 (r0 (Or.inl rfl) hrt) hQ hS.2.2 hd
    · cases hir
      exact W.iret X.1 X.2.1 (r1 (Or.inl rfl) hrt) hQ hS.2.2 hd
    · rename_i x
      cases hir
      have hr0 : meth.sig.returnType = some .boolean := by
        revert hrt
        cases meth.sig.returnType with
        | none => simp [mm_rtOK]
        | some t => cases t <;> simp [mm_rtOK]
      have hx : x = 0 ∨ x = 1 := hb
      exact W.zret X.1 X.2.1 hr0 (by rcases hx with rfl | rfl <;> decide) hQ hS.2.2 hd
    · cases hir
      have hr0 : meth.sig.returnType = some .long := by
        revert hrt
        cases meth.sig.returnType with
        | none => simp [mm_rtOK]
        | some t => cases t <;> simp [mm_rtOK]
      exact W.lret X.1 X.2.1 hr0 hQ hS.2.2 hd
    · rename_i v
      cases hir
      exact aret v (r4 (Or.inl rfl) hrt) hQ hd
    · rename_i x
      cases hir
      have hr0 : meth.sig.returnType = some .byte := by
        revert hrt
        cases meth.sig.returnType with
        | none => simp [mm_rtOK]
        | some t => cases t <;> simp [mm_rtOK]
      have hx : x = 0 := hb
      subst hx
      exact W.zret X.1 X.2.1 hr0 (by decide) hQ hS.2.2 hd
    · cases hir
      exact W.vret X.1 X.2.1 (r0 (Or.inr rfl) hrt) hQ hS.2.2 hd
    · cases hir
      exact W.iret X.1 X.2.1 (r1 (Or.inr rfl) hrt) hQ hS.2.2 hd
    · rename_i v
      cases hir
      exact aret v (r4 (Or.inr rfl) hrt) hQ hd
    · cases hir
  · exact h.elim
theorem mz_ret {ret : Option FieldType} (X : mm_Cx p s m args c cc own nL Ts D E A) (hr : meth.sig.returnType = ret) (hrt : mm_rtOK rt ret = true) (hlocks : meth.locks = false)
    (i : Instr) (pc : Nat) (ls : mm_Ls) (st : List mm_V) (M : mm_M) (d : List Nat) (u : Nat) (hd : decode cc pc = .ok (i, mm_len i)) (h : mm_ret rt mu i st M d u Qr) :
    mm_Z p l e R s m args below meth c (vx_MQ below (mm_Qc D E Ad A Qr) (mm_XC D E Ad A Qr) args s mu (12 * mu) A) nL D E Ad A pc ls st M d u :=
  fun H locs L hL hP hD hS => vx_ret (mz_ret0 X hr hrt hlocks i pc ls st M d u hd h H locs L hL hP hD hS)
theorem mz_noT (htab : ∀ x ∈ c.exceptionTable.toList, False) (hlocks : meth.locks = false) (hn0 : ∀ pc k, hn pc k = none) :
    mm_hT p l e R s m args below meth c (vx_MQ below (mm_Qc D E Ad A Qr) (mm_XC D E Ad A Qr) args s mu (12 * mu) A) nL D E Ad A mu hn Qr := by
  intro k pc ls M d u H locs L rest q ce h1 _ hL hP hD hS hu hce hcv hcl
  exact vx_out (fun x hx => (htab x hx).elim) hlocks hce hcv hcl (fun t ht _ => ⟨⟨k, M, d, h1 (hn0 pc k), rfl, by rw [ht]; exact hP, hD⟩, hS.F ht⟩) hS.2.2 hu (by omega)
end MD
def mm_fl : List mm_V → mm_Ls
  | [] => []
  | v :: r => match v with
    | .inr (.inl _) => some v :: none :: mm_fl r
    | _ => some v :: mm_fl r
def mm_pad : Nat → mm_Ls → mm_Ls
  | 0, l => l
  | n + 1, [] => none :: mm_pad n []
  | n + 1, a :: l => a :: mm_pad n l
def mm_ent (n : Nat) (av : List mm_V) : mm_Ls := mm_pad n (mm_fl av)
theorem mm_pad_len : ∀ (n : Nat) (l : mm_Ls), l.length ≤ n → (mm_pad n l).length = n
  | 0, l, h => by simp [mm_pad]; simpa using h
  | n + 1, [], h => by simp only [mm_pad, List.length_cons, mm_pad_len n [] (Nat.zero_le n)]
  | n + 1, a :: l, h => by simp only [mm_pad, List.length_cons, mm_pad_len n l (by simpa using h)]
theorem mm_pad_nth {v : mm_V} : ∀ (n : Nat) (l : mm_Ls) (i : Nat), mm_nth (mm_pad n l) i = some (some v) → mm_nth l i = some (some v)
  | 0, l, i, h => h
  | n + 1, [], 0, h => by simp [mm_pad, mm_nth] at h
  | n + 1, [], i + 1, h => by
    have := mm_pad_nth n [] i h
    simp [mm_nth] at this
  | n + 1, a :: l, 0, h => h
  | n + 1, a :: l, i + 1, h => mm_pad_nth n l i h
theorem mm_fl_len (Ad : Nat → Nat) : ∀ av : List mm_V, (lg_sl (av.map (mm_cc Ad))).length = (mm_fl av).length
  | [] => rfl
  | v :: r => by
    have ih := mm_fl_len Ad r
    simp only [lg_sl, List.map_cons, List.flatMap_cons, List.length_append] at ih ⊢
    rw [ih]
    have hc := mm_catv Ad v
    rcases v with x | x | o | q
    · simp [mm_fl, hc, mm_cat]; omega
    · simp [mm_fl, hc, mm_cat]; omega
    · simp [mm_fl, hc, mm_cat]; omega
    · simp [mm_fl, hc, mm_cat]; omega
theorem mm_fl_nth {Ad : Nat → Nat} {v : mm_V} : ∀ (av : List mm_V) (k i : Nat), mm_nth (mm_fl av) i = some (some v) → (k + i, mm_cc Ad v) ∈ lv_args k (av.map (mm_cc Ad))
  | [], k, i, h => by simp [mm_fl, mm_nth] at h
  | w :: r, k, i, h => by
    simp only [List.map_cons, lv_args, List.mem_cons]
    have hc := mm_catv Ad w
    have one : mm_cat w = 1 → mm_fl (w :: r) = some w :: mm_fl r := by
      intro h1
      rcases w with x | x | o | q <;> first | rfl | (simp [mm_cat] at h1)
    rcases (show mm_cat w = 1 ∨ mm_cat w = 2 by rcases w with x | x | o | q <;> simp [mm_cat]) with h1 | h2
    · rw [one h1] at h
      rw [hc, h1, if_neg (by decide)]
      cases i with
      | zero =>
        simp only [mm_nth, Option.some.injEq] at h
        left
        rw [h, Nat.add_zero]
      | succ i =>
        right
        have := mm_fl_nth (Ad := Ad) r (k + 1) i h
        rw [show k + (i + 1) = k + 1 + i by omega]
        exact this
    · have h3 : mm_fl (w :: r) = some w :: none :: mm_fl r := by
        rcases w with x | x | o | q <;> first | rfl | (simp [mm_cat] at h2)
      rw [h3] at h
      rw [hc, h2, if_pos rfl]
      match i, h with
      | 0, h =>
        simp only [mm_nth, Option.some.injEq] at h
        left
        rw [h, Nat.add_zero]
      | 1, h => simp [mm_nth] at h
      | i + 2, h =>
        right
        have := mm_fl_nth (Ad := Ad) r (k + 2) i h
        rw [show k + (i + 2) = k + 2 + i by omega]
        exact this
theorem mm_entry {Ad : Nat → Nat} {n : Nat} {av : List mm_V} (h : (mm_fl av).length ≤ n) : mm_Lo Ad n (mm_ent n av) (lg_sl (av.map (mm_cc Ad)) ++ List.replicate (n - (lg_sl (av.map (mm_cc Ad))).length) Slot.unset).toArray := by
  obtain ⟨h1, h2, h3⟩ := lv_entry (av.map (mm_cc Ad)) (n := n) (by rw [mm_fl_len]; exact h)
  refine ⟨h1, h2, mm_pad_len n _ h, fun i v hi => ?_⟩
  have := h3 _ (mm_fl_nth (Ad := Ad) av 0 i (mm_pad_nth n _ i hi))
  simpa using this
/-- a word of the tables, looked for first where it is likely to lie -/
theorem mm_Tof {w : Jvm.Cond} (h : w ∈ tables_1 ∨ w ∈ lw_tbl) (g : goodWord w = true) : w ∈ mm_T := List.mem_filter.mpr ⟨h.elim (fun h => List.mem_append_right _ h) id, g⟩
theorem mm_Tc3 : ∀ w ∈ u_ws RX3 TX3 7, goodWord w = true ∧ (w ∈ tables_1_1 ∨ w ∈ lw_tbl) := by decide +kernel
theorem mm_Tc1 : ∀ w ∈ u_ws RX1 TX1 8, goodWord w = true ∧ (w ∈ tables_1_1 ∨ w ∈ lw_tbl) := by decide +kernel
theorem mm_Tc2 : ∀ w ∈ u_ws RX2 TX2 4, goodWord w = true ∧ (w ∈ tables_1_1 ∨ w ∈ lw_tbl) := by decide +kernel
theorem mm_Tc0 : ∀ w ∈ u_ws RX0 TX0 5, goodWord w = true ∧ (w ∈ tables_1_1 ∨ w ∈ lw_tbl) := by decide +kernel
theorem mm_Tc5 : ∀ w ∈ u_ws RX5 TX5 17, goodWord w = true ∧ (w ∈ tables_1_6 ∨ w ∈ lw_tbl) := by decide +kernel
theorem mm_Tc4 : ∀ w ∈ u_ws RX4 TX4 2, goodWord w = true ∧ (w ∈ tables_1_3 ∨ w ∈ lw_tbl) := by decide +kernel
theorem mm_TcB : ∀ w ∈ u_ws RXB TXB 4, goodWord w = true ∧ (w ∈ tables_1_4 ∨ w ∈ lw_tbl) := by decide +kernel
theorem mm_TcS : ∀ w ∈ u_ws RXS TXS 4, goodWord w = true ∧ (w ∈ tables_1_5 ∨ w ∈ lw_tbl) := by decide +kernel
theorem mm_T_cls : ∀ q ∈ mm_cl, ∀ w ∈ u_ws q.1 q.2.1 q.2.2, w ∈ mm_T := by
  intro q hq w hw
  simp only [mm_cl, List.mem_cons, List.not_mem_nil, or_false] at hq
  rcases hq with rfl | rfl | rfl | rfl | rfl | rfl | rfl | rfl
  · exact mm_Tof ((mm_Tc3 w hw).2.imp (fun h => List.mem_append_left _ h) id) (mm_Tc3 w hw).1
  · exact mm_Tof ((mm_Tc1 w hw).2.imp (fun h => List.mem_append_left _ h) id) (mm_Tc1 w hw).1
  · exact mm_Tof ((mm_Tc2 w hw).2.imp (fun h => List.mem_append_left _ h) id) (mm_Tc2 w hw).1
  · exact mm_Tof ((mm_Tc0 w hw).2.imp (fun h => List.mem_append_left _ h) id) (mm_Tc0 w hw).1
  · exact mm_Tof ((mm_Tc5 w hw).2.imp (fun h => List.mem_append_right _ (List.mem_append_right _ (List.mem_append_right _ (List.mem_append_right _ (List.mem_append_right _ (List.mem_append_left _ h)))))) id) (mm_Tc5 w hw).1
  · exact mm_Tof ((mm_Tc4 w hw).2.imp (fun h => List.mem_append_right _ (List.mem_append_right _ (List.mem_append_left _ h))) id) (mm_Tc4 w hw).1
  · exact mm_Tof ((mm_TcB w hw).2.imp (fun h => List.mem_append_right _ (List.mem_append_right _ (List.mem_append_right _ (List.mem_append_left _ h)))) id) (mm_TcB w hw).1
  · exact mm_Tof ((mm_TcS w hw).2.imp (fun h => List.mem_append_right _ (List.mem_append_right _ (List.mem_append_right _ (List.mem_append_right _ (List.mem_append_left _ h))))) id) (mm_TcS w hw).1
theorem mm_T_ab : Jvm.Cond.arrayClass .byte ∈ mm_T := by decide +kernel
/-- a method's contract out of its runs -/
theorem mm_meth {l : Launch} {y : MethodName} {b : ByteArray} {maxL : Nat} {ret : Option FieldType} {fr lo mu rt : Nat} {own : String} {sp : mm_S} {cd : List mm_E}
    {F : Nat → Option (Nat × Nat)} {C : Nat → Option mm_Ca} {X0 : Nat → Nat → Nat → Option Nat} {LC : Nat → Option Int}
    (hl : l.stackTraces = false) (hy : plainName y.cls = true) (hown : y.cls = own) (hk : mm_chk b cd = true) (hrt : mm_rtOK rt ret = true) (hfr : 5 < fr) (hlo : 82 ≤ lo)
    (hPo : mm_Po own mm_U F LC) (hPE : ∀ idx ca, C idx = some ca → mm_PE l own mm_U (mm_rm fr lo mu) idx ca) (hXE : ∀ idx is ic k, X0 idx is ic = some k → mm_XE own mm_U idx is ic k) (h91 : ∀ k rc, F k ≠ some (rc, 91))
    (h : ∀ av M d Q, sp av M d Q → (mm_fl av).length ≤ maxL ∧ mm_run F C X0 LC (fun _ => none) rt mu (fun _ _ => none) Q cd 0 (mm_ent maxL av) [] M d 0) : mm_Met l y b maxL ret [] fr lo mu sp := by
  intro D E Ad sz av M d Q hsp
  obtain ⟨hw, hrun⟩ := h av M d Q hsp
  refine vx_ofW (cc := b) (maxL := maxL) (ret := ret) hy rfl ?_
  intro p e s m args below meth c s₁ B hml htab hPc
  obtain ⟨rfl, hsz, hP, hD0, hG⟩ := hPc
  have hts := atoms_spec (ws := mm_cw y b maxL ret [] :: mm_T) B.pre
  have hts' : ∀ w ∈ mm_U, w.before (av.map (mm_cc Ad)).toArray s = true := fun w hw => (List.mem_append.mp hw).elim (fun hw => hts w (List.mem_cons_of_mem _ hw)) (fun hw => va_Nw.use (mm_nw_ot w hw) (hG.2.2.2.2.1 w hw))
  have X : mm_Cx p s m (av.map (mm_cc Ad)).toArray c b own maxL mm_U D E (va_A (mm_ws E Ad M d) sz) := ⟨B.exec, B.bytes, hml, hown ▸ findClass_of_methodNamed B.named, hts', hG.1, fun q hq => Or.inr (by rw [← hsz]; exact hq), fun q hq w hw => mm_T_U w (mm_T_cls q hq w hw)⟩
  have hlocks := B.notSynchronized
  rw [lg_entry_eq]
  refine hrun (mm_Z p l e (mm_rm fr lo mu) s m (av.map (mm_cc Ad)).toArray below meth c (vx_MQ below (mm_Qc D E Ad (va_A (mm_ws E Ad M d) sz) Q) (mm_XC D E Ad (va_A (mm_ws E Ad M d) sz) Q) (av.map (mm_cc Ad)).toArray s mu (12 * mu) (va_A (mm_ws E Ad M d) sz)) maxL D E Ad (va_A (mm_ws E Ad M d) sz)) ?_ s.heap [] _ (mm_entry hw) hP hD0.self va_S.rf
  intro pc i t rest ls st M' d' u Kn Kj hat hop kn kj
  obtain ⟨pre, hpre⟩ := mm_at_suf pc cd
  have hk' : mm_chk b ((pc, i, t) :: rest) = true := by
    rw [hpre, hat] at hk
    exact mm_chk_app pre _ hk
  refine mm_sound X hPo (SC := fun _ => none) (fun q n xs hq => by cases hq) ⟨hG.2.2.2.2.2.2.2, hG.2.2.2.2.1 _ (by simp [mm_nw]), ⟨⟨Nat.le_refl _, Nat.le_refl _⟩, hfr, hlo⟩, mm_T_U _ mm_T_ab, fun k rc e => absurd e (h91 k rc)⟩ ?_ ?_ ?_ hk' hop kn kj
  · exact mz_call X hG ⟨rfl, rfl⟩ hPE (mz_noT htab hlocks (fun _ _ => rfl))
  · exact mz_thr hl X hG ⟨rfl, rfl⟩ hfr hlo htab hlocks hXE (fun _ _ => rfl)
  · exact mz_ret X B.returns hrt hlocks
/-- a method of the system's that never throws -/
def mm_Jet (l : Launch) (y : MethodName) (b : ByteArray) (maxL : Nat) (ret : Option FieldType) (fr lo mu : Nat) (sp : mm_S) : Prop :=
  ∀ (D : va_G) (E : mm_En) (Ad : Nat → Nat) (sz : Nat) (av : List mm_V) (M : mm_M) (d : List Nat) (Q : mm_Q), sp av M d Q →
    Met l y (.code y b maxL ret :: mm_T) (mm_rm fr lo mu) (va_Pc (av.map (mm_cc Ad)) (mm_B D E Ad sz M d)) (mm_Qc D E Ad (va_A (mm_ws E Ad M d) sz) Q) mu (12 * mu) (va_A (mm_ws E Ad M d) sz)
theorem mm_methJ {l : Launch} {y : MethodName} {b : ByteArray} {maxL : Nat} {ret : Option FieldType} {fr lo mu rt : Nat} {own : String} {sp : mm_S} {cd : List mm_E}
    {F : Nat → Option (Nat × Nat)} {C : Nat → Option mm_Ca} {LC : Nat → Option Int}
    (hy : plainFor y = true) (hown : y.cls = own) (hk : mm_chk b cd = true) (hrt : mm_rtOK rt ret = true) (hfr : 5 < fr) (hlo : 82 ≤ lo)
    (hPo : mm_Po own mm_U F LC) (hPE : ∀ idx ca, C idx = some ca → mm_sem l own fr lo idx ca) (h91 : ∀ k rc, F k = some (rc, 91) → y.name = "<init>")
    (h : ∀ av M d Q, sp av M d Q → (mm_fl av).length ≤ maxL ∧ mm_run F C (fun _ _ _ => none) LC (fun _ => none) rt mu (fun _ _ => none) Q cd 0 (mm_ent maxL av) [] M d 0) : mm_Jet l y b maxL ret fr lo mu sp := by
  intro D E Ad sz av M d Q hsp
  obtain ⟨hw, hrun⟩ := h av M d Q hsp
  refine va_MetF (cc := b) (maxL := maxL) (ret := ret) hy rfl ?_
  intro p e s m args below meth c s₁ B hml hPc
  obtain ⟨rfl, hsz, hP, hD0, hG⟩ := hPc
  have hts := atoms_spec (ws := .code y b maxL ret :: mm_T) B.pre
  have hts' : ∀ w ∈ mm_U, w.before (av.map (mm_cc Ad)).toArray s = true := fun w hw => (List.mem_append.mp hw).elim (fun hw => hts w (List.mem_cons_of_mem _ hw)) (fun hw => va_Nw.use (mm_nw_ot w hw) (hG.2.2.2.2.1 w hw))
  have X : mm_Cx p s m (av.map (mm_cc Ad)).toArray c b own maxL mm_U D E (va_A (mm_ws E Ad M d) sz) := ⟨B.exec, B.bytes, hml, hown ▸ findClass_of_methodNamed B.named, hts', hG.1, fun q hq => Or.inr (by rw [← hsz]; exact hq), fun q hq w hw => mm_T_U w (mm_T_cls q hq w hw)⟩
  have hlocks := B.notSynchronized
  have hnm : meth.name = y.name := (name_of_methodNamed B.named B.method).1
  rw [lg_entry_eq]
  refine hrun (mm_Z p l e (mm_rm fr lo mu) s m (av.map (mm_cc Ad)).toArray below meth c (MQ below (mm_Qc D E Ad (va_A (mm_ws E Ad M d) sz) Q) (av.map (mm_cc Ad)).toArray s mu (12 * mu) (va_A (mm_ws E Ad M d) sz)) maxL D E Ad (va_A (mm_ws E Ad M d) sz)) ?_ s.heap [] _ (mm_entry hw) hP hD0.self va_S.rf
  intro pc i t rest ls st M' d' u Kn Kj hat hop kn kj
  obtain ⟨pre, hpre⟩ := mm_at_suf pc cd
  have hk' : mm_chk b ((pc, i, t) :: rest) = true := by
    rw [hpre, hat] at hk
    exact mm_chk_app pre _ hk
  refine mm_sound X hPo (SC := fun _ => none) (fun q n xs hq => by cases hq) ⟨hG.2.2.2.2.2.2.2, hG.2.2.2.2.1 _ (by simp [mm_nw]), ⟨⟨Nat.le_refl _, Nat.le_refl _⟩, hfr, hlo⟩, mm_T_U _ mm_T_ab, fun k rc e => hnm.trans (h91 k rc e)⟩ ?_ ?_ ?_ hk' hop kn kj
  · intro how idx pc ls st M d u Kn Kj hd hcall kn kj
    unfold mm_call at hcall
    split at hcall
    · rename_i h' n rc sp mu' hc
      obtain ⟨rfl, hn', hrv, hcat, hu, hsp⟩ := hcall
      exact hPE idx _ hc X hG ⟨Nat.le_refl _, Nat.le_refl _⟩ (Nat.le_refl _) (Nat.le_refl _) pc ls st M d u Kn _ hd hn' hrv hcat hu hsp kn
    · exact hcall.elim
  · intro idx pc rest ls st M d u hd hnx hr h
    unfold mm_thr at h
    split at h
    · exact h.elim
    · exact h.elim
  · exact mz_ret0 X B.returns hrt hlocks
end
section
/-! calls of the system's methods that never throw -/
section MJ
variable {p : Program} {l : Launch} {e : Env} {R : Room} {s : State} {m : MethodId} {args : Array Value} {below : List Frame} {meth : Method} {c : Code} {Qm : State → Prop}
variable {cc : ByteArray} {own : String} {nL : Nat} {D : va_G} {E : mm_En} {Ad : Nat → Nat} {A : Nat → Prop}
theorem mm_afterJ {pc u mu' : Nat} {H : Heap} {locs : List Loc} {L : Array Slot} {ls : mm_Ls} {st0 : List Value} {rest : List mm_V} {M : mm_M} {d : List Nat} {Q : mm_Q} {aa : Array Value} {Kn : mm_K}
    (hL : mm_Lo Ad nL ls L) (hD : va_D A (mm_ws E Ad M d)) (hS : va_S A s.heap H locs) (hA : ∀ q, s.heap.size ≤ q → A q)
    (hr : va_Run p l e R s m args below meth c H locs u (12 * u) mu' (12 * mu') (F0 m pc L st0) (rest.map (mm_cc Ad)) (mm_Qc D E Ad (va_A (mm_ws E Ad M d) H.size) Q aa) (va_A (mm_ws E Ad M d) H.size))
    (hQ : ∀ r M' d', Q (.inl r) M' d' → Kn ls (mm_push r rest) M' d' (u + mu'))
    (kn : ∀ ls st M d u, Kn ls st M d u → mm_Z p l e R s m args below meth c Qm nL D E Ad A (pc + 3) ls st M d u) :
    W p l e R s m args below meth c H locs u (12 * u) Qm (F0 m pc L st0) := by
  have hf := mm_wsA hD hS hA
  intro T hTh X
  have e12 : 12 * u + 12 * mu' = 12 * (u + mu') := by omega
  obtain ⟨v, st₀, t, T', L1, h0, X', hL1, e1, e2, ⟨⟨r, M', d', hq, hv, hP1, hD1⟩, hF⟩, st⟩ := hr T hTh X
  cases hv
  obtain ⟨k1, k2, k3⟩ := vx_keep h0 e1 hS (fun q _ h => hf q h) hf hL1 hF
  have h3 := kn _ _ _ _ _ (hQ _ _ _ hq) T'.heap (locs ++ L1) L hL (by rw [e1]; exact hP1) (hD1.weaken fun _ _ _ h => hf _ h) k3
  rw [e12] at X'
  obtain ⟨t2, a1, b1⟩ := h3 T' rfl X'
  refine ⟨t2, st t2 ?_, b1⟩
  have e3 : (r.map (mm_cc Ad)).toList ++ rest.map (mm_cc Ad) = (mm_push r rest).map (mm_cc Ad) := by cases r <;> rfl
  rw [e3]
  exact a1
end MJ
/-- a method's words: its code, its class -/
def mm_JW (y : MethodName) (b : ByteArray) (maxL : Nat) (ret : Option FieldType) : Prop := Jvm.Cond.code y b maxL ret ∈ mm_T ∧ Jvm.Cond.initialized y.cls ∈ mm_T ∧ (y.cls ≠ "java/lang/invoke/MethodHandle" ∧ y.cls ≠ "java/lang/invoke/VarHandle")
section MS
variable {l : Launch} {own : String} {y : MethodName} {b : ByteArray} {maxL : Nat} {ret : Option FieldType} {fr lo mu n idx FR LO : Nat} {sp : mm_S}
theorem mm_len1s {y : MethodName} {n : Nat} (hpar : (parseMethodDescriptor y.desc).map (fun d => d.parameters.length) = some n) : ∀ sig, parseMethodDescriptor y.desc = some sig → n = sig.parameters.length := by
  intro sig hsig
  rw [hsig] at hpar
  simp at hpar
  omega
theorem mm_semS (hM : mm_Jet l y b maxL ret fr lo mu sp) (hw : mm_JW y b maxL ret) (hl : Jvm.Cond.methodLink own idx y ∈ mm_T) (hst : Jvm.Cond.static y ∈ mm_T) (hpar : (parseMethodDescriptor y.desc).map (fun d => d.parameters.length) = some n) (hfr : fr + 1 ≤ FR) (hlo : 8 + (maxL + 11) + lo ≤ LO) : mm_sem l own FR LO idx (1, n, 0, sp, mu) := by
  intro p e R s m args below meth c Qm cc nL D E Ad A MU X hG hR hRf hRl pc ls st M d u Kn QX hd hn hrv hcat hu hsp kn H locs L hL hP hD hS
  have hS' : CallFix p m c cc nL s args mm_U own := ⟨X.1, X.2.1, X.2.2.1, X.2.2.2.1, X.2.2.2.2.1⟩
  have hMy := hM D E Ad H.size _ M d _ hsp
  have hws := pay_in X.2.2.2.2.1 (mm_goodIn hw.1 mm_T_U)
  have hA := X.2.2.2.2.2.2.1
  dsimp only at hu hn hcat
  have hroom : u + mu ≤ R.cells ∧ 12 * u + 12 * mu ≤ R.slots := ⟨by omega, by omega⟩
  have hcat' : 2 * (F0 m pc L (st.map (mm_cc Ad))).monitorRoom + (((st.drop n).map (mm_cc Ad)).map fun v => v.category).sum ≤ 8 := lv_room (by rw [mm_catsum]; exact hcat)
  have hstack : st.map (mm_cc Ad) = ((st.take n).reverse.map (mm_cc Ad)).reverse ++ (st.drop n).map (mm_cc Ad) := by
    rw [← List.map_reverse, List.reverse_reverse, ← List.map_append, List.take_append_drop]
  have hpre : PreS s H (va_Pc ((st.take n).reverse.map (mm_cc Ad)) (mm_B D E Ad H.size M d)) ((st.take n).reverse.map (mm_cc Ad)) := ⟨mm_blind, mm_preB hG hP hD hS hA⟩
  have cw : CallB R s args own idx y b maxL ret (.code y b maxL ret :: mm_T) (mm_rm fr lo mu) mu (12 * mu) n ∧ (Jvm.Cond.static y).before args s = true :=
    ⟨⟨rfl, rfl, by show fr + 1 ≤ _; omega, by show 8 + (maxL + 11) + lo ≤ _; omega, hws, List.mem_cons_self, X.2.2.2.2.1 _ (mm_T_U _ hw.1), X.2.2.2.2.1 _ (mm_T_U _ hw.2.1), hw.2.2, mm_len1s hpar, X.2.2.2.2.1 _ (mm_T_U _ hl)⟩, X.2.2.2.2.1 _ (mm_T_U _ hst)⟩
  exact mm_afterJ hL hD hS hA (va_runS hS' hMy cw hpre rfl (by simp; omega) hL.1 hstack hcat' hd hroom) (fun r M' d' hq => hq) kn
/-- the receiver: an object of class C, or the text that never changes -/
theorem mm_recvJ {p : Program} {s : State} {m : MethodId} {args : Array Value} {c : Code} {cc : ByteArray} {nL : Nat} {D : va_G} {E : mm_En} {Ad : Nat → Nat} {A : Nat → Prop} {H : Heap} {locs : List Loc} {st : List mm_V} {M : mm_M} {d : List Nat} {rc : Nat} {C : String} {T : u_T} {N : Nat}
    (X : mm_Cx p s m args c cc own nL mm_U D E A) (hG : mm_G A D E Ad s) (hP : va_P D mm_cl (mm_ws E Ad M d) H) (hS : va_S A s.heap H locs) (hrv : mm_rv st (n + 1) rc M d) (hrc : (rc = 6 ∧ C = RXS) ∨ (10 ≤ rc ∧ mm_cl[rc - 10]? = some (C, T, N))) :
    ∃ (o : Nat) (ini : List mm_V), o ≠ 0 ∧ st = ini ++ mm_R o :: st.drop (n + 1) ∧ st.take (n + 1) = ini ++ [mm_R o] ∧ ini.length + 1 = n + 1 ∧ ∃ cell : Cell, H[mm_ad Ad o]? = some cell ∧ cell.vm.isStatics = false ∧ s.vm.findClass C = some cell.cls := by
  rcases hrc with ⟨rfl, rfl⟩ | ⟨h10, hcl⟩
  · simp only [mm_rv] at hrv
    split at hrv
    · rename_i o ho
      obtain ⟨ini, hst, htk, hil⟩ := mm_split st (n + 1) (by omega) ho
      subst hrv
      exact ⟨28, ini, by decide, hst, htk, hil, va_Orecv hG.2.2.2.2.2.2.2.2.2.2.2.2.2.1 hS⟩
    · exact hrv.elim
  · obtain ⟨rc', rfl⟩ : ∃ k, rc = k + 1 := ⟨rc - 1, by omega⟩
    rw [mm_rv_old (by omega)] at hrv
    split at hrv
    · rename_i o ho
      obtain ⟨ini, hst, htk, hil⟩ := mm_split st (n + 1) (by omega) ho
      obtain ⟨q0, hq, hw⟩ := mm_idx (E := E) (Ad := Ad) (M := M) hrv.2
      rw [mm_el_obj hrv.1 h10] at hw
      exact ⟨o, ini, mm_is0 hrv, hst, htk, hil, va_recv X.2.2.2.2.2.1 hP hcl hw⟩
    · exact hrv.elim
/-- how an instance method is called: 0 virtual, 2 special -/
theorem mm_semV {C : String} {T : u_T} {N rc how : Nat} {x : MethodName} (hM : mm_Jet l y b maxL ret fr lo mu sp) (hw : mm_JW y b maxL ret) (hl : Jvm.Cond.methodLink own idx x ∈ mm_T) (hins : Jvm.Cond.instanceMethod y ∈ mm_T) (hrc : (rc = 6 ∧ C = RXS) ∨ (10 ≤ rc ∧ mm_cl[rc - 10]? = some (C, T, N)))
    (hpar : (parseMethodDescriptor x.desc).map (fun d => d.parameters.length) = some n) (hfr : fr + 1 ≤ FR) (hlo : 8 + (maxL + 11) + lo ≤ LO)
    (hk : (how = 0 ∧ x = y ∧ ∀ (args : Array Value) (s : State), (∀ w ∈ mm_U, w.before args s = true) → (Jvm.Cond.selects C y y).before args s = true) ∨
      (how = 0 ∧ ∃ bx mx rx, Jvm.Cond.selects C x y ∈ mm_T ∧ Jvm.Cond.sameMethod x.cls x.cls x.name x.desc ∈ mm_T ∧ Jvm.Cond.instanceMethod x ∈ mm_T ∧ Jvm.Cond.code x bx mx rx ∈ mm_T ∧ (x.cls ≠ "java/lang/invoke/MethodHandle" ∧ x.cls ≠ "java/lang/invoke/VarHandle")) ∨
      (how = 2 ∧ x = y ∧ ret = none ∧ y.name = "<init>") ∨
      (how = 2 ∧ x = y ∧ y.name ≠ "<init>" ∧ Jvm.Cond.sameMethod y.cls y.cls y.name y.desc ∈ mm_T ∧ Jvm.Cond.superclass own y.cls ∈ mm_T ∧ ∃ NN, Jvm.Cond.instantiable C NN ∈ mm_T)) : mm_sem l own FR LO idx (how, n + 1, rc, sp, mu) := by
  intro p e R s m args below meth c Qm cc nL D E Ad A MU X hG hR hRf hRl pc ls st M d u Kn QX hd hn hrv hcat hu hsp kn H locs L hL hP hD hS
  have hS' : CallFix p m c cc nL s args mm_U own := ⟨X.1, X.2.1, X.2.2.1, X.2.2.2.1, X.2.2.2.2.1⟩
  have hMy := hM D E Ad H.size _ M d _ hsp
  have hws := pay_in X.2.2.2.2.1 (mm_goodIn hw.1 mm_T_U)
  have hA := X.2.2.2.2.2.2.1
  dsimp only at hu hn hcat hrv hd
  have ww : ∀ w ∈ mm_T, w.before args s = true := fun w h => X.2.2.2.2.1 _ (mm_T_U _ h)
  have hroom : u + mu ≤ R.cells ∧ 12 * u + 12 * mu ≤ R.slots := ⟨by omega, by omega⟩
  have hcat' : 2 * (F0 m pc L (st.map (mm_cc Ad))).monitorRoom + (((st.drop (n + 1)).map (mm_cc Ad)).map fun v => v.category).sum ≤ 8 := lv_room (by rw [mm_catsum]; exact hcat)
  obtain ⟨o, ini, hne, hst, htk, hil, hcell⟩ := mm_recvJ X hG hP hS hrv hrc
  have hargs : (st.take (n + 1)).reverse = mm_R o :: ini.reverse := by rw [htk]; simp
  dsimp only at hMy
  rw [hargs, List.map_cons, mm_ref hne] at hMy
  have hstack : st.map (mm_cc Ad) = ((ini.reverse).map (mm_cc Ad)).reverse ++ .ref (mm_ad Ad o) :: (st.drop (n + 1)).map (mm_cc Ad) := by
    conv => lhs; rw [hst]
    rw [List.map_append, List.map_cons, mm_ref hne, List.map_reverse, List.reverse_reverse]
  have hpre : PreV s H C (mm_ad Ad o) (va_Pc (.ref (mm_ad Ad o) :: (ini.reverse).map (mm_cc Ad)) (mm_B D E Ad H.size M d)) ((ini.reverse).map (mm_cc Ad)) := ⟨mm_blind, hcell, mm_preB hG hP hD hS hA⟩
  have hB : (mm_rm fr lo mu).cells = mu ∧ (mm_rm fr lo mu).slots = 12 * mu ∧ (mm_rm fr lo mu).frames + 1 ≤ R.frames ∧ 8 + (maxL + 11) + (mm_rm fr lo mu).locals ≤ R.locals := ⟨rfl, rfl, by show fr + 1 ≤ _; omega, by show 8 + (maxL + 11) + lo ≤ _; omega⟩
  rcases hk with ⟨rfl, rfl, hsel⟩ | ⟨rfl, bx, mx, rx, hsel, hsame, hix, hcx, hnx⟩ | ⟨rfl, rfl, rfl, hnm⟩ | ⟨rfl, rfl, hnm, hsame, hsup, NN, hinst⟩
  · have cw : CallW R s args own C idx x b maxL ret (.code x b maxL ret :: mm_T) (mm_rm fr lo mu) mu (12 * mu) n :=
      ⟨⟨rfl, rfl, hB.2.2.1, hB.2.2.2, hws, List.mem_cons_self, ww _ hw.1, ww _ hw.2.1, hw.2.2, mm_len1s hpar, ww _ hl⟩, ww _ hins, hsel args s X.2.2.2.2.1⟩
    exact mm_afterJ hL hD hS hA (va_runV hS' hMy cw hpre rfl (by simp; omega) hL.1 hstack hcat' hd hroom) (fun r M' d' hq => hq) kn
  · have cw : va_CU R s args own C x.cls idx x y b maxL ret (.code y b maxL ret :: mm_T) (mm_rm fr lo mu) mu (12 * mu) n :=
      ⟨⟨rfl, rfl, hB.2.2.1, hB.2.2.2, hws, List.mem_cons_self⟩, ww _ hw.1, ww _ hw.2.1, hnx, mm_len1s hpar, ww _ hl, ww _ hsame, va_Decl.of (ww _ hix) (ww _ hcx), ww _ hsel, ww _ hins⟩
    exact mm_afterJ hL hD hS hA (va_runU hS' hMy cw hpre rfl (by simp; omega) hL.1 hstack hcat' hd hroom) (fun r M' d' hq => hq) kn
  · have cw : CallB R s args own idx x b maxL none (.code x b maxL none :: mm_T) (mm_rm fr lo mu) mu (12 * mu) n ∧ x.name = "<init>" ∧ (Jvm.Cond.instanceMethod x).before args s = true :=
      ⟨⟨rfl, rfl, hB.2.2.1, hB.2.2.2, hws, List.mem_cons_self, ww _ hw.1, ww _ hw.2.1, hw.2.2, mm_len1s hpar, ww _ hl⟩, hnm, ww _ hins⟩
    exact mm_afterJ hL hD hS hA (va_runI hS' hMy cw ⟨hpre.1, hpre.2.2⟩ rfl (by simp; omega) hL.1 hstack hcat' hd hroom) (fun r M' d' hq => hq) kn
  · have cw : va_CS R s args own idx x b maxL ret (.code x b maxL ret :: mm_T) (mm_rm fr lo mu) mu (12 * mu) n :=
      ⟨⟨rfl, rfl, hB.2.2.1, hB.2.2.2, hws, List.mem_cons_self⟩, ww _ hl, ww _ hsame, ww _ hsup, ww _ hins, ww _ hw.2.1, ww _ hw.1, hnm, mm_len1s hpar⟩
    obtain ⟨cC, hat⟩ := classAt_of (ww _ hinst)
    exact mm_afterJ hL hD hS hA (va_runSU hat hS' hMy cw hpre rfl (by simp; omega) hL.1 hstack hcat' hd hroom) (fun r M' d' hq => hq) kn
end MS
/-- a private method is chosen whatever the receiver's class -/
theorem mm_selP {C C9 : String} {y z : MethodName} {n : Nat} {args : Array Value} {s : State} (hz : (Jvm.Cond.selects C9 z z).before args s = true ∧ z.cls = y.cls) (hy : y.cls ≠ "java/lang/invoke/MethodHandle" ∧ y.cls ≠ "java/lang/invoke/VarHandle") (hins : (Jvm.Cond.instantiable C n).before args s = true) (hpriv : (Jvm.Cond.privateMethod y).before args s = true) (hinst : (Jvm.Cond.instanceMethod y).before args s = true) :
    (Jvm.Cond.selects C y y).before args s = true := by
  obtain ⟨c, k, hc, hk, -, hniab, -, -⟩ := Cond.instantiable_spec hins
  have hni : k.isInterface = false := (Bool.or_eq_false_iff.mp hniab).1
  obtain ⟨mk, methM, hnamed, hmethM, -, -⟩ := Cond.instanceMethod_spec hinst
  have hfound : s.methodFound? y.cls y.name y.desc = some mk := State.methodFound?_of_named hnamed hy
  obtain ⟨kM, hkM, hkN⟩ := className_of_methodNamed hnamed
  have hsel : selectMethod {} s.vm c mk = .method mk := selectMethod_private hmethM (Cond.privateMethod_at hpriv mk methM hnamed hmethM)
  simp only [Cond.before, Cond.holds, Cond.value, hc, hfound, hnamed, hsel, hk]
  obtain ⟨c2, r2, m2, q1, q2, q3, q4, kP, hkP, hkPi⟩ := Cond.selects_spec hz.1
  have e1 := findClass_of_methodNamed q3
  rw [hz.2, findClass_of_methodNamed hnamed] at e1
  rw [← Option.some.inj e1] at hkP
  cases hkM.symm.trans hkP
  simp [hkM, hkPi]
end
section
/-! the instruction lists are checked fast: an instruction's bytes, looked for where the code goes on -/
def mm_n16 (o : Int) : Nat := if 0 ≤ o then o.toNat else (o + 65536).toNat
def mm_n8 (o : Int) : Nat := if 0 ≤ o then o.toNat else (o + 256).toNat
def mm_b3 (x : Nat) (o : Int) : List Nat := bif decide (-32768 ≤ o ∧ o < 32768) then [x, mm_n16 o / 256, mm_n16 o % 256] else []
def mm_b2 (x : List Nat) (o : Int) : List Nat := bif decide (-128 ≤ o ∧ o < 128) then x ++ [mm_n8 o] else []
def mm_cn (c : Jvm.ClassFile.Cond) : Nat := match c with
  | .eq => 0
  | .ne => 1
  | .lt => 2
  | .ge => 3
  | .gt => 4
  | .le => 5
def mm_enc : Instr → List Nat
  | .aload_n n => [42 + n.val]
  | .iload_n n => [26 + n.val]
  | .lload_n n => [30 + n.val]
  | .istore_n n => [59 + n.val]
  | .lstore_n n => [63 + n.val]
  | .astore_n n => [75 + n.val]
  | .iconst v => bif decide (-1 ≤ v ∧ v ≤ 5) then [(v + 3).toNat] else []
  | .iload k => [21, k]
  | .aload k => [25, k]
  | .lload k => [22, k]
  | .istore k => [54, k]
  | .astore k => [58, k]
  | .lstore k => [55, k]
  | .invokevirtual k => [182, k / 256, k % 256]
  | .getfield k => [180, k / 256, k % 256]
  | .putfield k => [181, k / 256, k % 256]
  | .invokestatic k => [184, k / 256, k % 256]
  | .ireturn => [172]
  | .iaload => [46]
  | .iadd => [96]
  | .i2l => [133]
  | .return_ => [177]
  | .iastore => [79]
  | .isub => [100]
  | .pop => [87]
  | .dup => [89]
  | .imul => [104]
  | .irem => [112]
  | .ishr => [122]
  | .ishl => [120]
  | .idiv => [108]
  | .areturn => [176]
  | .arraylength => [190]
  | .iand => [126]
  | .ior => [128]
  | .lreturn => [173]
  | .ixor => [130]
  | .dup2 => [92]
  | .athrow => [191]
  | .aaload => [50]
  | .lmul => [105]
  | .ladd => [97]
  | .aconst_null => [1]
  | .lcmp => [148]
  | .goto o => mm_b3 167 o
  | .ifCond c o => mm_b3 (153 + mm_cn c) o
  | .if_icmp c o => mm_b3 (159 + mm_cn c) o
  | .bipush o => mm_b2 [16] o
  | .iinc k o => mm_b2 [132, k] o
  | _ => []
def mm_eat : List Nat → List UInt8 → Option (List UInt8)
  | [], l => some l
  | _ :: _, [] => none
  | x :: xs, y :: l => bif y.toNat == x then mm_eat xs l else none
def mm_fast (b : ByteArray) : List mm_E → Nat → List UInt8 → Bool
  | [], _, _ => true
  | (pc, i, t) :: r, p, l => (pc == p) && (mm_tg pc i t && (mm_nx (pc + mm_len i) r && (match mm_enc i with
    | [] => decide (decode b pc = .ok (i, mm_len i)) && mm_fast b r (pc + mm_len i) (l.drop (mm_len i))
    | x :: xs => (xs.length + 1 == mm_len i) && (match mm_eat (x :: xs) l with
      | some l' => mm_fast b r (pc + mm_len i) l'
      | none => false))))
def mm_by (b : ByteArray) (p x : Nat) : Prop := ∃ y, b.data.toList[p]? = some y ∧ y.toNat = x
section FST
variable {b : ByteArray} {p pc x y n : Nat} {i : Instr}
theorem mm_u1 (h : mm_by b p x) : (Jvm.ClassFile.Reader.u1 : Jvm.ClassFile.Reader Jvm.ClassFile.DecodeError Nat) b p = .ok (x, p + 1) := by
  obtain ⟨y, h1, h2⟩ := h
  obtain ⟨h3, h4⟩ := List.getElem?_eq_some_iff.mp h1
  have hp : p < b.size := by simpa using h3
  have e : b[p] = y := h4
  show (dite (p < b.size) (fun h => (do set (p + 1); pure b[p].toNat : Jvm.ClassFile.Reader Jvm.ClassFile.DecodeError Nat)) (fun _ => throw (Jvm.ClassFile.HasTruncated.truncated p))) b p = _
  rw [dif_pos hp]
  show Except.ok (b[p].toNat, p + 1) = _
  rw [e, h2]
theorem mm_bd {α β : Type} {r : Jvm.ClassFile.Reader Jvm.ClassFile.DecodeError α} {f : α → Jvm.ClassFile.Reader Jvm.ClassFile.DecodeError β} {a : α} {p' : Nat} (h : r b p = .ok (a, p')) : (r >>= f) b p = f a b p' := by
  show (r b p >>= fun q => f q.1 b q.2 : Except Jvm.ClassFile.DecodeError (β × Nat)) = _
  rw [h]
  rfl
theorem mm_u2 (h : mm_by b p x) (h2 : mm_by b (p + 1) y) : (Jvm.ClassFile.Reader.u2 : Jvm.ClassFile.Reader Jvm.ClassFile.DecodeError Nat) b p = .ok (x * 256 + y, p + 2) := by
  show (Jvm.ClassFile.Reader.u1 >>= fun hi => Jvm.ClassFile.Reader.u1 >>= fun lo => pure (hi * 256 + lo) : Jvm.ClassFile.Reader Jvm.ClassFile.DecodeError Nat) b p = _
  rw [mm_bd (mm_u1 h), mm_bd (mm_u1 h2)]
  rfl
theorem mm_mp {α β : Type} {g : α → β} {r : Jvm.ClassFile.Reader Jvm.ClassFile.DecodeError α} {a : α} {p' : Nat} (h : r b p = .ok (a, p')) : (g <$> r : Jvm.ClassFile.Reader Jvm.ClassFile.DecodeError β) b p = .ok (g a, p') := by
  show (r b p >>= fun q => .ok (g q.1, q.2) : Except Jvm.ClassFile.DecodeError (β × Nat)) = _
  rw [h]
  rfl
theorem mm_s1r (h : mm_by b p x) : (Jvm.ClassFile.Reader.s1 : Jvm.ClassFile.Reader Jvm.ClassFile.DecodeError Int) b p = .ok (Jvm.ClassFile.Reader.signed 8 x, p + 1) := mm_mp (mm_u1 h)
theorem mm_s2r (h : mm_by b p x) (h2 : mm_by b (p + 1) y) : (Jvm.ClassFile.Reader.s2 : Jvm.ClassFile.Reader Jvm.ClassFile.DecodeError Int) b p = .ok (Jvm.ClassFile.Reader.signed 16 (x * 256 + y), p + 2) := mm_mp (mm_u2 h h2)
theorem mm_dc {f : Nat → Jvm.ClassFile.Reader Jvm.ClassFile.DecodeError Instr} (hf : Jvm.ClassFile.Decoder.instr pc = Jvm.ClassFile.Reader.u1 >>= f) (h : mm_by b pc x) (hi : f x b (pc + 1) = .ok (i, pc + n)) : decode b pc = .ok (i, n) := by
  show (Jvm.ClassFile.Decoder.instr pc b pc >>= fun q => pure (q.1, q.2 - pc) : Except Jvm.ClassFile.DecodeError (Instr × Nat)) = _
  rw [hf, mm_bd (mm_u1 h), hi]
  show Except.ok (i, pc + n - pc) = _
  rw [Nat.add_sub_cancel_left]
theorem mm_sg16 {o : Int} (h : -32768 ≤ o ∧ o < 32768) : Jvm.ClassFile.Reader.signed 16 (mm_n16 o / 256 * 256 + mm_n16 o % 256) = o := by
  rw [show mm_n16 o / 256 * 256 + mm_n16 o % 256 = mm_n16 o by omega]
  unfold Jvm.ClassFile.Reader.signed mm_n16
  rw [show (2 : Nat) ^ (16 - 1) = 32768 from rfl, show ((2 ^ 16 : Nat) : Int) = 65536 from rfl]
  by_cases h0 : 0 ≤ o
  · rw [if_pos h0, if_pos (by omega)]
    omega
  · rw [if_neg h0, if_neg (by omega)]
    omega
theorem mm_sg8 {o : Int} (h : -128 ≤ o ∧ o < 128) : Jvm.ClassFile.Reader.signed 8 (mm_n8 o) = o := by
  unfold Jvm.ClassFile.Reader.signed mm_n8
  rw [show (2 : Nat) ^ (8 - 1) = 128 from rfl, show ((2 ^ 8 : Nat) : Int) = 256 from rfl]
  by_cases h0 : 0 ≤ o
  · rw [if_pos h0, if_pos (by omega)]
    omega
  · rw [if_neg h0, if_neg (by omega)]
    omega
theorem mm_b3_ne {x : Nat} {o : Int} (h : mm_b3 x o ≠ []) : (-32768 ≤ o ∧ o < 32768) ∧ mm_b3 x o = [x, mm_n16 o / 256, mm_n16 o % 256] := by
  by_cases c : -32768 ≤ o ∧ o < 32768
  · refine ⟨c, ?_⟩
    unfold mm_b3
    rw [decide_eq_true c]
    rfl
  · refine absurd ?_ h
    unfold mm_b3
    rw [decide_eq_false c]
    rfl
theorem mm_b2_ne {x : List Nat} {o : Int} (h : mm_b2 x o ≠ []) : (-128 ≤ o ∧ o < 128) ∧ mm_b2 x o = x ++ [mm_n8 o] := by
  by_cases c : -128 ≤ o ∧ o < 128
  · refine ⟨c, ?_⟩
    unfold mm_b2
    rw [decide_eq_true c]
    rfl
  · refine absurd ?_ h
    unfold mm_b2
    rw [decide_eq_false c]
    rfl
/-- the bytes lie there -/
def mm_at0 (b : ByteArray) (p : Nat) (l : List Nat) : Prop := ∀ k x, l[k]? = some x → mm_by b (p + k) x
theorem mm_at3 {x : Nat} {o : Int} (hn : mm_b3 x o ≠ []) (h : mm_at0 b pc (mm_b3 x o)) {f : Nat → Jvm.ClassFile.Reader Jvm.ClassFile.DecodeError Instr} (g : Int → Instr) (hf : Jvm.ClassFile.Decoder.instr pc = Jvm.ClassFile.Reader.u1 >>= f) (hx : f x = (Jvm.ClassFile.Reader.s2 >>= fun a => pure (g a))) : decode b pc = .ok (g o, 3) := by
  obtain ⟨hr, e⟩ := mm_b3_ne hn
  rw [e] at h
  refine mm_dc hf (h 0 _ rfl) ?_
  rw [hx, mm_bd (mm_s2r (h 1 _ rfl) (h 2 _ rfl))]
  rw [mm_sg16 hr]
  rfl
theorem mm_atU {x k : Nat} (h : mm_at0 b pc [x, k / 256, k % 256]) {f : Nat → Jvm.ClassFile.Reader Jvm.ClassFile.DecodeError Instr} (g : Nat → Instr) (hf : Jvm.ClassFile.Decoder.instr pc = Jvm.ClassFile.Reader.u1 >>= f) (hx : f x = (Jvm.ClassFile.Reader.u2 >>= fun a => pure (g a))) : decode b pc = .ok (g k, 3) := by
  refine mm_dc hf (h 0 _ rfl) ?_
  rw [hx, mm_bd (mm_u2 (h 1 _ rfl) (h 2 _ rfl))]
  rw [show k / 256 * 256 + k % 256 = k by omega]
  rfl
theorem mm_atV {x k : Nat} (h : mm_at0 b pc [x, k]) {f : Nat → Jvm.ClassFile.Reader Jvm.ClassFile.DecodeError Instr} (g : Nat → Instr) (hf : Jvm.ClassFile.Decoder.instr pc = Jvm.ClassFile.Reader.u1 >>= f) (hx : f x = (Jvm.ClassFile.Reader.u1 >>= fun a => pure (g a))) : decode b pc = .ok (g k, 2) := by
  refine mm_dc hf (h 0 _ rfl) ?_
  rw [hx, mm_bd (mm_u1 (h 1 _ rfl))]
  rfl
theorem mm_at1 {x : Nat} (h : mm_at0 b pc [x]) {f : Nat → Jvm.ClassFile.Reader Jvm.ClassFile.DecodeError Instr} (hf : Jvm.ClassFile.Decoder.instr pc = Jvm.ClassFile.Reader.u1 >>= f) (hx : f x = Pure.pure i) : decode b pc = .ok (i, 1) := by
  refine mm_dc hf (h 0 _ rfl) ?_
  rw [hx]
  rfl
theorem mm_enc_ok (hn : mm_enc i ≠ []) (h : mm_at0 b pc (mm_enc i)) : decode b pc = .ok (i, mm_len i) := by
  cases i
  case aload_n n =>
    have h4 : n = 0 ∨ n = 1 ∨ n = 2 ∨ n = 3 := by omega
    rcases h4 with rfl | rfl | rfl | rfl
    · exact mm_at1 (x := 42) h rfl rfl
    · exact mm_at1 (x := 43) h rfl rfl
    · exact mm_at1 (x := 44) h rfl rfl
    · exact mm_at1 (x := 45) h rfl rfl
  case iload_n n =>
    have h4 : n = 0 ∨ n = 1 ∨ n = 2 ∨ n = 3 := by omega
    rcases h4 with rfl | rfl | rfl | rfl
    · exact mm_at1 (x := 26) h rfl rfl
    · exact mm_at1 (x := 27) h rfl rfl
    · exact mm_at1 (x := 28) h rfl rfl
    · exact mm_at1 (x := 29) h rfl rfl
  case lload_n n =>
    have h4 : n = 0 ∨ n = 1 ∨ n = 2 ∨ n = 3 := by omega
    rcases h4 with rfl | rfl | rfl | rfl
    · exact mm_at1 (x := 30) h rfl rfl
    · exact mm_at1 (x := 31) h rfl rfl
    · exact mm_at1 (x := 32) h rfl rfl
    · exact mm_at1 (x := 33) h rfl rfl
  case istore_n n =>
    have h4 : n = 0 ∨ n = 1 ∨ n = 2 ∨ n = 3 := by omega
    rcases h4 with rfl | rfl | rfl | rfl
    · exact mm_at1 (x := 59) h rfl rfl
    · exact mm_at1 (x := 60) h rfl rfl
    · exact mm_at1 (x := 61) h rfl rfl
    · exact mm_at1 (x := 62) h rfl rfl
  case lstore_n n =>
    have h4 : n = 0 ∨ n = 1 ∨ n = 2 ∨ n = 3 := by omega
    rcases h4 with rfl | rfl | rfl | rfl
    · exact mm_at1 (x := 63) h rfl rfl
    · exact mm_at1 (x := 64) h rfl rfl
    · exact mm_at1 (x := 65) h rfl rfl
    · exact mm_at1 (x := 66) h rfl rfl
  case astore_n n =>
    have h4 : n = 0 ∨ n = 1 ∨ n = 2 ∨ n = 3 := by omega
    rcases h4 with rfl | rfl | rfl | rfl
    · exact mm_at1 (x := 75) h rfl rfl
    · exact mm_at1 (x := 76) h rfl rfl
    · exact mm_at1 (x := 77) h rfl rfl
    · exact mm_at1 (x := 78) h rfl rfl
  case iconst v =>
    have hr : -1 ≤ v ∧ v ≤ 5 := Classical.byContradiction fun c => hn (by
      show (bif decide (-1 ≤ v ∧ v ≤ 5) then [(v + 3).toNat] else []) = []
      rw [decide_eq_false c]
      rfl)
    have h7 : v = -1 ∨ v = 0 ∨ v = 1 ∨ v = 2 ∨ v = 3 ∨ v = 4 ∨ v = 5 := by omega
    rcases h7 with rfl | rfl | rfl | rfl | rfl | rfl | rfl
    · exact mm_at1 (x := 2) h rfl rfl
    · exact mm_at1 (x := 3) h rfl rfl
    · exact mm_at1 (x := 4) h rfl rfl
    · exact mm_at1 (x := 5) h rfl rfl
    · exact mm_at1 (x := 6) h rfl rfl
    · exact mm_at1 (x := 7) h rfl rfl
    · exact mm_at1 (x := 8) h rfl rfl
  case iload k => exact mm_atV (x := 21) h .iload rfl rfl
  case aload k => exact mm_atV (x := 25) h .aload rfl rfl
  case lload k => exact mm_atV (x := 22) h .lload rfl rfl
  case istore k => exact mm_atV (x := 54) h .istore rfl rfl
  case astore k => exact mm_atV (x := 58) h .astore rfl rfl
  case lstore k => exact mm_atV (x := 55) h .lstore rfl rfl
  case invokevirtual k => exact mm_atU (x := 182) h .invokevirtual rfl rfl
  case getfield k => exact mm_atU (x := 180) h .getfield rfl rfl
  case putfield k => exact mm_atU (x := 181) h .putfield rfl rfl
  case invokestatic k => exact mm_atU (x := 184) h .invokestatic rfl rfl
  case ireturn => exact mm_at1 (x := 172) h rfl rfl
  case iaload => exact mm_at1 (x := 46) h rfl rfl
  case iadd => exact mm_at1 (x := 96) h rfl rfl
  case i2l => exact mm_at1 (x := 133) h rfl rfl
  case return_ => exact mm_at1 (x := 177) h rfl rfl
  case iastore => exact mm_at1 (x := 79) h rfl rfl
  case isub => exact mm_at1 (x := 100) h rfl rfl
  case pop => exact mm_at1 (x := 87) h rfl rfl
  case dup => exact mm_at1 (x := 89) h rfl rfl
  case imul => exact mm_at1 (x := 104) h rfl rfl
  case irem => exact mm_at1 (x := 112) h rfl rfl
  case ishr => exact mm_at1 (x := 122) h rfl rfl
  case ishl => exact mm_at1 (x := 120) h rfl rfl
  case idiv => exact mm_at1 (x := 108) h rfl rfl
  case areturn => exact mm_at1 (x := 176) h rfl rfl
  case arraylength => exact mm_at1 (x := 190) h rfl rfl
  case iand => exact mm_at1 (x := 126) h rfl rfl
  case ior => exact mm_at1 (x := 128) h rfl rfl
  case lreturn => exact mm_at1 (x := 173) h rfl rfl
  case ixor => exact mm_at1 (x := 130) h rfl rfl
  case dup2 => exact mm_at1 (x := 92) h rfl rfl
  case athrow => exact mm_at1 (x := 191) h rfl rfl
  case aaload => exact mm_at1 (x := 50) h rfl rfl
  case lmul => exact mm_at1 (x := 105) h rfl rfl
  case ladd => exact mm_at1 (x := 97) h rfl rfl
  case aconst_null => exact mm_at1 (x := 1) h rfl rfl
  case lcmp => exact mm_at1 (x := 148) h rfl rfl
  case goto o => exact mm_at3 (x := 167) hn h .goto rfl rfl
  case ifCond c o =>
    cases c
    · exact mm_at3 (x := 153) hn h (.ifCond _) rfl rfl
    · exact mm_at3 (x := 154) hn h (.ifCond _) rfl rfl
    · exact mm_at3 (x := 155) hn h (.ifCond _) rfl rfl
    · exact mm_at3 (x := 156) hn h (.ifCond _) rfl rfl
    · exact mm_at3 (x := 157) hn h (.ifCond _) rfl rfl
    · exact mm_at3 (x := 158) hn h (.ifCond _) rfl rfl
  case if_icmp c o =>
    cases c
    · exact mm_at3 (x := 159) hn h (.if_icmp _) rfl rfl
    · exact mm_at3 (x := 160) hn h (.if_icmp _) rfl rfl
    · exact mm_at3 (x := 161) hn h (.if_icmp _) rfl rfl
    · exact mm_at3 (x := 162) hn h (.if_icmp _) rfl rfl
    · exact mm_at3 (x := 163) hn h (.if_icmp _) rfl rfl
    · exact mm_at3 (x := 164) hn h (.if_icmp _) rfl rfl
  case bipush o =>
    obtain ⟨hr, e⟩ := mm_b2_ne (x := [16]) hn
    have h : mm_at0 b pc (mm_b2 [16] o) := h
    rw [e] at h
    refine mm_dc (x := 16) rfl (h 0 _ rfl) ?_
    show (Jvm.ClassFile.Reader.s1 >>= fun a => pure (Instr.bipush a) : Jvm.ClassFile.Reader Jvm.ClassFile.DecodeError Instr) b (pc + 1) = _
    rw [mm_bd (mm_s1r (h 1 _ rfl)), mm_sg8 hr]
    rfl
  case iinc k o =>
    obtain ⟨hr, e⟩ := mm_b2_ne (x := [132, k]) hn
    have h : mm_at0 b pc (mm_b2 [132, k] o) := h
    rw [e] at h
    refine mm_dc (x := 132) rfl (h 0 _ rfl) ?_
    show (Jvm.ClassFile.Reader.u1 >>= fun a => Jvm.ClassFile.Reader.s1 >>= fun c => pure (Instr.iinc a c) : Jvm.ClassFile.Reader Jvm.ClassFile.DecodeError Instr) b (pc + 1) = _
    rw [mm_bd (mm_u1 (h 1 _ rfl)), mm_bd (mm_s1r (show mm_by b (pc + 1 + 1) _ from h 2 _ rfl)), mm_sg8 hr]
    rfl
  all_goals exact absurd rfl hn
theorem mm_eat_ok : ∀ (xs : List Nat) (l l' : List UInt8) (p : Nat), l = b.data.toList.drop p → mm_eat xs l = some l' → mm_at0 b p xs ∧ l' = b.data.toList.drop (p + xs.length)
  | [], l, l', p, hl, h => by
    simp only [mm_eat, Option.some.injEq] at h
    exact ⟨fun k x hx => by simp at hx, by rw [← h]; exact hl⟩
  | _ :: _, [], l', p, hl, h => by simp [mm_eat] at h
  | x :: xs, y :: l, l', p, hl, h => by
    simp only [mm_eat] at h
    cases e : y.toNat == x
    · rw [e] at h
      simp at h
    · rw [e] at h
      simp only [cond_true] at h
      have h1 : b.data.toList[p]? = some y := by
        have h5 : (b.data.toList.drop p)[0]? = some y := by rw [← hl]; rfl
        rw [List.getElem?_drop] at h5
        exact h5
      have h2 : l = b.data.toList.drop (p + 1) := by
        have h5 : (b.data.toList.drop p).tail = l := by rw [← hl]; rfl
        rw [← h5, List.tail_drop]
      obtain ⟨a1, a2⟩ := mm_eat_ok xs l l' (p + 1) h2 h
      refine ⟨fun k z hz => ?_, by rw [a2, List.length_cons]; congr 1; omega⟩
      cases k with
      | zero =>
        have hz : some x = some z := hz
        exact ⟨y, h1, (eq_of_beq e).trans (Option.some.inj hz)⟩
      | succ k =>
        have h6 := a1 k z hz
        rw [show p + (k + 1) = p + 1 + k by omega]
        exact h6
end FST
theorem mm_fast_ok {b : ByteArray} : ∀ (cd : List mm_E) (p : Nat) (l : List UInt8), l = b.data.toList.drop p → mm_fast b cd p l = true → mm_chk b cd = true
  | [], _, _, _, _ => rfl
  | (pc, i, t) :: r, p, l, hl, h => by
    simp only [mm_fast, Bool.and_eq_true] at h
    obtain ⟨h1, h2, h3, h4⟩ := h
    have h1 := eq_of_beq h1
    subst h1
    have key : decode b pc = .ok (i, mm_len i) ∧ mm_chk b r = true := by
      cases e : mm_enc i with
      | nil =>
        rw [e] at h4
        simp only [Bool.and_eq_true, decide_eq_true_eq] at h4
        exact ⟨h4.1, mm_fast_ok r _ _ (by rw [hl, List.drop_drop]) h4.2⟩
      | cons x xs =>
        rw [e] at h4
        simp only [Bool.and_eq_true] at h4
        obtain ⟨h5, h6⟩ := h4
        have h5 := eq_of_beq h5
        cases e2 : mm_eat (x :: xs) l with
        | none =>
          rw [e2] at h6
          simp at h6
        | some l' =>
          rw [e2] at h6
          obtain ⟨a1, a2⟩ := mm_eat_ok (x :: xs) l l' pc hl e2
          refine ⟨mm_enc_ok (by rw [e]; exact List.cons_ne_nil _ _) (by rw [e]; exact a1), mm_fast_ok r _ _ ?_ h6⟩
          rw [a2, List.length_cons, h5]
    simp only [mm_chk, Bool.and_eq_true, decide_eq_true_eq]
    exact ⟨key.1, h2, h3, key.2⟩
theorem mm_fck {b : ByteArray} {cd : List mm_E} (p : Nat) (h : mm_fast b cd p (b.data.toList.drop p) = true) : mm_chk b cd = true := mm_fast_ok cd p _ rfl h
end
