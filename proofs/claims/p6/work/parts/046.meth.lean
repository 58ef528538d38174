/-! throws, returns, a method's contract -/
def mm_nms : List String := ["java/lang/RuntimeException", "java/lang/Exception"]
/-- the words of a throw -/
def mm_XE (own : String) (Ts : List Jvm.Cond) (idx is ic k : Nat) : Prop :=
  own = RX3 ∧ (∃ tx, (is, tx) ∈ mm_strs) ∧ Jvm.Cond.classLink own idx (mm_xn k) ∈ Ts ∧ Jvm.Cond.initialized (mm_xn k) ∈ Ts ∧ (∀ w ∈ vx_atS own ic (mm_xn k) mm_nms, w ∈ Ts) ∧ (∀ w ∈ Jvm.Cond.classLink own idx (mm_xn k) :: Jvm.Cond.initialized (mm_xn k) :: vx_atS own ic (mm_xn k) mm_nms, vx_ot w = true) ∧ Bundle.fit (mm_xn k) = true
def mm_rtOK (rt : Nat) (ret : Option FieldType) : Bool := match rt, ret with
  | 0, none => true
  | 1, some .int => true
  | 2, some .boolean => true
  | 3, some .long => true
  | 4, some (.object _) => true
  | 5, some .byte => true
  | 20, none => true
  | 21, some .int => true
  | 24, some (.object _) => true
  | 24, some (.array _) => true
  | _, _ => false
section MD
variable {p : Program} {l : Launch} {e : Env} {R : Room} {s : State} {m : MethodId} {args : Array Value} {below : List Frame} {meth : Method} {c : Code}
variable {cc : ByteArray} {own : String} {nL : Nat} {Ts : List Jvm.Cond} {D : va_G} {E : mm_En} {Ad : Nat → Nat} {A : Nat → Prop}
variable {X0 : Nat → Nat → Nat → Option Nat} {rt mu : Nat} {hn : Nat → Nat → Option Nat} {Qr : mm_Q}
theorem mm_F {t : State} {H : Heap} {locs : List Loc} (hS : va_S A s.heap H locs) (h1 : H.size ≤ t.heap.size) (h2 : ∀ q : Nat, q < H.size → t.heap[q]? = H[q]?) : va_F A s t :=
  ⟨Nat.le_trans hS.1 h1, fun q a b => (h2 q (Nat.lt_of_lt_of_le a hS.1)).trans (hS.2.1 q a b)⟩
theorem mz_thr (hl : l.stackTraces = false) (X : mm_Cx p s m args c cc own nL Ts D E A) (hG : mm_G A D E Ad s) (hR : R.cells = mu ∧ R.slots = 12 * mu) (hRf : 5 < R.frames) (hRl : 82 ≤ R.locals) (htab : ∀ x ∈ c.exceptionTable.toList, False) (hlocks : meth.locks = false)
    (hXE : ∀ idx is ic k, X0 idx is ic = some k → mm_XE own Ts idx is ic k) (hn0 : ∀ pc k, hn pc k = none)
    (idx pc : Nat) (rest : List mm_E) (ls : mm_Ls) (st : List mm_V) (M : mm_M) (d : List Nat) (u : Nat) (hd : decode cc pc = .ok (.new idx, 3)) (hnx : mm_nx (pc + 3) rest = true) (hk : mm_chk cc rest = true) (h : mm_thr X0 mu hn Qr idx pc rest st M d u) :
    mm_Z p l e R s m args below meth c (vx_MQ below (mm_Qc D E Ad A Qr) (mm_XC D E Ad A Qr) args s mu (12 * mu) A) nL D E Ad A pc ls st M d u := by
  unfold mm_thr at h
  split at h
  · rename_i q1 t1 q2 is t2 q3 ic t3 q4 t4 r'
    split at h
    · rename_i k hx
      obtain ⟨rfl, hu, hq⟩ := h
      obtain ⟨rfl, ⟨tx, htx⟩, hcl, hini, hat, hot, hfit⟩ := hXE _ _ _ _ hx
      obtain ⟨d3, -, n4, k4⟩ := mm_chk_cons hk
      obtain ⟨d4, -, n7, k7⟩ := mm_chk_cons k4
      obtain ⟨d7, -, n10, k10⟩ := mm_chk_cons k7
      obtain ⟨d10, -, -, -⟩ := mm_chk_cons k10
      have e1 : q1 = pc + 3 := eq_of_beq hnx
      have e2 : q2 = q1 + 1 := eq_of_beq n4
      have e3 : q3 = q2 + 3 := eq_of_beq n7
      have e4 : q4 = q3 + 3 := eq_of_beq n10
      subst e1; subst e2; subst e3; subst e4
      intro H locs L hL hP hD hS
      obtain ⟨sa, hsa⟩ := hG.2.2.2.1 _ htx
      refine vx_throwSW X.1 X.2.1 hl X.2.2.2.1 hfit (by decide +kernel) (X.2.2.2.2.1 _ hcl) (X.2.2.2.2.1 _ hini) hsa (fun w hw => X.2.2.2.2.1 _ (hat w hw)) hot hG.2.1 hG.2.2.1 hS (hL.1.trans X.2.2.1.symm) hd d3 d4 d7 d10 (fun x hx => (htab x hx).elim) hRf ?_ (by rw [hR.1]; exact hu) (by rw [hR.2]; omega) hlocks ?_ hS.2.2 hu (by omega)
      · exact hRl
      · intro t _ h1 h2
        exact ⟨⟨k, M, d, hq, rfl, hP.kept (fun j q hj => h2 q.1 (hP j q hj).lt), hD⟩, mm_F hS h1 h2⟩
    · exact h.elim
  · exact h.elim
theorem mz_ret0 {ret : Option FieldType} (X : mm_Cx p s m args c cc own nL Ts D E A) (hr : meth.sig.returnType = ret) (hrt : mm_rtOK rt ret = true) (hlocks : meth.locks = false)
    (i : Instr) (pc : Nat) (ls : mm_Ls) (st : List mm_V) (M : mm_M) (d : List Nat) (u : Nat) (hd : decode cc pc = .ok (i, mm_len i)) (h : mm_ret rt mu i st M d u Qr) :
    mm_Z p l e R s m args below meth c (MQ below (mm_Qc D E Ad A Qr) args s mu (12 * mu) A) nL D E Ad A pc ls st M d u := by
  intro H locs L hL hP hD hS
  unfold mm_ret at h
  split at h
  · rename_i r hir
    obtain ⟨hb, hu, hq⟩ := h
    refine W.widen (k := mu) (n := 12 * mu) hu (by omega) ?_
    have hQ : ∀ t : State, t.heap = H → s.WarmedH t.vm → mm_Qc D E Ad A Qr args s (.returned (r.map (mm_cc Ad))) t := fun t ht _ => ⟨⟨r, M, d, hq, rfl, by rw [ht]; exact hP, hD⟩, hS.F ht⟩
    subst hr
    unfold mm_isRet at hir
    have r0 : ∀ {k : Nat}, (k = 0 ∨ k = 20) → mm_rtOK k meth.sig.returnType = true → meth.sig.returnType = none := by
      intro k hk h
      rcases hk with rfl | rfl
      all_goals
        revert h
        cases meth.sig.returnType <;> simp [mm_rtOK]
    have r1 : ∀ {k : Nat}, (k = 1 ∨ k = 21) → mm_rtOK k meth.sig.returnType = true → meth.sig.returnType = some .int := by
      intro k hk h
      rcases hk with rfl | rfl
      all_goals
        revert h
        cases meth.sig.returnType with
        | none => simp [mm_rtOK]
        | some t => cases t <;> simp [mm_rtOK]
    have r4 : ∀ {k : Nat}, (k = 4 ∨ k = 24) → mm_rtOK k meth.sig.returnType = true → ∃ rt9, meth.sig.returnType = some rt9 ∧ ((∃ n, rt9 = .object n) ∨ ∃ t, rt9 = .array t) := by
      intro k hk h
      rcases hk with rfl | rfl
      all_goals
        revert h
        cases meth.sig.returnType with
        | none => simp [mm_rtOK]
        | some t => cases t <;> simp [mm_rtOK]
    have aret : ∀ v : Nat ⊕ Nat, (∃ rt9, meth.sig.returnType = some rt9 ∧ ((∃ n, rt9 = .object n) ∨ ∃ t, rt9 = .array t)) → (∀ t : State, t.heap = H → s.WarmedH t.vm → mm_Qc D E Ad A Qr args s (.returned (some (mm_cc Ad (.inr (.inr v))))) t) → decode cc pc = .ok (.areturn, 1) → W p l e R s m args below meth c H locs mu (12 * mu) (MQ below (mm_Qc D E Ad A Qr) args s mu (12 * mu) A) (F0 m pc L [mm_cc Ad (.inr (.inr v))]) := by
      intro v ⟨rt9, hr0, hr9⟩ hQ hd
      rcases mm_rcases Ad v with hv | ⟨q, hv⟩
      · simp only [hv] at hQ ⊢
        exact W.aret X.1 X.2.1 hr0 hr9 (Or.inl rfl) hQ hS.2.2 hd
      · simp only [hv] at hQ ⊢
        exact W.aret X.1 X.2.1 hr0 hr9 (Or.inr ⟨_, rfl⟩) hQ hS.2.2 hd
    split at hir
    · cases hir
      exact W.vret X.1 X.2.1 (r0 (Or.inl rfl) hrt) hQ hS.2.2 hd
    · cases hir
      exact W.iret X.1 X.2.1 (r1 (Or.inl rfl) hrt) hQ hS.2.2 hd
    · rename_i x
      cases hir
      have hr0 : meth.sig.returnType = some .boolean := by
        revert hrt
        cases meth.sig.returnType with
        | none => simp [mm_rtOK]
        | some t => cases t <;> simp [mm_rtOK]
      have hx : x = 0 ∨ x = 1 := hb
      exact W.zret X.1 X.2.1 hr0 (by rcases hx with rfl | rfl <;> decide) hQ hS.2.2 hd
    · cases hir
      have hr0 : meth.sig.returnType = some .long := by
        revert hrt
        cases meth.sig.returnType with
        | none => simp [mm_rtOK]
        | some t => cases t <;> simp [mm_rtOK]
      exact W.lret X.1 X.2.1 hr0 hQ hS.2.2 hd
    · rename_i v
      cases hir
      exact aret v (r4 (Or.inl rfl) hrt) hQ hd
    · rename_i x
      cases hir
      have hr0 : meth.sig.returnType = some .byte := by
        revert hrt
        cases meth.sig.returnType with
        | none => simp [mm_rtOK]
        | some t => cases t <;> simp [mm_rtOK]
      have hx : x = 0 := hb
      subst hx
      exact W.zret X.1 X.2.1 hr0 (by decide) hQ hS.2.2 hd
    · cases hir
      exact W.vret X.1 X.2.1 (r0 (Or.inr rfl) hrt) hQ hS.2.2 hd
    · cases hir
      exact W.iret X.1 X.2.1 (r1 (Or.inr rfl) hrt) hQ hS.2.2 hd
    · rename_i v
      cases hir
      exact aret v (r4 (Or.inr rfl) hrt) hQ hd
    · cases hir
  · exact h.elim
theorem mz_ret {ret : Option FieldType} (X : mm_Cx p s m args c cc own nL Ts D E A) (hr : meth.sig.returnType = ret) (hrt : mm_rtOK rt ret = true) (hlocks : meth.locks = false)
    (i : Instr) (pc : Nat) (ls : mm_Ls) (st : List mm_V) (M : mm_M) (d : List Nat) (u : Nat) (hd : decode cc pc = .ok (i, mm_len i)) (h : mm_ret rt mu i st M d u Qr) :
    mm_Z p l e R s m args below meth c (vx_MQ below (mm_Qc D E Ad A Qr) (mm_XC D E Ad A Qr) args s mu (12 * mu) A) nL D E Ad A pc ls st M d u :=
  fun H locs L hL hP hD hS => vx_ret (mz_ret0 X hr hrt hlocks i pc ls st M d u hd h H locs L hL hP hD hS)
theorem mz_noT (htab : ∀ x ∈ c.exceptionTable.toList, False) (hlocks : meth.locks = false) (hn0 : ∀ pc k, hn pc k = none) :
    mm_hT p l e R s m args below meth c (vx_MQ below (mm_Qc D E Ad A Qr) (mm_XC D E Ad A Qr) args s mu (12 * mu) A) nL D E Ad A mu hn Qr := by
  intro k pc ls M d u H locs L rest q ce h1 _ hL hP hD hS hu hce hcv hcl
  exact vx_out (fun x hx => (htab x hx).elim) hlocks hce hcv hcl (fun t ht _ => ⟨⟨k, M, d, h1 (hn0 pc k), rfl, by rw [ht]; exact hP, hD⟩, hS.F ht⟩) hS.2.2 hu (by omega)
end MD
def mm_fl : List mm_V → mm_Ls
  | [] => []
  | v :: r => match v with
    | .inr (.inl _) => some v :: none :: mm_fl r
    | _ => some v :: mm_fl r
def mm_pad : Nat → mm_Ls → mm_Ls
  | 0, l => l
  | n + 1, [] => none :: mm_pad n []
  | n + 1, a :: l => a :: mm_pad n l
def mm_ent (n : Nat) (av : List mm_V) : mm_Ls := mm_pad n (mm_fl av)
theorem mm_pad_len : ∀ (n : Nat) (l : mm_Ls), l.length ≤ n → (mm_pad n l).length = n
  | 0, l, h => by simp [mm_pad]; simpa using h
  | n + 1, [], h => by simp only [mm_pad, List.length_cons, mm_pad_len n [] (Nat.zero_le n)]
  | n + 1, a :: l, h => by simp only [mm_pad, List.length_cons, mm_pad_len n l (by simpa using h)]
theorem mm_pad_nth {v : mm_V} : ∀ (n : Nat) (l : mm_Ls) (i : Nat), mm_nth (mm_pad n l) i = some (some v) → mm_nth l i = some (some v)
  | 0, l, i, h => h
  | n + 1, [], 0, h => by simp [mm_pad, mm_nth] at h
  | n + 1, [], i + 1, h => by
    have := mm_pad_nth n [] i h
    simp [mm_nth] at this
  | n + 1, a :: l, 0, h => h
  | n + 1, a :: l, i + 1, h => mm_pad_nth n l i h
theorem mm_fl_len (Ad : Nat → Nat) : ∀ av : List mm_V, (lg_sl (av.map (mm_cc Ad))).length = (mm_fl av).length
  | [] => rfl
  | v :: r => by
    have ih := mm_fl_len Ad r
    simp only [lg_sl, List.map_cons, List.flatMap_cons, List.length_append] at ih ⊢
    rw [ih]
    have hc := mm_catv Ad v
    rcases v with x | x | o | q
    · simp [mm_fl, hc, mm_cat]; omega
    · simp [mm_fl, hc, mm_cat]; omega
    · simp [mm_fl, hc, mm_cat]; omega
    · simp [mm_fl, hc, mm_cat]; omega
theorem mm_fl_nth {Ad : Nat → Nat} {v : mm_V} : ∀ (av : List mm_V) (k i : Nat), mm_nth (mm_fl av) i = some (some v) → (k + i, mm_cc Ad v) ∈ lv_args k (av.map (mm_cc Ad))
  | [], k, i, h => by simp [mm_fl, mm_nth] at h
  | w :: r, k, i, h => by
    simp only [List.map_cons, lv_args, List.mem_cons]
    have hc := mm_catv Ad w
    have one : mm_cat w = 1 → mm_fl (w :: r) = some w :: mm_fl r := by
      intro h1
      rcases w with x | x | o | q <;> first | rfl | (simp [mm_cat] at h1)
    rcases (show mm_cat w = 1 ∨ mm_cat w = 2 by rcases w with x | x | o | q <;> simp [mm_cat]) with h1 | h2
    · rw [one h1] at h
      rw [hc, h1, if_neg (by decide)]
      cases i with
      | zero =>
        simp only [mm_nth, Option.some.injEq] at h
        left
        rw [h, Nat.add_zero]
      | succ i =>
        right
        have := mm_fl_nth (Ad := Ad) r (k + 1) i h
        rw [show k + (i + 1) = k + 1 + i by omega]
        exact this
    · have h3 : mm_fl (w :: r) = some w :: none :: mm_fl r := by
        rcases w with x | x | o | q <;> first | rfl | (simp [mm_cat] at h2)
      rw [h3] at h
      rw [hc, h2, if_pos rfl]
      match i, h with
      | 0, h =>
        simp only [mm_nth, Option.some.injEq] at h
        left
        rw [h, Nat.add_zero]
      | 1, h => simp [mm_nth] at h
      | i + 2, h =>
        right
        have := mm_fl_nth (Ad := Ad) r (k + 2) i h
        rw [show k + (i + 2) = k + 2 + i by omega]
        exact this
theorem mm_entry {Ad : Nat → Nat} {n : Nat} {av : List mm_V} (h : (mm_fl av).length ≤ n) : mm_Lo Ad n (mm_ent n av) (lg_sl (av.map (mm_cc Ad)) ++ List.replicate (n - (lg_sl (av.map (mm_cc Ad))).length) Slot.unset).toArray := by
  obtain ⟨h1, h2, h3⟩ := lv_entry (av.map (mm_cc Ad)) (n := n) (by rw [mm_fl_len]; exact h)
  refine ⟨h1, h2, mm_pad_len n _ h, fun i v hi => ?_⟩
  have := h3 _ (mm_fl_nth (Ad := Ad) av 0 i (mm_pad_nth n _ i hi))
  simpa using this
theorem mm_T_cls : ∀ q ∈ mm_cl, ∀ w ∈ u_ws q.1 q.2.1 q.2.2, w ∈ mm_T := by decide +kernel
theorem mm_T_ab : Jvm.Cond.arrayClass .byte ∈ mm_T := by decide +kernel
/-- a method's contract out of its runs -/
theorem mm_meth {l : Launch} {y : MethodName} {b : ByteArray} {maxL : Nat} {ret : Option FieldType} {fr lo mu rt : Nat} {own : String} {sp : mm_S} {cd : List mm_E}
    {F : Nat → Option (Nat × Nat)} {C : Nat → Option mm_Ca} {X0 : Nat → Nat → Nat → Option Nat} {LC : Nat → Option Int}
    (hl : l.stackTraces = false) (hy : plainName y.cls = true) (hown : y.cls = own) (hk : mm_chk b cd = true) (hrt : mm_rtOK rt ret = true) (hfr : 5 < fr) (hlo : 82 ≤ lo)
    (hPo : mm_Po own mm_U F LC) (hPE : ∀ idx ca, C idx = some ca → mm_PE l own mm_U (mm_rm fr lo mu) idx ca) (hXE : ∀ idx is ic k, X0 idx is ic = some k → mm_XE own mm_U idx is ic k) (h91 : ∀ k rc, F k ≠ some (rc, 91))
    (h : ∀ av M d Q, sp av M d Q → (mm_fl av).length ≤ maxL ∧ mm_run F C X0 LC (fun _ => none) rt mu (fun _ _ => none) Q cd 0 (mm_ent maxL av) [] M d 0) : mm_Met l y b maxL ret [] fr lo mu sp := by
  intro D E Ad sz av M d Q hsp
  obtain ⟨hw, hrun⟩ := h av M d Q hsp
  refine vx_ofW (cc := b) (maxL := maxL) (ret := ret) hy rfl ?_
  intro p e s m args below meth c s₁ B hml htab hPc
  obtain ⟨rfl, hsz, hP, hD0, hG⟩ := hPc
  have hts := atoms_spec (ws := mm_cw y b maxL ret [] :: mm_T) B.pre
  have hts' : ∀ w ∈ mm_U, w.before (av.map (mm_cc Ad)).toArray s = true := fun w hw => (List.mem_append.mp hw).elim (fun hw => hts w (List.mem_cons_of_mem _ hw)) (fun hw => va_Nw.use (mm_nw_ot w hw) (hG.2.2.2.2.1 w hw))
  have X : mm_Cx p s m (av.map (mm_cc Ad)).toArray c b own maxL mm_U D E (va_A (mm_ws E Ad M d) sz) := ⟨B.exec, B.bytes, hml, hown ▸ findClass_of_methodNamed B.named, hts', hG.1, fun q hq => Or.inr (by rw [← hsz]; exact hq), fun q hq w hw => mm_T_U w (mm_T_cls q hq w hw)⟩
  have hlocks := B.notSynchronized
  rw [lg_entry_eq]
  refine hrun (mm_Z p l e (mm_rm fr lo mu) s m (av.map (mm_cc Ad)).toArray below meth c (vx_MQ below (mm_Qc D E Ad (va_A (mm_ws E Ad M d) sz) Q) (mm_XC D E Ad (va_A (mm_ws E Ad M d) sz) Q) (av.map (mm_cc Ad)).toArray s mu (12 * mu) (va_A (mm_ws E Ad M d) sz)) maxL D E Ad (va_A (mm_ws E Ad M d) sz)) ?_ s.heap [] _ (mm_entry hw) hP hD0.self va_S.rf
  intro pc i t rest ls st M' d' u Kn Kj hat hop kn kj
  obtain ⟨pre, hpre⟩ := mm_at_suf pc cd
  have hk' : mm_chk b ((pc, i, t) :: rest) = true := by
    rw [hpre, hat] at hk
    exact mm_chk_app pre _ hk
  refine mm_sound X hPo (SC := fun _ => none) (fun q n xs hq => by cases hq) ⟨hG.2.2.2.2.2.2.2, hG.2.2.2.2.1 _ (by simp [mm_nw]), ⟨⟨Nat.le_refl _, Nat.le_refl _⟩, hfr, hlo⟩, mm_T_U _ mm_T_ab, fun k rc e => absurd e (h91 k rc)⟩ ?_ ?_ ?_ hk' hop kn kj
  · exact mz_call X hG ⟨rfl, rfl⟩ hPE (mz_noT htab hlocks (fun _ _ => rfl))
  · exact mz_thr hl X hG ⟨rfl, rfl⟩ hfr hlo htab hlocks hXE (fun _ _ => rfl)
  · exact mz_ret X B.returns hrt hlocks
/-- a method of the system's that never throws -/
def mm_Jet (l : Launch) (y : MethodName) (b : ByteArray) (maxL : Nat) (ret : Option FieldType) (fr lo mu : Nat) (sp : mm_S) : Prop :=
  ∀ (D : va_G) (E : mm_En) (Ad : Nat → Nat) (sz : Nat) (av : List mm_V) (M : mm_M) (d : List Nat) (Q : mm_Q), sp av M d Q →
    Met l y (.code y b maxL ret :: mm_T) (mm_rm fr lo mu) (va_Pc (av.map (mm_cc Ad)) (mm_B D E Ad sz M d)) (mm_Qc D E Ad (va_A (mm_ws E Ad M d) sz) Q) mu (12 * mu) (va_A (mm_ws E Ad M d) sz)
theorem mm_methJ {l : Launch} {y : MethodName} {b : ByteArray} {maxL : Nat} {ret : Option FieldType} {fr lo mu rt : Nat} {own : String} {sp : mm_S} {cd : List mm_E}
    {F : Nat → Option (Nat × Nat)} {C : Nat → Option mm_Ca} {LC : Nat → Option Int}
    (hy : plainFor y = true) (hown : y.cls = own) (hk : mm_chk b cd = true) (hrt : mm_rtOK rt ret = true) (hfr : 5 < fr) (hlo : 82 ≤ lo)
    (hPo : mm_Po own mm_U F LC) (hPE : ∀ idx ca, C idx = some ca → mm_sem l own fr lo idx ca) (h91 : ∀ k rc, F k = some (rc, 91) → y.name = "<init>")
    (h : ∀ av M d Q, sp av M d Q → (mm_fl av).length ≤ maxL ∧ mm_run F C (fun _ _ _ => none) LC (fun _ => none) rt mu (fun _ _ => none) Q cd 0 (mm_ent maxL av) [] M d 0) : mm_Jet l y b maxL ret fr lo mu sp := by
  intro D E Ad sz av M d Q hsp
  obtain ⟨hw, hrun⟩ := h av M d Q hsp
  refine va_MetF (cc := b) (maxL := maxL) (ret := ret) hy rfl ?_
  intro p e s m args below meth c s₁ B hml hPc
  obtain ⟨rfl, hsz, hP, hD0, hG⟩ := hPc
  have hts := atoms_spec (ws := .code y b maxL ret :: mm_T) B.pre
  have hts' : ∀ w ∈ mm_U, w.before (av.map (mm_cc Ad)).toArray s = true := fun w hw => (List.mem_append.mp hw).elim (fun hw => hts w (List.mem_cons_of_mem _ hw)) (fun hw => va_Nw.use (mm_nw_ot w hw) (hG.2.2.2.2.1 w hw))
  have X : mm_Cx p s m (av.map (mm_cc Ad)).toArray c b own maxL mm_U D E (va_A (mm_ws E Ad M d) sz) := ⟨B.exec, B.bytes, hml, hown ▸ findClass_of_methodNamed B.named, hts', hG.1, fun q hq => Or.inr (by rw [← hsz]; exact hq), fun q hq w hw => mm_T_U w (mm_T_cls q hq w hw)⟩
  have hlocks := B.notSynchronized
  have hnm : meth.name = y.name := (name_of_methodNamed B.named B.method).1
  rw [lg_entry_eq]
  refine hrun (mm_Z p l e (mm_rm fr lo mu) s m (av.map (mm_cc Ad)).toArray below meth c (MQ below (mm_Qc D E Ad (va_A (mm_ws E Ad M d) sz) Q) (av.map (mm_cc Ad)).toArray s mu (12 * mu) (va_A (mm_ws E Ad M d) sz)) maxL D E Ad (va_A (mm_ws E Ad M d) sz)) ?_ s.heap [] _ (mm_entry hw) hP hD0.self va_S.rf
  intro pc i t rest ls st M' d' u Kn Kj hat hop kn kj
  obtain ⟨pre, hpre⟩ := mm_at_suf pc cd
  have hk' : mm_chk b ((pc, i, t) :: rest) = true := by
    rw [hpre, hat] at hk
    exact mm_chk_app pre _ hk
  refine mm_sound X hPo (SC := fun _ => none) (fun q n xs hq => by cases hq) ⟨hG.2.2.2.2.2.2.2, hG.2.2.2.2.1 _ (by simp [mm_nw]), ⟨⟨Nat.le_refl _, Nat.le_refl _⟩, hfr, hlo⟩, mm_T_U _ mm_T_ab, fun k rc e => hnm.trans (h91 k rc e)⟩ ?_ ?_ ?_ hk' hop kn kj
  · intro how idx pc ls st M d u Kn Kj hd hcall kn kj
    unfold mm_call at hcall
    split at hcall
    · rename_i h' n rc sp mu' hc
      obtain ⟨rfl, hn', hrv, hcat, hu, hsp⟩ := hcall
      exact hPE idx _ hc X hG ⟨Nat.le_refl _, Nat.le_refl _⟩ (Nat.le_refl _) (Nat.le_refl _) pc ls st M d u Kn _ hd hn' hrv hcat hu hsp kn
    · exact hcall.elim
  · intro idx pc rest ls st M d u hd hnx hr h
    unfold mm_thr at h
    split at h
    · exact h.elim
    · exact h.elim
  · exact mz_ret0 X B.returns hrt hlocks
