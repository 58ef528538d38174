/-! methods that catch: a row of the table by the kind of what is thrown -/
def mm_hk (k : Nat) : Nat := if k = 0 then 19 else 24
def mm_hn : List (Nat × Nat × Nat × Nat) → Nat → Nat → Option Nat
  | [], _, _ => none
  | x :: r, pc, k => bif (Nat.ble x.1 pc && Nat.blt pc x.2.1 && Nat.beq x.2.2.2 (mm_hk k)) then some x.2.2.1 else mm_hn r pc k
def mm_no (x : Nat × Nat × Nat × Nat) (pc k : Nat) : Prop := ¬ (x.1 ≤ pc ∧ pc < x.2.1) ∨ x.2.2.2 ≠ mm_hk k
theorem mm_hn_none {pc k : Nat} : ∀ hh : List (Nat × Nat × Nat × Nat), mm_hn hh pc k = none → ∀ x ∈ hh, mm_no x pc k
  | [], _, x, hx => nomatch hx
  | y :: r, h, x, hx => by
    simp only [mm_hn] at h
    cases e : (Nat.ble y.1 pc && Nat.blt pc y.2.1 && Nat.beq y.2.2.2 (mm_hk k))
    · rw [e] at h
      rcases List.mem_cons.mp hx with rfl | hx
      · unfold mm_no
        by_cases h1 : x.1 ≤ pc ∧ pc < x.2.1
        · refine Or.inr (fun h2 => ?_)
          have a : Nat.ble x.1 pc = true := Nat.ble_eq.mpr h1.1
          have b : Nat.blt pc x.2.1 = true := Nat.ble_eq.mpr h1.2
          rw [a, b, h2, Nat.beq_refl] at e
          exact absurd e (by decide)
        · exact Or.inl h1
      · exact mm_hn_none r h x hx
    · rw [e] at h
      exact nomatch h
theorem mm_hn_some {pc k hpc : Nat} : ∀ hh : List (Nat × Nat × Nat × Nat), mm_hn hh pc k = some hpc → ∃ pre x suf, hh = pre ++ x :: suf ∧ (∀ z ∈ pre, mm_no z pc k) ∧ (x.1 ≤ pc ∧ pc < x.2.1) ∧ x.2.2.2 = mm_hk k ∧ x.2.2.1 = hpc
  | [], h => nomatch h
  | y :: r, h => by
    simp only [mm_hn] at h
    cases e : (Nat.ble y.1 pc && Nat.blt pc y.2.1 && Nat.beq y.2.2.2 (mm_hk k))
    · rw [e] at h
      obtain ⟨pre, x, suf, h1, h2, h3⟩ := mm_hn_some r h
      refine ⟨y :: pre, x, suf, by rw [h1]; rfl, fun z hz => ?_, h3⟩
      rcases List.mem_cons.mp hz with rfl | hz
      · unfold mm_no
        by_cases h1 : z.1 ≤ pc ∧ pc < z.2.1
        · refine Or.inr (fun h2 => ?_)
          have a : Nat.ble z.1 pc = true := Nat.ble_eq.mpr h1.1
          have b : Nat.blt pc z.2.1 = true := Nat.ble_eq.mpr h1.2
          rw [a, b, h2, Nat.beq_refl] at e
          exact absurd e (by decide)
        · exact Or.inl h1
      · exact h2 z hz
    · rw [e] at h
      simp only [Bool.and_eq_true] at e
      refine ⟨[], y, r, rfl, (fun z hz => nomatch hz), ⟨Nat.ble_eq.mp e.1.1, Nat.ble_eq.mp e.1.2⟩, Nat.eq_of_beq_eq_true e.2, ?_⟩
      simpa using h
/-- the words that a catching method needs -/
theorem mm_lk19 : Jvm.Cond.classLink RL 19 "java/lang/IndexOutOfBoundsException" ∈ mm_U := mm_T_U _ (mm_t3 75 rfl rfl)
theorem mm_lk24 : Jvm.Cond.classLink RL 24 "java/lang/IllegalArgumentException" ∈ mm_U := mm_T_U _ (mm_t3 97 rfl rfl)
theorem mm_cst0 : Jvm.Cond.castable "java/lang/IndexOutOfBoundsException" "java/lang/IndexOutOfBoundsException" ∈ mm_U := List.mem_append_right _ (List.mem_append_right _ List.mem_cons_self)
theorem mm_cst1 : Jvm.Cond.castable "java/lang/IllegalArgumentException" "java/lang/IllegalArgumentException" ∈ mm_U := List.mem_append_right _ (List.mem_append_right _ (List.mem_cons_of_mem _ List.mem_cons_self))
section HT
variable {p : Program} {l : Launch} {e : Env} {R : Room} {s : State} {m : MethodId} {args : Array Value} {below : List Frame} {meth : Method} {c : Code}
variable {cc : ByteArray} {nL : Nat} {D : va_G} {E : mm_En} {Ad : Nat → Nat} {A : Nat → Prop} {mu : Nat} {Qr : mm_Q} {hh : List (Nat × Nat × Nat × Nat)}
theorem mm_pass (X : mm_Cx p s m args c cc RL nL mm_U D E A) (hG : mm_G A D E Ad s) (hct : ∀ x ∈ hh, x.2.2.2 = 19 ∨ x.2.2.2 = 24) {pc k : Nat} {rows : List (Nat × Nat × Nat × Nat)} (hr : ∀ x ∈ rows, x ∈ hh ∧ mm_no x pc k) :
    ∀ z ∈ tableOf rows, covers z pc = false ∨ (z.catchType ≠ 0 ∧ ∃ nm : String, (Cond.classLink RL z.catchType nm).before args s = true ∧ va_Nc (mm_xn k) nm s) := by
  intro z hz
  obtain ⟨x, hx, rfl⟩ := List.mem_map.mp hz
  obtain ⟨h1, h2⟩ := hr x hx
  rcases h2 with h2 | h2
  · left
    show (decide (x.1 ≤ pc) && decide (pc < x.2.1)) = false
    by_cases a : x.1 ≤ pc
    · have b : ¬ pc < x.2.1 := fun b => h2 ⟨a, b⟩
      simp [b]
    · simp [a]
  · right
    have hn := And.intro hG.2.2.2.2.2.1 hG.2.2.2.2.2.2.1
    rcases hct x h1 with h3 | h3
    · have hk : k ≠ 0 := fun e => h2 (by rw [h3, e]; rfl)
      refine ⟨by show x.2.2.2 ≠ 0; omega, "java/lang/IndexOutOfBoundsException", ?_, ?_⟩
      · show (Cond.classLink RL x.2.2.2 _).before args s = true
        rw [h3]
        exact X.2.2.2.2.1 _ mm_lk19
      · unfold mm_xn
        rw [if_neg hk]
        exact hn.1
    · have hk : k = 0 := by
        by_cases e : k = 0
        · exact e
        · exact absurd h3 (by rw [show mm_hk k = 24 by unfold mm_hk; rw [if_neg e]] at h2; exact h2)
      refine ⟨by show x.2.2.2 ≠ 0; omega, "java/lang/IllegalArgumentException", ?_, ?_⟩
      · show (Cond.classLink RL x.2.2.2 _).before args s = true
        rw [h3]
        exact X.2.2.2.2.1 _ mm_lk24
      · unfold mm_xn
        rw [if_pos hk]
        exact hn.2
theorem mz_hT (X : mm_Cx p s m args c cc RL nL mm_U D E A) (hG : mm_G A D E Ad s) (htab : c.exceptionTable.toList = tableOf hh) (hlocks : meth.locks = false) (hct : ∀ x ∈ hh, x.2.2.2 = 19 ∨ x.2.2.2 = 24) :
    mm_hT p l e R s m args below meth c (vx_MQ below (mm_Qc D E Ad A Qr) (mm_XC D E Ad A Qr) args s mu (12 * mu) A) nL D E Ad A mu (mm_hn hh) Qr := by
  intro k pc ls M d u H locs L rest q ce h1 h2 hL hP hD hS hu hce hcv hcl
  cases hx : mm_hn hh pc k with
  | none =>
    refine vx_outP X.2.2.2.1 hlocks ?_ hce hcv hcl (fun t ht _ => ⟨⟨k, M, d, h1 hx, rfl, by rw [ht]; exact hP, hD⟩, hS.F ht⟩) hS.2.2 hu (by omega)
    rw [htab]
    exact mm_pass X hG hct (fun x hx2 => ⟨hx2, mm_hn_none hh hx x hx2⟩)
  | some hpc =>
    obtain ⟨pre, x, suf, e1, e2, e3, e4, e5⟩ := mm_hn_some hh hx
    have hk := h2 hpc hx H locs L hL hP hD hS
    have e6 : tableOf hh = tableOf pre ++ ⟨x.1, x.2.1, x.2.2.1, x.2.2.2⟩ :: tableOf suf := by rw [e1]; simp [tableOf]
    refine vx_catch (name := mm_xn k) X.2.2.2.1 (tableOf pre) ⟨x.1, x.2.1, x.2.2.1, x.2.2.2⟩ (tableOf suf) (by rw [htab, e6]) (mm_pass X hG hct (fun z hz => ⟨by rw [e1]; exact List.mem_append_left _ hz, e2 z hz⟩)) ?_ ?_ ?_ ?_ hce hcv hcl ?_
    · show (decide (x.1 ≤ pc) && decide (pc < x.2.1)) = true
      simp [e3.1, e3.2]
    · show x.2.2.2 ≠ 0
      rw [e4]
      unfold mm_hk
      split <;> decide
    · show (Cond.classLink RL x.2.2.2 _).before args s = true
      rw [e4]
      unfold mm_hk mm_xn
      split
      · exact X.2.2.2.2.1 _ mm_lk19
      · exact X.2.2.2.2.1 _ mm_lk24
    · unfold mm_xn
      split
      · exact X.2.2.2.2.1 _ mm_cst0
      · exact X.2.2.2.2.1 _ mm_cst1
    · show W p l e R s m args below meth c H locs u (12 * u) _ (F0 m x.2.2.1 L [.ref q])
      rw [e5]
      exact hk
end HT
/-- a catching method's contract out of its runs -/
theorem mm_methH {l : Launch} {y : MethodName} {b : ByteArray} {maxL : Nat} {ret : Option FieldType} {h0 : Nat × Nat × Nat × Nat} {hr : List (Nat × Nat × Nat × Nat)} {fr lo mu rt : Nat} {sp : mm_S} {cd : List mm_E}
    {F : Nat → Option (Nat × Nat)} {C : Nat → Option mm_Ca} {LC : Nat → Option Int}
    (hy : plainName y.cls = true) (hown : y.cls = RL) (hk : mm_chk b cd = true) (hrt : mm_rtOK rt ret = true) (hct : ∀ x ∈ h0 :: hr, x.2.2.2 = 19 ∨ x.2.2.2 = 24)
    (hPo : mm_Po RL mm_U F LC) (hPE : ∀ idx ca, C idx = some ca → mm_PE l RL mm_U (mm_rm fr lo mu) idx ca) (hfl : 5 < fr ∧ 82 ≤ lo) (h91 : ∀ k rc, F k ≠ some (rc, 91))
    (h : ∀ av M d Q, sp av M d Q → (mm_fl av).length ≤ maxL ∧ mm_run F C mm_x0 LC (fun _ => none) rt mu (mm_hn (h0 :: hr)) Q cd 0 (mm_ent maxL av) [] M d 0) : mm_Met l y b maxL ret (h0 :: hr) fr lo mu sp := by
  intro D E Ad sz av M d Q hsp
  obtain ⟨hw, hrun⟩ := h av M d Q hsp
  refine vx_ofWH (cc := b) (maxL := maxL) (ret := ret) (hh := h0 :: hr) hy rfl ?_
  intro p e s m args below meth c s₁ B hml hPc
  obtain ⟨rfl, hsz, hP, hD0, hG⟩ := hPc
  have hts := atoms_spec (ws := mm_cw y b maxL ret (h0 :: hr) :: mm_T) B.pre
  have htab : c.exceptionTable.toList = tableOf (h0 :: hr) := vx_table (x := y) B (hts _ List.mem_cons_self)
  have hts' : ∀ w ∈ mm_U, w.before (av.map (mm_cc Ad)).toArray s = true := fun w hw => (List.mem_append.mp hw).elim (fun hw => hts w (List.mem_cons_of_mem _ hw)) (fun hw => va_Nw.use (mm_nw_ot w hw) (hG.2.2.2.2.1 w hw))
  have X : mm_Cx p s m (av.map (mm_cc Ad)).toArray c b RL maxL mm_U D E (va_A (mm_ws E Ad M d) sz) := ⟨B.exec, B.bytes, hml, hown ▸ findClass_of_methodNamed B.named, hts', hG.1, fun q hq => Or.inr (by rw [← hsz]; exact hq), fun q hq w hw => mm_T_U w (mm_T_cls q hq w hw)⟩
  have hlocks := B.notSynchronized
  rw [lg_entry_eq]
  refine hrun (mm_Z p l e (mm_rm fr lo mu) s m (av.map (mm_cc Ad)).toArray below meth c (vx_MQ below (mm_Qc D E Ad (va_A (mm_ws E Ad M d) sz) Q) (mm_XC D E Ad (va_A (mm_ws E Ad M d) sz) Q) (av.map (mm_cc Ad)).toArray s mu (12 * mu) (va_A (mm_ws E Ad M d) sz)) maxL D E Ad (va_A (mm_ws E Ad M d) sz)) ?_ s.heap [] _ (mm_entry hw) hP hD0.self va_S.rf
  intro pc i t rest ls st M' d' u Kn Kj hat hop kn kj
  obtain ⟨pre, hpre⟩ := mm_at_suf pc cd
  have hk' : mm_chk b ((pc, i, t) :: rest) = true := by
    rw [hpre, hat] at hk
    exact mm_chk_app pre _ hk
  refine mm_sound X hPo (SC := fun _ => none) (fun q n xs hq => by cases hq) ⟨hG.2.2.2.2.2.2.2, hG.2.2.2.2.1 _ (by simp [mm_nw]), ⟨⟨Nat.le_refl _, Nat.le_refl _⟩, hfl⟩, mm_T_U _ mm_T_ab, fun k rc e => absurd e (h91 k rc)⟩ ?_ ?_ ?_ hk' hop kn kj
  · exact mz_call X hG ⟨rfl, rfl⟩ hPE (mz_hT X hG htab hlocks hct)
  · intro idx pc rest ls st M d u _ _ _ h9
    exfalso
    revert h9
    unfold mm_thr
    split
    · exact fun h => h
    · exact fun h => h
  · exact mz_ret X B.returns hrt hlocks
def mm_RNH (fl : List (Nat × Nat × Nat)) (ct : List (Nat × mm_Ca)) (lc : List (Nat × Int)) (hh : List (Nat × Nat × Nat × Nat)) (rt mu maxL : Nat) (cd : List mm_E) (sp : mm_S) : Prop :=
  ∀ av M d Q, sp av M d Q → (mm_fl av).length ≤ maxL ∧ mm_run (mm_look fl) (mm_look ct) mm_x0 (mm_look lc) (fun _ => none) rt mu (mm_hn hh) Q cd 0 (mm_ent maxL av) [] M d 0
theorem flL90 : ∀ q ∈ flL, q.2.2 < 90 := by decide
theorem mm_mtH {l : Launch} {y : MethodName} {b : ByteArray} {maxL : Nat} {ret : Option FieldType} {h0 : Nat × Nat × Nat × Nat} {hr : List (Nat × Nat × Nat × Nat)} {fr lo mu rt : Nat} {sp : mm_S} {cd : List mm_E} {ct : List (Nat × mm_Ca)}
    (h : mm_RNH flL ct [] (h0 :: hr) rt mu maxL cd sp) (hy : plainName y.cls = true ∧ y.cls = RL) (hk : mm_chk b cd = true) (hrt : mm_rtOK rt ret = true) (hct : ∀ x ∈ h0 :: hr, x.2.2.2 = 19 ∨ x.2.2.2 = 24) (hPE : mm_PEs l RL (mm_rm fr lo mu) ct) (hfl : 5 < fr ∧ 82 ≤ lo := by decide) : mm_Met l y b maxL ret (h0 :: hr) fr lo mu sp :=
  mm_methH (F := mm_look flL) (C := mm_look ct) (LC := mm_look []) hy.1 hy.2 hk hrt hct ⟨fun k rc n e => Or.inl ⟨flL90 _ (mm_look_mem flL e), flkL (k, rc, n) (mm_look_mem flL e)⟩, fun k x e => nomatch e⟩ (fun idx ca e => mm_PEs_look ct hPE e) hfl (fun k rc e => absurd (flL90 _ (mm_look_mem flL e)) (by simp)) (fun av M d Q hs => h av M d Q hs)
/-- what the law's helper leaves of the class's side: the order, all else but the answer's box -/
def lP (M M' : mm_M) : Prop := wA M' ∧ (∀ o, (o = 0 ∨ 16 < o) → o ≠ 23 → M' o = M o) ∧ M' 1 6 = M 1 6
theorem lP.of {M M' : mm_M} (h : cP M M') : lP M M' := ⟨h.1, fun o ho _ => h.2.1 o ho, h.2.2⟩
theorem lP.up {M M' : mm_M} {k : Nat} {x : Int} (h : cP M M') : lP M (mm_up M' 23 k x) := by
  refine ⟨⟨?_, fun w hw => ?_, ?_⟩, fun o ho h3 => by rw [mm_up_o _ h3]; exact h.2.1 o ho, by rw [mm_up_o _ (by omega)]; exact h.2.2⟩
  · have ht := h.1.1
    unfold tW at *
    rw [mm_up_o 2 (by omega), mm_up_o 3 (by omega), mm_up_o 4 (by omega)]
    exact ht
  · have := isK_le hw.k
    exact wV.me (h.1.2.1 w hw) (mm_up_o _ (by omega)) (mm_up_o _ (by omega)) (mm_up_o _ (by omega))
  · refine h.1.2.2.to (mm_up_o _ (by omega)) (fun h1 _ => ?_)
    have := isK_le (h.1.2.2.1.resolve_left h1).k
    rw [mm_up_o _ (by omega)]
    exact Int.le_refl _

