/-! calls of the system's methods that never throw -/
section MJ
variable {p : Program} {l : Launch} {e : Env} {R : Room} {s : State} {m : MethodId} {args : Array Value} {below : List Frame} {meth : Method} {c : Code} {Qm : State → Prop}
variable {cc : ByteArray} {own : String} {nL : Nat} {D : va_G} {E : mm_En} {Ad : Nat → Nat} {A : Nat → Prop}
theorem mm_afterJ {pc u mu' : Nat} {H : Heap} {locs : List Loc} {L : Array Slot} {ls : mm_Ls} {st0 : List Value} {rest : List mm_V} {M : mm_M} {d : List Nat} {Q : mm_Q} {aa : Array Value} {Kn : mm_K}
    (hL : mm_Lo Ad nL ls L) (hD : va_D A (mm_ws E Ad M d)) (hS : va_S A s.heap H locs) (hA : ∀ q, s.heap.size ≤ q → A q)
    (hr : va_Run p l e R s m args below meth c H locs u (12 * u) mu' (12 * mu') (F0 m pc L st0) (rest.map (mm_cc Ad)) (mm_Qc D E Ad (va_A (mm_ws E Ad M d) H.size) Q aa) (va_A (mm_ws E Ad M d) H.size))
    (hQ : ∀ r M' d', Q (.inl r) M' d' → Kn ls (mm_push r rest) M' d' (u + mu'))
    (kn : ∀ ls st M d u, Kn ls st M d u → mm_Z p l e R s m args below meth c Qm nL D E Ad A (pc + 3) ls st M d u) :
    W p l e R s m args below meth c H locs u (12 * u) Qm (F0 m pc L st0) := by
  have hf := mm_wsA hD hS hA
  intro T hTh X
  have e12 : 12 * u + 12 * mu' = 12 * (u + mu') := by omega
  obtain ⟨v, st₀, t, T', L1, h0, X', hL1, e1, e2, ⟨⟨r, M', d', hq, hv, hP1, hD1⟩, hF⟩, st⟩ := hr T hTh X
  cases hv
  obtain ⟨k1, k2, k3⟩ := vx_keep h0 e1 hS (fun q _ h => hf q h) hf hL1 hF
  have h3 := kn _ _ _ _ _ (hQ _ _ _ hq) T'.heap (locs ++ L1) L hL (by rw [e1]; exact hP1) (hD1.weaken fun _ _ _ h => hf _ h) k3
  rw [e12] at X'
  obtain ⟨t2, a1, b1⟩ := h3 T' rfl X'
  refine ⟨t2, st t2 ?_, b1⟩
  have e3 : (r.map (mm_cc Ad)).toList ++ rest.map (mm_cc Ad) = (mm_push r rest).map (mm_cc Ad) := by cases r <;> rfl
  rw [e3]
  exact a1
end MJ
/-- a method's words: its code, its class -/
def mm_JW (y : MethodName) (b : ByteArray) (maxL : Nat) (ret : Option FieldType) : Prop := Jvm.Cond.code y b maxL ret ∈ mm_T ∧ Jvm.Cond.initialized y.cls ∈ mm_T ∧ (y.cls ≠ "java/lang/invoke/MethodHandle" ∧ y.cls ≠ "java/lang/invoke/VarHandle")
section MS
variable {l : Launch} {own : String} {y : MethodName} {b : ByteArray} {maxL : Nat} {ret : Option FieldType} {fr lo mu n idx FR LO : Nat} {sp : mm_S}
theorem mm_len1s {y : MethodName} {n : Nat} (hpar : (parseMethodDescriptor y.desc).map (fun d => d.parameters.length) = some n) : ∀ sig, parseMethodDescriptor y.desc = some sig → n = sig.parameters.length := by
  intro sig hsig
  rw [hsig] at hpar
  simp at hpar
  omega
theorem mm_semS (hM : mm_Jet l y b maxL ret fr lo mu sp) (hw : mm_JW y b maxL ret) (hl : Jvm.Cond.methodLink own idx y ∈ mm_T) (hst : Jvm.Cond.static y ∈ mm_T) (hpar : (parseMethodDescriptor y.desc).map (fun d => d.parameters.length) = some n) (hfr : fr + 1 ≤ FR) (hlo : 8 + (maxL + 11) + lo ≤ LO) : mm_sem l own FR LO idx (1, n, 0, sp, mu) := by
  intro p e R s m args below meth c Qm cc nL D E Ad A MU X hG hR hRf hRl pc ls st M d u Kn QX hd hn hrv hcat hu hsp kn H locs L hL hP hD hS
  have hS' : CallFix p m c cc nL s args mm_U own := ⟨X.1, X.2.1, X.2.2.1, X.2.2.2.1, X.2.2.2.2.1⟩
  have hMy := hM D E Ad H.size _ M d _ hsp
  have hws := pay_in X.2.2.2.2.1 (mm_goodIn hw.1 mm_T_U)
  have hA := X.2.2.2.2.2.2.1
  dsimp only at hu hn hcat
  have hroom : u + mu ≤ R.cells ∧ 12 * u + 12 * mu ≤ R.slots := ⟨by omega, by omega⟩
  have hcat' : 2 * (F0 m pc L (st.map (mm_cc Ad))).monitorRoom + (((st.drop n).map (mm_cc Ad)).map fun v => v.category).sum ≤ 8 := lv_room (by rw [mm_catsum]; exact hcat)
  have hstack : st.map (mm_cc Ad) = ((st.take n).reverse.map (mm_cc Ad)).reverse ++ (st.drop n).map (mm_cc Ad) := by
    rw [← List.map_reverse, List.reverse_reverse, ← List.map_append, List.take_append_drop]
  have hpre : PreS s H (va_Pc ((st.take n).reverse.map (mm_cc Ad)) (mm_B D E Ad H.size M d)) ((st.take n).reverse.map (mm_cc Ad)) := ⟨mm_blind, mm_preB hG hP hD hS hA⟩
  have cw : CallB R s args own idx y b maxL ret (.code y b maxL ret :: mm_T) (mm_rm fr lo mu) mu (12 * mu) n ∧ (Jvm.Cond.static y).before args s = true :=
    ⟨⟨rfl, rfl, by show fr + 1 ≤ _; omega, by show 8 + (maxL + 11) + lo ≤ _; omega, hws, List.mem_cons_self, X.2.2.2.2.1 _ (mm_T_U _ hw.1), X.2.2.2.2.1 _ (mm_T_U _ hw.2.1), hw.2.2, mm_len1s hpar, X.2.2.2.2.1 _ (mm_T_U _ hl)⟩, X.2.2.2.2.1 _ (mm_T_U _ hst)⟩
  exact mm_afterJ hL hD hS hA (va_runS hS' hMy cw hpre rfl (by simp; omega) hL.1 hstack hcat' hd hroom) (fun r M' d' hq => hq) kn
/-- the receiver: an object of class C, or the text that never changes -/
theorem mm_recvJ {p : Program} {s : State} {m : MethodId} {args : Array Value} {c : Code} {cc : ByteArray} {nL : Nat} {D : va_G} {E : mm_En} {Ad : Nat → Nat} {A : Nat → Prop} {H : Heap} {locs : List Loc} {st : List mm_V} {M : mm_M} {d : List Nat} {rc : Nat} {C : String} {T : u_T} {N : Nat}
    (X : mm_Cx p s m args c cc own nL mm_U D E A) (hG : mm_G A D E Ad s) (hP : va_P D mm_cl (mm_ws E Ad M d) H) (hS : va_S A s.heap H locs) (hrv : mm_rv st (n + 1) rc M d) (hrc : (rc = 6 ∧ C = RXS) ∨ (10 ≤ rc ∧ mm_cl[rc - 10]? = some (C, T, N))) :
    ∃ (o : Nat) (ini : List mm_V), o ≠ 0 ∧ st = ini ++ mm_R o :: st.drop (n + 1) ∧ st.take (n + 1) = ini ++ [mm_R o] ∧ ini.length + 1 = n + 1 ∧ ∃ cell : Cell, H[mm_ad Ad o]? = some cell ∧ cell.vm.isStatics = false ∧ s.vm.findClass C = some cell.cls := by
  rcases hrc with ⟨rfl, rfl⟩ | ⟨h10, hcl⟩
  · simp only [mm_rv] at hrv
    split at hrv
    · rename_i o ho
      obtain ⟨ini, hst, htk, hil⟩ := mm_split st (n + 1) (by omega) ho
      subst hrv
      exact ⟨28, ini, by decide, hst, htk, hil, va_Orecv hG.2.2.2.2.2.2.2.2.2.2.2.2.2.1 hS⟩
    · exact hrv.elim
  · obtain ⟨rc', rfl⟩ : ∃ k, rc = k + 1 := ⟨rc - 1, by omega⟩
    rw [mm_rv_old (by omega)] at hrv
    split at hrv
    · rename_i o ho
      obtain ⟨ini, hst, htk, hil⟩ := mm_split st (n + 1) (by omega) ho
      obtain ⟨q0, hq, hw⟩ := mm_idx (E := E) (Ad := Ad) (M := M) hrv.2
      rw [mm_el_obj hrv.1 h10] at hw
      exact ⟨o, ini, mm_is0 hrv, hst, htk, hil, va_recv X.2.2.2.2.2.1 hP hcl hw⟩
    · exact hrv.elim
/-- how an instance method is called: 0 virtual, 2 special -/
theorem mm_semV {C : String} {T : u_T} {N rc how : Nat} {x : MethodName} (hM : mm_Jet l y b maxL ret fr lo mu sp) (hw : mm_JW y b maxL ret) (hl : Jvm.Cond.methodLink own idx x ∈ mm_T) (hins : Jvm.Cond.instanceMethod y ∈ mm_T) (hrc : (rc = 6 ∧ C = RXS) ∨ (10 ≤ rc ∧ mm_cl[rc - 10]? = some (C, T, N)))
    (hpar : (parseMethodDescriptor x.desc).map (fun d => d.parameters.length) = some n) (hfr : fr + 1 ≤ FR) (hlo : 8 + (maxL + 11) + lo ≤ LO)
    (hk : (how = 0 ∧ x = y ∧ ∀ (args : Array Value) (s : State), (∀ w ∈ mm_U, w.before args s = true) → (Jvm.Cond.selects C y y).before args s = true) ∨
      (how = 0 ∧ ∃ bx mx rx, Jvm.Cond.selects C x y ∈ mm_T ∧ Jvm.Cond.sameMethod x.cls x.cls x.name x.desc ∈ mm_T ∧ Jvm.Cond.instanceMethod x ∈ mm_T ∧ Jvm.Cond.code x bx mx rx ∈ mm_T ∧ (x.cls ≠ "java/lang/invoke/MethodHandle" ∧ x.cls ≠ "java/lang/invoke/VarHandle")) ∨
      (how = 2 ∧ x = y ∧ ret = none ∧ y.name = "<init>") ∨
      (how = 2 ∧ x = y ∧ y.name ≠ "<init>" ∧ Jvm.Cond.sameMethod y.cls y.cls y.name y.desc ∈ mm_T ∧ Jvm.Cond.superclass own y.cls ∈ mm_T ∧ ∃ NN, Jvm.Cond.instantiable C NN ∈ mm_T)) : mm_sem l own FR LO idx (how, n + 1, rc, sp, mu) := by
  intro p e R s m args below meth c Qm cc nL D E Ad A MU X hG hR hRf hRl pc ls st M d u Kn QX hd hn hrv hcat hu hsp kn H locs L hL hP hD hS
  have hS' : CallFix p m c cc nL s args mm_U own := ⟨X.1, X.2.1, X.2.2.1, X.2.2.2.1, X.2.2.2.2.1⟩
  have hMy := hM D E Ad H.size _ M d _ hsp
  have hws := pay_in X.2.2.2.2.1 (mm_goodIn hw.1 mm_T_U)
  have hA := X.2.2.2.2.2.2.1
  dsimp only at hu hn hcat hrv hd
  have ww : ∀ w ∈ mm_T, w.before args s = true := fun w h => X.2.2.2.2.1 _ (mm_T_U _ h)
  have hroom : u + mu ≤ R.cells ∧ 12 * u + 12 * mu ≤ R.slots := ⟨by omega, by omega⟩
  have hcat' : 2 * (F0 m pc L (st.map (mm_cc Ad))).monitorRoom + (((st.drop (n + 1)).map (mm_cc Ad)).map fun v => v.category).sum ≤ 8 := lv_room (by rw [mm_catsum]; exact hcat)
  obtain ⟨o, ini, hne, hst, htk, hil, hcell⟩ := mm_recvJ X hG hP hS hrv hrc
  have hargs : (st.take (n + 1)).reverse = mm_R o :: ini.reverse := by rw [htk]; simp
  dsimp only at hMy
  rw [hargs, List.map_cons, mm_ref hne] at hMy
  have hstack : st.map (mm_cc Ad) = ((ini.reverse).map (mm_cc Ad)).reverse ++ .ref (mm_ad Ad o) :: (st.drop (n + 1)).map (mm_cc Ad) := by
    conv => lhs; rw [hst]
    rw [List.map_append, List.map_cons, mm_ref hne, List.map_reverse, List.reverse_reverse]
  have hpre : PreV s H C (mm_ad Ad o) (va_Pc (.ref (mm_ad Ad o) :: (ini.reverse).map (mm_cc Ad)) (mm_B D E Ad H.size M d)) ((ini.reverse).map (mm_cc Ad)) := ⟨mm_blind, hcell, mm_preB hG hP hD hS hA⟩
  have hB : (mm_rm fr lo mu).cells = mu ∧ (mm_rm fr lo mu).slots = 12 * mu ∧ (mm_rm fr lo mu).frames + 1 ≤ R.frames ∧ 8 + (maxL + 11) + (mm_rm fr lo mu).locals ≤ R.locals := ⟨rfl, rfl, by show fr + 1 ≤ _; omega, by show 8 + (maxL + 11) + lo ≤ _; omega⟩
  rcases hk with ⟨rfl, rfl, hsel⟩ | ⟨rfl, bx, mx, rx, hsel, hsame, hix, hcx, hnx⟩ | ⟨rfl, rfl, rfl, hnm⟩ | ⟨rfl, rfl, hnm, hsame, hsup, NN, hinst⟩
  · have cw : CallW R s args own C idx x b maxL ret (.code x b maxL ret :: mm_T) (mm_rm fr lo mu) mu (12 * mu) n :=
      ⟨⟨rfl, rfl, hB.2.2.1, hB.2.2.2, hws, List.mem_cons_self, ww _ hw.1, ww _ hw.2.1, hw.2.2, mm_len1s hpar, ww _ hl⟩, ww _ hins, hsel args s X.2.2.2.2.1⟩
    exact mm_afterJ hL hD hS hA (va_runV hS' hMy cw hpre rfl (by simp; omega) hL.1 hstack hcat' hd hroom) (fun r M' d' hq => hq) kn
  · have cw : va_CU R s args own C x.cls idx x y b maxL ret (.code y b maxL ret :: mm_T) (mm_rm fr lo mu) mu (12 * mu) n :=
      ⟨⟨rfl, rfl, hB.2.2.1, hB.2.2.2, hws, List.mem_cons_self⟩, ww _ hw.1, ww _ hw.2.1, hnx, mm_len1s hpar, ww _ hl, ww _ hsame, va_Decl.of (ww _ hix) (ww _ hcx), ww _ hsel, ww _ hins⟩
    exact mm_afterJ hL hD hS hA (va_runU hS' hMy cw hpre rfl (by simp; omega) hL.1 hstack hcat' hd hroom) (fun r M' d' hq => hq) kn
  · have cw : CallB R s args own idx x b maxL none (.code x b maxL none :: mm_T) (mm_rm fr lo mu) mu (12 * mu) n ∧ x.name = "<init>" ∧ (Jvm.Cond.instanceMethod x).before args s = true :=
      ⟨⟨rfl, rfl, hB.2.2.1, hB.2.2.2, hws, List.mem_cons_self, ww _ hw.1, ww _ hw.2.1, hw.2.2, mm_len1s hpar, ww _ hl⟩, hnm, ww _ hins⟩
    exact mm_afterJ hL hD hS hA (va_runI hS' hMy cw ⟨hpre.1, hpre.2.2⟩ rfl (by simp; omega) hL.1 hstack hcat' hd hroom) (fun r M' d' hq => hq) kn
  · have cw : va_CS R s args own idx x b maxL ret (.code x b maxL ret :: mm_T) (mm_rm fr lo mu) mu (12 * mu) n :=
      ⟨⟨rfl, rfl, hB.2.2.1, hB.2.2.2, hws, List.mem_cons_self⟩, ww _ hl, ww _ hsame, ww _ hsup, ww _ hins, ww _ hw.2.1, ww _ hw.1, hnm, mm_len1s hpar⟩
    obtain ⟨cC, hat⟩ := classAt_of (ww _ hinst)
    exact mm_afterJ hL hD hS hA (va_runSU hat hS' hMy cw hpre rfl (by simp; omega) hL.1 hstack hcat' hd hroom) (fun r M' d' hq => hq) kn
end MS
/-- a private method is chosen whatever the receiver's class -/
theorem mm_selP {C C9 : String} {y z : MethodName} {n : Nat} {args : Array Value} {s : State} (hz : (Jvm.Cond.selects C9 z z).before args s = true ∧ z.cls = y.cls) (hy : y.cls ≠ "java/lang/invoke/MethodHandle" ∧ y.cls ≠ "java/lang/invoke/VarHandle") (hins : (Jvm.Cond.instantiable C n).before args s = true) (hpriv : (Jvm.Cond.privateMethod y).before args s = true) (hinst : (Jvm.Cond.instanceMethod y).before args s = true) :
    (Jvm.Cond.selects C y y).before args s = true := by
  obtain ⟨c, k, hc, hk, -, hniab, -, -⟩ := Cond.instantiable_spec hins
  have hni : k.isInterface = false := (Bool.or_eq_false_iff.mp hniab).1
  obtain ⟨mk, methM, hnamed, hmethM, -, -⟩ := Cond.instanceMethod_spec hinst
  have hfound : s.methodFound? y.cls y.name y.desc = some mk := State.methodFound?_of_named hnamed hy
  obtain ⟨kM, hkM, hkN⟩ := className_of_methodNamed hnamed
  have hsel : selectMethod {} s.vm c mk = .method mk := selectMethod_private hmethM (Cond.privateMethod_at hpriv mk methM hnamed hmethM)
  simp only [Cond.before, Cond.holds, Cond.value, hc, hfound, hnamed, hsel, hk]
  obtain ⟨c2, r2, m2, q1, q2, q3, q4, kP, hkP, hkPi⟩ := Cond.selects_spec hz.1
  have e1 := findClass_of_methodNamed q3
  rw [hz.2, findClass_of_methodNamed hnamed] at e1
  rw [← Option.some.inj e1] at hkP
  cases hkM.symm.trans hkP
  simp [hkM, hkPi]
