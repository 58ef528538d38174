/-! calls, throws, returns, and a method's contract out of its runs -/
theorem mm_split {α : Type} {v : α} : ∀ (st : List α) (n : Nat), 1 ≤ n → mm_nth st (n - 1) = some v → ∃ ini : List α, st = ini ++ v :: st.drop n ∧ st.take n = ini ++ [v] ∧ ini.length + 1 = n
  | [], n, h, hv => by simp [mm_nth] at hv
  | a :: st, 0, h, hv => by omega
  | a :: st, 1, h, hv => by
    have hv' : some a = some v := hv
    cases hv'
    exact ⟨[], by simp, by simp, rfl⟩
  | a :: st, n + 2, h, hv => by
    have hv' : mm_nth st (n + 1 - 1) = some v := hv
    obtain ⟨ini, h1, h2, h3⟩ := mm_split st (n + 1) (by omega) hv'
    refine ⟨a :: ini, ?_, ?_, by simp; omega⟩
    · simp only [List.drop_succ_cons, List.cons_append]
      rw [← h1]
    · simp only [List.take_succ_cons, List.cons_append, h2]
theorem mm_rv_old {st : List mm_V} {n rc : Nat} {M : mm_M} {d : List Nat} (h : 6 ≤ rc) : mm_rv st n (rc + 1) M d = (match mm_nth st (n - 1) with
    | some (.inr (.inr (.inl o))) => mm_is M d o (rc + 1)
    | _ => False) := by
  match rc, h with
  | rc + 6, _ => rfl
section MC
variable {p : Program} {l : Launch} {e : Env} {R : Room} {s : State} {m : MethodId} {args : Array Value} {below : List Frame} {meth : Method} {c : Code} {Qm : State → Prop}
variable {cc : ByteArray} {own : String} {nL : Nat} {Ts : List Jvm.Cond} {D : va_G} {E : mm_En} {Ad : Nat → Nat} {A : Nat → Prop}
variable {C : Nat → Option mm_Ca} {rt mu : Nat} {hn : Nat → Nat → Option Nat} {Qr : mm_Q}
/-- a throw over this frame: caught by the row that hn names, or it leaves -/
def mm_hT (p : Program) (l : Launch) (e : Env) (R : Room) (s : State) (m : MethodId) (args : Array Value) (below : List Frame) (meth : Method) (c : Code) (Qm : State → Prop) (nL : Nat) (D : va_G) (E : mm_En) (Ad : Nat → Nat) (A : Nat → Prop) (mu : Nat) (hn : Nat → Nat → Option Nat) (Qr : mm_Q) : Prop :=
  ∀ (k pc : Nat) (ls : mm_Ls) (M : mm_M) (d : List Nat) (u : Nat) (H : Heap) (locs : List Loc) (L : Array Slot) (rest : List Value) (q : Addr) (ce : Cell),
    (hn pc k = none → Qr (.inr k) M d) → (∀ hpc, hn pc k = some hpc → mm_Z p l e R s m args below meth c Qm nL D E Ad A hpc ls [mm_X q] M d u) → mm_Lo Ad nL ls L → va_P D mm_cl (mm_ws E Ad M d) H → va_D A (mm_ws E Ad M d) → va_S A s.heap H locs → u ≤ mu →
    H[q]? = some ce → ce.vm = .none → s.vm.findClass (mm_xn k) = some ce.cls → vx_W p l e R s m args below meth c H locs u (12 * u) Qm (F0 m pc L rest) q
theorem mm_blind {D : va_G} {E : mm_En} {Ad : Nat → Nat} {sz : Nat} {M : mm_M} {d : List Nat} {av : List Value} : FrameBlind (va_Pc av (mm_B D E Ad sz M d)) := by
  intro a U g mk h
  obtain ⟨h0, h1, h2, h3, h4⟩ := h
  exact ⟨h0, h1, h2, h3, h4.to (State.WarmedH.refl U) rfl (fun _ _ _ => rfl) (fun _ h => h)⟩
theorem mm_goodIn {w : Jvm.Cond} (hw : w ∈ mm_T) (hTs : ∀ w ∈ mm_T, w ∈ Ts) : GoodIn Ts (w :: mm_T) := by
  have h1 : ∀ x ∈ mm_T, x ∈ Ts ∧ ((x.onTables && x.keeps) = true ∨ ∃ ty, x = .arrayClass ty) := fun x hx => ⟨hTs x hx, good_of_word (List.mem_filter.mp hx).2⟩
  intro x hx
  rcases List.mem_cons.mp hx with rfl | hx
  · exact h1 _ hw
  · exact h1 _ hx
theorem mm_wsA {H : Heap} {locs : List Loc} {M : mm_M} {d : List Nat} (hD : va_D A (mm_ws E Ad M d)) (hS : va_S A s.heap H locs) (hA : ∀ q, s.heap.size ≤ q → A q) : ∀ q, va_A (mm_ws E Ad M d) H.size q → A q := by
  intro q h
  rcases h with ⟨k, x, h⟩ | h
  · exact hD.2 k _ h
  · exact hA q (Nat.le_trans hS.1 h)
theorem mm_after {pc u mu' : Nat} {H : Heap} {locs : List Loc} {L : Array Slot} {ls : mm_Ls} {st0 : List Value} {rest : List mm_V} {M : mm_M} {d : List Nat} {Q : mm_Q} {aa : Array Value} {Kn : mm_K} {Kj : Nat → mm_K}
    (hL : mm_Lo Ad nL ls L) (hD : va_D A (mm_ws E Ad M d)) (hS : va_S A s.heap H locs) (hA : ∀ q, s.heap.size ≤ q → A q) (hu : u + mu' ≤ mu) (hT : mm_hT p l e R s m args below meth c Qm nL D E Ad A mu hn Qr)
    (hr : vx_Run p l e R s m args below meth c H locs u (12 * u) mu' (12 * mu') (F0 m pc L st0) (rest.map (mm_cc Ad)) (mm_Qc D E Ad (va_A (mm_ws E Ad M d) H.size) Q aa) (mm_XC D E Ad (va_A (mm_ws E Ad M d) H.size) Q) (va_A (mm_ws E Ad M d) H.size))
    (hQ : ∀ o M' d', Q o M' d' → match o with
        | .inl r => Kn ls (mm_push r rest) M' d' (u + mu')
        | .inr k => match hn pc k with
          | none => Qr (.inr k) M' d'
          | some hpc => ∀ q : Nat, Kj hpc ls [mm_X q] M' d' (u + mu'))
    (kn : ∀ ls st M d u, Kn ls st M d u → mm_Z p l e R s m args below meth c Qm nL D E Ad A (pc + 3) ls st M d u) (kj : ∀ t ls st M d u, Kj t ls st M d u → mm_Z p l e R s m args below meth c Qm nL D E Ad A t ls st M d u) :
    W p l e R s m args below meth c H locs u (12 * u) Qm (F0 m pc L st0) := by
  have hf := mm_wsA hD hS hA
  intro T hTh X
  have e12 : 12 * u + 12 * mu' = 12 * (u + mu') := by omega
  rcases hr T hTh X with ⟨v, st₀, t, T', L1, h0, X', hL1, e1, e2, ⟨⟨r, M', d', hq, hv, hP1, hD1⟩, hF⟩, st⟩ | ⟨q, st₀, t, T', L1, En, ce, h0, X', hL1, e1, e2, ⟨⟨k, M', d', hq, rfl, hP1, hD1⟩, hF⟩, hce, hcv, hcl, st⟩
  · cases hv
    obtain ⟨k1, k2, k3⟩ := vx_keep h0 e1 hS (fun q _ h => hf q h) hf hL1 hF
    have h3 := kn _ _ _ _ _ (hQ _ _ _ hq) T'.heap (locs ++ L1) L hL (by rw [e1]; exact hP1) (hD1.weaken fun _ _ _ h => hf _ h) k3
    rw [e12] at X'
    obtain ⟨t2, a1, b1⟩ := h3 T' rfl X'
    refine ⟨t2, st t2 ?_, b1⟩
    have e3 : (r.map (mm_cc Ad)).toList ++ rest.map (mm_cc Ad) = (mm_push r rest).map (mm_cc Ad) := by cases r <;> rfl
    rw [e3]
    exact a1
  · obtain ⟨k1, k2, k3⟩ := vx_keep h0 e1 hS (fun q _ h => hf q h) hf hL1 hF
    have h2 := hQ _ _ _ hq
    rw [e12] at X'
    obtain ⟨t2, a1, b1⟩ := hT k pc ls M' d' (u + mu') T'.heap (locs ++ L1) L (rest.map (mm_cc Ad)) q ce (fun z => by simp only [z] at h2; exact h2) (fun hpc z => by simp only [z] at h2; exact kj _ _ _ _ _ _ (h2 q)) hL (by rw [e1]; exact hP1) (hD1.weaken fun _ _ _ h => hf _ h) k3 hu (by rw [e1]; exact hce) hcv hcl T' rfl X'
    exact ⟨t2, st.trans a1, b1⟩
theorem mm_preB {H : Heap} {locs : List Loc} {M : mm_M} {d : List Nat} {av : List Value} (hG : mm_G A D E Ad s) (hP : va_P D mm_cl (mm_ws E Ad M d) H) (hD : va_D A (mm_ws E Ad M d)) (hS : va_S A s.heap H locs) (hA : ∀ q, s.heap.size ≤ q → A q) :
    ∀ U : State, U.heap = H → s.WarmedH U.vm → va_Pc av (mm_B D E Ad H.size M d) av.toArray U := by
  intro U hU hW
  exact ⟨rfl, by rw [hU], by rw [hU]; exact hP, hD.weaken (fun _ _ _ _ => trivial), hG.to hW hU hS.2.1 (mm_wsA hD hS hA)⟩
theorem mz_call (X : mm_Cx p s m args c cc own nL Ts D E A) (hG : mm_G A D E Ad s) (hR : R.cells = mu ∧ R.slots = 12 * mu) (hPE : ∀ idx ca, C idx = some ca → mm_PE l own Ts R idx ca) (hT : mm_hT p l e R s m args below meth c Qm nL D E Ad A mu hn Qr)
    (how idx pc : Nat) (ls : mm_Ls) (st : List mm_V) (M : mm_M) (d : List Nat) (u : Nat) (Kn : mm_K) (Kj : Nat → mm_K) (hd : decode cc pc = .ok (mm_iv how idx, 3)) (h : mm_call C mu hn Qr how idx pc ls st M d u Kn Kj)
    (kn : ∀ ls st M d u, Kn ls st M d u → mm_Z p l e R s m args below meth c Qm nL D E Ad A (pc + 3) ls st M d u) (kj : ∀ t ls st M d u, Kj t ls st M d u → mm_Z p l e R s m args below meth c Qm nL D E Ad A t ls st M d u) : mm_Z p l e R s m args below meth c Qm nL D E Ad A pc ls st M d u := by
  unfold mm_call at h
  split at h
  · rename_i h' n rc sp mu' hc
    obtain ⟨rfl, hn', hrv, hcat, hu, hsp⟩ := h
    rcases hPE idx _ hc with ⟨rfl, hsem⟩ | ⟨y, b, maxL, ret, hh, fr, lo, T, N, hM, hcode, hini, hnmh, hfr, hlo, hlink, hTs, hkind⟩
    · exact hsem X hG ⟨Nat.le_of_eq hR.1.symm, Nat.le_of_eq hR.2.symm⟩ (Nat.le_refl _) (Nat.le_refl _) pc ls st M d u (Kn) (fun k M' d' => match hn pc k with
        | none => Qr (.inr k) M' d'
        | some hpc => ∀ q : Nat, Kj hpc ls [mm_X q] M' d' (u + mu')) hd hn' hrv hcat hu hsp kn
    dsimp only at hM hkind
    intro H locs L hL hP hD hS
    have hS' : CallFix p m c cc nL s args Ts own := ⟨X.1, X.2.1, X.2.2.1, X.2.2.2.1, X.2.2.2.2.1⟩
    have hMy := hM D E Ad H.size _ M d _ hsp
    have hws := pay_in X.2.2.2.2.1 (mm_goodIn hcode hTs)
    have hA := X.2.2.2.2.2.2.1
    have hroom : u + mu' ≤ R.cells ∧ 12 * u + 12 * mu' ≤ R.slots := ⟨by rw [hR.1]; exact hu, by rw [hR.2]; omega⟩
    have hcat' : 2 * (F0 m pc L (st.map (mm_cc Ad))).monitorRoom + (((st.drop n).map (mm_cc Ad)).map fun v => v.category).sum ≤ 8 := lv_room (by rw [mm_catsum]; exact hcat)
    rcases hkind with ⟨rfl, rfl, hins, hsel, h10, hcl, hpar⟩ | ⟨rfl, hst, hpar⟩
    · have hn1 : 1 ≤ n := by
        cases hz : parseMethodDescriptor y.desc with
        | none => rw [hz] at hpar; simp at hpar
        | some z => rw [hz] at hpar; simp at hpar; omega
      obtain ⟨rc', rfl⟩ : ∃ k, rc = k + 1 := ⟨rc - 1, by omega⟩
      rw [mm_rv_old (by omega)] at hrv
      split at hrv
      · rename_i o ho
        obtain ⟨ini, hst, htk, hil⟩ := mm_split st n hn1 ho
        have hargs : (st.take n).reverse = mm_R o :: ini.reverse := by rw [htk]; simp
        rw [hargs] at hMy
        obtain ⟨q0, hq, hw⟩ := mm_idx (E := E) (Ad := Ad) (M := M) hrv.2
        rw [mm_el_obj hrv.1 h10] at hw
        have hne := mm_is0 hrv
        rw [List.map_cons, mm_ref hne] at hMy
        have hlen : ∀ sig, parseMethodDescriptor y.desc = some sig → n - 1 = sig.parameters.length := by
          intro sig hsig
          rw [hsig] at hpar
          simp at hpar
          omega
        have hstack : st.map (mm_cc Ad) = ((ini.reverse).map (mm_cc Ad)).reverse ++ .ref (mm_ad Ad o) :: (st.drop n).map (mm_cc Ad) := by
          conv => lhs; rw [hst]
          rw [List.map_append, List.map_cons, mm_ref hne, List.map_reverse, List.reverse_reverse]
        have hpre : PreV s H y.cls (mm_ad Ad o) (va_Pc (.ref (mm_ad Ad o) :: (ini.reverse).map (mm_cc Ad)) (mm_B D E Ad H.size M d)) ((ini.reverse).map (mm_cc Ad)) := ⟨mm_blind, va_recv X.2.2.2.2.2.1 hP hcl hw, mm_preB hG hP hD hS hA⟩
        rcases hlink with hlink | ⟨-, host, hlink⟩
        · have cw : CallW R s args own y.cls idx y b maxL ret (mm_cw y b maxL ret [] :: mm_T) (mm_rm fr lo mu') mu' (12 * mu') (n - 1) :=
            ⟨⟨rfl, rfl, hfr, hlo, hws, List.mem_cons_self, X.2.2.2.2.1 _ (hTs _ hcode), X.2.2.2.2.1 _ hini, hnmh, hlen, X.2.2.2.2.1 _ hlink⟩, X.2.2.2.2.1 _ hins, X.2.2.2.2.1 _ hsel⟩
          exact mm_after hL hD hS hA hu hT (vx_runV hS' hMy cw hpre rfl (by simp; omega) hL.1 hstack hcat' hd hroom) (fun o M' d' hq => hq) kn kj
        · have cw : va_CN R s args own idx y host b maxL ret (mm_cw y b maxL ret [] :: mm_T) (mm_rm fr lo mu') mu' (12 * mu') (n - 1) ∧ (Jvm.Cond.instanceMethod y).before args s = true ∧ (Jvm.Cond.selects y.cls y y).before args s = true :=
            ⟨⟨⟨rfl, rfl, hfr, hlo, hws, List.mem_cons_self⟩, X.2.2.2.2.1 _ (hTs _ hcode), X.2.2.2.2.1 _ hini, hnmh, hlen, X.2.2.2.2.1 _ hlink⟩, X.2.2.2.2.1 _ hins, X.2.2.2.2.1 _ hsel⟩
          exact mm_after hL hD hS hA hu hT (vx_runVN hS' hMy cw hpre rfl (by simp; omega) hL.1 hstack hcat' hd hroom) (fun o M' d' hq => hq) kn kj
      · exact hrv.elim
    · have hlen : ∀ sig, parseMethodDescriptor y.desc = some sig → n = sig.parameters.length := by
        intro sig hsig
        rw [hsig] at hpar
        simp at hpar
        omega
      have hlenA : ((st.take n).reverse.map (mm_cc Ad)).length = n := by simp; omega
      have hstack : st.map (mm_cc Ad) = ((st.take n).reverse.map (mm_cc Ad)).reverse ++ (st.drop n).map (mm_cc Ad) := by
        rw [← List.map_reverse, List.reverse_reverse, ← List.map_append, List.take_append_drop]
      have hpre : PreS s H (va_Pc ((st.take n).reverse.map (mm_cc Ad)) (mm_B D E Ad H.size M d)) ((st.take n).reverse.map (mm_cc Ad)) := ⟨mm_blind, mm_preB hG hP hD hS hA⟩
      by_cases hhe : hh = []
      · subst hhe
        rcases hlink with hlink | ⟨-, host, hlink⟩
        · have cw : CallB R s args own idx y b maxL ret (mm_cw y b maxL ret [] :: mm_T) (mm_rm fr lo mu') mu' (12 * mu') n ∧ (Jvm.Cond.static y).before args s = true :=
            ⟨⟨rfl, rfl, hfr, hlo, hws, List.mem_cons_self, X.2.2.2.2.1 _ (hTs _ hcode), X.2.2.2.2.1 _ hini, hnmh, hlen, X.2.2.2.2.1 _ hlink⟩, X.2.2.2.2.1 _ hst⟩
          exact mm_after hL hD hS hA hu hT (vx_runS hS' hMy cw hpre rfl hlenA hL.1 hstack hcat' hd hroom) (fun o M' d' hq => hq) kn kj
        · have cw : va_CN R s args own idx y host b maxL ret (mm_cw y b maxL ret [] :: mm_T) (mm_rm fr lo mu') mu' (12 * mu') n ∧ (Jvm.Cond.static y).before args s = true ∧ True :=
            ⟨⟨⟨rfl, rfl, hfr, hlo, hws, List.mem_cons_self⟩, X.2.2.2.2.1 _ (hTs _ hcode), X.2.2.2.2.1 _ hini, hnmh, hlen, X.2.2.2.2.1 _ hlink⟩, X.2.2.2.2.1 _ hst, trivial⟩
          exact mm_after hL hD hS hA hu hT (vx_runSN hS' hMy cw hpre rfl hlenA hL.1 hstack hcat' hd hroom) (fun o M' d' hq => hq) kn kj
      · obtain ⟨h1, hr, rfl⟩ : ∃ h1 hr, hh = h1 :: hr := by
          cases hh with
          | nil => exact absurd rfl hhe
          | cons a b => exact ⟨a, b, rfl⟩
        rcases hlink with hlink | ⟨z, -⟩
        · have cw : vx_CSW R s args own idx y b maxL ret (h1 :: hr) (mm_cw y b maxL ret (h1 :: hr) :: mm_T) (mm_rm fr lo mu') mu' (12 * mu') n :=
            ⟨⟨rfl, rfl, hfr, hlo, hws, List.mem_cons_self⟩, X.2.2.2.2.1 _ (hTs _ hcode), X.2.2.2.2.1 _ hini, hnmh, hlen, X.2.2.2.2.1 _ hlink, X.2.2.2.2.1 _ hst⟩
          exact mm_after hL hD hS hA hu hT (vx_runSX hS' hMy cw hpre rfl hlenA hL.1 hstack hcat' hd hroom) (fun o M' d' hq => hq) kn kj
        · cases z
  · exact h.elim
end MC
