/-! the law's own frame: its steps, its switch, its end -/
section MC
variable {p : Program} {l : Launch} {e : Env} {R : Room} {s : State} {m : MethodId} {args : Array Value} {below : List Frame} {meth : Method} {c : Code} {Qm : State → Prop}
variable {cc : ByteArray} {own : String} {nL : Nat} {Ts : List Jvm.Cond} {D : va_G} {E : mm_En} {Ad : Nat → Nat} {A : Nat → Prop}
variable {C : Nat → Option mm_Ca} {rt mu : Nat} {hn : Nat → Nat → Option Nat} {Qr : mm_Q}
theorem mz_callR (X : mm_Cx p s m args c cc own nL Ts D E A) (hG : mm_G A D E Ad s) (hR : mu ≤ R.cells ∧ 12 * mu ≤ R.slots) (hPE : ∀ idx ca, C idx = some ca → mm_PE l own Ts R idx ca) (hT : mm_hT p l e R s m args below meth c Qm nL D E Ad A mu hn Qr)
    (how idx pc : Nat) (ls : mm_Ls) (st : List mm_V) (M : mm_M) (d : List Nat) (u : Nat) (Kn : mm_K) (Kj : Nat → mm_K) (hd : decode cc pc = .ok (mm_iv how idx, 3)) (h : mm_call C mu hn Qr how idx pc ls st M d u Kn Kj)
    (kn : ∀ ls st M d u, Kn ls st M d u → mm_Z p l e R s m args below meth c Qm nL D E Ad A (pc + 3) ls st M d u) (kj : ∀ t ls st M d u, Kj t ls st M d u → mm_Z p l e R s m args below meth c Qm nL D E Ad A t ls st M d u) : mm_Z p l e R s m args below meth c Qm nL D E Ad A pc ls st M d u := by
  unfold mm_call at h
  split at h
  · rename_i h' n rc sp mu' hc
    obtain ⟨rfl, hn', hrv, hcat, hu, hsp⟩ := h
    rcases hPE idx _ hc with ⟨rfl, hsem⟩ | ⟨y, b, maxL, ret, hh, fr, lo, T, N, hM, hcode, hini, hnmh, hfr, hlo, hlink, hTs, hkind⟩
    · exact hsem X hG hR (Nat.le_refl _) (Nat.le_refl _) pc ls st M d u (Kn) (fun k M' d' => match hn pc k with
        | none => Qr (.inr k) M' d'
        | some hpc => ∀ q : Nat, Kj hpc ls [mm_X q] M' d' (u + mu')) hd hn' hrv hcat hu hsp kn
    dsimp only at hM hkind
    intro H locs L hL hP hD hS
    have hS' : CallFix p m c cc nL s args Ts own := ⟨X.1, X.2.1, X.2.2.1, X.2.2.2.1, X.2.2.2.2.1⟩
    have hMy := hM D E Ad H.size _ M d _ hsp
    have hws := pay_in X.2.2.2.2.1 (mm_goodIn hcode hTs)
    have hA := X.2.2.2.2.2.2.1
    have hroom : u + mu' ≤ R.cells ∧ 12 * u + 12 * mu' ≤ R.slots := ⟨Nat.le_trans hu hR.1, Nat.le_trans (by omega) hR.2⟩
    have hcat' : 2 * (F0 m pc L (st.map (mm_cc Ad))).monitorRoom + (((st.drop n).map (mm_cc Ad)).map fun v => v.category).sum ≤ 8 := lv_room (by rw [mm_catsum]; exact hcat)
    rcases hkind with ⟨rfl, rfl, hins, hsel, h10, hcl, hpar⟩ | ⟨rfl, hst, hpar⟩
    · have hn1 : 1 ≤ n := by
        cases hz : parseMethodDescriptor y.desc with
        | none => rw [hz] at hpar; simp at hpar
        | some z => rw [hz] at hpar; simp at hpar; omega
      obtain ⟨rc', rfl⟩ : ∃ k, rc = k + 1 := ⟨rc - 1, by omega⟩
      rw [mm_rv_old (by omega)] at hrv
      split at hrv
      · rename_i o ho
        obtain ⟨ini, hst, htk, hil⟩ := mm_split st n hn1 ho
        have hargs : (st.take n).reverse = mm_R o :: ini.reverse := by rw [htk]; simp
        rw [hargs] at hMy
        obtain ⟨q0, hq, hw⟩ := mm_idx (E := E) (Ad := Ad) (M := M) hrv.2
        rw [mm_el_obj hrv.1 h10] at hw
        have hne := mm_is0 hrv
        rw [List.map_cons, mm_ref hne] at hMy
        have hlen : ∀ sig, parseMethodDescriptor y.desc = some sig → n - 1 = sig.parameters.length := by
          intro sig hsig
          rw [hsig] at hpar
          simp at hpar
          omega
        have hstack : st.map (mm_cc Ad) = ((ini.reverse).map (mm_cc Ad)).reverse ++ .ref (mm_ad Ad o) :: (st.drop n).map (mm_cc Ad) := by
          conv => lhs; rw [hst]
          rw [List.map_append, List.map_cons, mm_ref hne, List.map_reverse, List.reverse_reverse]
        have hpre : PreV s H y.cls (mm_ad Ad o) (va_Pc (.ref (mm_ad Ad o) :: (ini.reverse).map (mm_cc Ad)) (mm_B D E Ad H.size M d)) ((ini.reverse).map (mm_cc Ad)) := ⟨mm_blind, va_recv X.2.2.2.2.2.1 hP hcl hw, mm_preB hG hP hD hS hA⟩
        rcases hlink with hlink | ⟨-, host, hlink⟩
        · have cw : CallW R s args own y.cls idx y b maxL ret (mm_cw y b maxL ret [] :: mm_T) (mm_rm fr lo mu') mu' (12 * mu') (n - 1) :=
            ⟨⟨rfl, rfl, hfr, hlo, hws, List.mem_cons_self, X.2.2.2.2.1 _ (hTs _ hcode), X.2.2.2.2.1 _ hini, hnmh, hlen, X.2.2.2.2.1 _ hlink⟩, X.2.2.2.2.1 _ hins, X.2.2.2.2.1 _ hsel⟩
          exact mm_after hL hD hS hA hu hT (vx_runV hS' hMy cw hpre rfl (by simp; omega) hL.1 hstack hcat' hd hroom) (fun o M' d' hq => hq) kn kj
        · have cw : va_CN R s args own idx y host b maxL ret (mm_cw y b maxL ret [] :: mm_T) (mm_rm fr lo mu') mu' (12 * mu') (n - 1) ∧ (Jvm.Cond.instanceMethod y).before args s = true ∧ (Jvm.Cond.selects y.cls y y).before args s = true :=
            ⟨⟨⟨rfl, rfl, hfr, hlo, hws, List.mem_cons_self⟩, X.2.2.2.2.1 _ (hTs _ hcode), X.2.2.2.2.1 _ hini, hnmh, hlen, X.2.2.2.2.1 _ hlink⟩, X.2.2.2.2.1 _ hins, X.2.2.2.2.1 _ hsel⟩
          exact mm_after hL hD hS hA hu hT (vx_runVN hS' hMy cw hpre rfl (by simp; omega) hL.1 hstack hcat' hd hroom) (fun o M' d' hq => hq) kn kj
      · exact hrv.elim
    · have hlen : ∀ sig, parseMethodDescriptor y.desc = some sig → n = sig.parameters.length := by
        intro sig hsig
        rw [hsig] at hpar
        simp at hpar
        omega
      have hlenA : ((st.take n).reverse.map (mm_cc Ad)).length = n := by simp; omega
      have hstack : st.map (mm_cc Ad) = ((st.take n).reverse.map (mm_cc Ad)).reverse ++ (st.drop n).map (mm_cc Ad) := by
        rw [← List.map_reverse, List.reverse_reverse, ← List.map_append, List.take_append_drop]
      have hpre : PreS s H (va_Pc ((st.take n).reverse.map (mm_cc Ad)) (mm_B D E Ad H.size M d)) ((st.take n).reverse.map (mm_cc Ad)) := ⟨mm_blind, mm_preB hG hP hD hS hA⟩
      by_cases hhe : hh = []
      · subst hhe
        rcases hlink with hlink | ⟨-, host, hlink⟩
        · have cw : CallB R s args own idx y b maxL ret (mm_cw y b maxL ret [] :: mm_T) (mm_rm fr lo mu') mu' (12 * mu') n ∧ (Jvm.Cond.static y).before args s = true :=
            ⟨⟨rfl, rfl, hfr, hlo, hws, List.mem_cons_self, X.2.2.2.2.1 _ (hTs _ hcode), X.2.2.2.2.1 _ hini, hnmh, hlen, X.2.2.2.2.1 _ hlink⟩, X.2.2.2.2.1 _ hst⟩
          exact mm_after hL hD hS hA hu hT (vx_runS hS' hMy cw hpre rfl hlenA hL.1 hstack hcat' hd hroom) (fun o M' d' hq => hq) kn kj
        · have cw : va_CN R s args own idx y host b maxL ret (mm_cw y b maxL ret [] :: mm_T) (mm_rm fr lo mu') mu' (12 * mu') n ∧ (Jvm.Cond.static y).before args s = true ∧ True :=
            ⟨⟨⟨rfl, rfl, hfr, hlo, hws, List.mem_cons_self⟩, X.2.2.2.2.1 _ (hTs _ hcode), X.2.2.2.2.1 _ hini, hnmh, hlen, X.2.2.2.2.1 _ hlink⟩, X.2.2.2.2.1 _ hst, trivial⟩
          exact mm_after hL hD hS hA hu hT (vx_runSN hS' hMy cw hpre rfl hlenA hL.1 hstack hcat' hd hroom) (fun o M' d' hq => hq) kn kj
      · obtain ⟨h1, hr, rfl⟩ : ∃ h1 hr, hh = h1 :: hr := by
          cases hh with
          | nil => exact absurd rfl hhe
          | cons a b => exact ⟨a, b, rfl⟩
        rcases hlink with hlink | ⟨z, -⟩
        · have cw : vx_CSW R s args own idx y b maxL ret (h1 :: hr) (mm_cw y b maxL ret (h1 :: hr) :: mm_T) (mm_rm fr lo mu') mu' (12 * mu') n :=
            ⟨⟨rfl, rfl, hfr, hlo, hws, List.mem_cons_self⟩, X.2.2.2.2.1 _ (hTs _ hcode), X.2.2.2.2.1 _ hini, hnmh, hlen, X.2.2.2.2.1 _ hlink, X.2.2.2.2.1 _ hst⟩
          exact mm_after hL hD hS hA hu hT (vx_runSX hS' hMy cw hpre rfl hlenA hL.1 hstack hcat' hd hroom) (fun o M' d' hq => hq) kn kj
        · cases z
  · exact h.elim
end MC
theorem mm_PE_room {l : Launch} {idx : Nat} {ca : mm_Ca} (h : mm_PE l RL mm_U (mm_rm 2048 84000 0) idx ca) : mm_PE l RL mm_U room_1 idx ca := h
def mm_AL (s : State) : Nat → Prop := fun q => s.heap.size ≤ q
section LW
variable {p : Program} {l : Launch} {e : Env} {s : State} {m : MethodId} {below : List Frame} {meth : Method} {c : Code} {D : va_G} {E : mm_En} {Ad : Nat → Nat} {b : Nat}
abbrev mm_ZL (p : Program) (l : Launch) (e : Env) (s : State) (m : MethodId) (below : List Frame) (meth : Method) (c : Code) (D : va_G) (E : mm_En) (Ad : Nat → Nat) (b : Nat) : Nat → mm_K := mm_Z p l e room_1 s m #[Value.ref b] below meth c (lw_Z below #[Value.ref b] s) 7 D E Ad (mm_AL s)
theorem mm_CZ_law {SC : Nat → Option (Nat × (Nat → Int32))} (X : mm_Cx p s m #[Value.ref b] c code RL 7 mm_U D E (mm_AL s)) (hG : mm_G (mm_AL s) D E Ad s) (hSX : mm_SX s (mm_AL s) SC) : mm_CZ l SC 600000 (mm_ZL p l e s m below meth c D E Ad b) := by
  intro cd ct hk hPE pc i t rest ls st M d u Kn Kj hat hop kn kj
  obtain ⟨pre, hpre⟩ := mm_at_suf pc cd
  have hk' : mm_chk code ((pc, i, t) :: rest) = true := by
    rw [hpre, hat] at hk
    exact mm_chk_app pre _ hk
  refine mm_sound X (F := mm_look flL) (C := mm_look ct) (X0 := mm_x0) (LC := mm_look ([] : List (Nat × Int))) (SC := SC) (rt := 0) (mu := 600000) (hn := fun _ _ => none) (Qr := mm_QF) ⟨fun k rc n e => Or.inl ⟨flL90 _ (mm_look_mem flL e), flkL (k, rc, n) (mm_look_mem flL e)⟩, fun k x e => nomatch e⟩ hSX ⟨hG.2.2.2.2.2.2.2, hG.2.2.2.2.1 _ (by simp [mm_nw]), ⟨⟨Nat.le_of_ble_eq_true rfl, Nat.le_of_ble_eq_true rfl⟩, Nat.le_of_ble_eq_true rfl, Nat.le_of_ble_eq_true rfl⟩, mm_T_U _ mm_T_ab, fun k rc e => absurd (flL90 _ (mm_look_mem flL e)) (by simp)⟩ ?_ ?_ ?_ hk' hop kn kj
  · refine mz_callR X hG ⟨Nat.le_of_ble_eq_true rfl, Nat.le_of_ble_eq_true rfl⟩ (fun idx ca e => mm_PE_room (mm_PEs_look ct hPE e)) ?_
    intro k pc ls M d u H locs L rest q ce h1 _ _ _ _ _ _ _ _ _
    exact (h1 rfl).elim
  · intro idx pc rest ls st M d u _ _ _ h9
    exfalso
    revert h9
    unfold mm_thr
    split
    · exact fun h => h
    · exact fun h => h
  · intro i pc ls st M d u _ h9
    exfalso
    revert h9
    unfold mm_ret
    split
    · exact fun h => h.2.2
    · exact fun h => h
end LW

