/-! the system's methods that texts are made by: they never throw; a text's content is not looked at -/
/-- a JDK method's call table, entry by entry -/
def mm_PJs (l : Launch) (own : String) (fr lo : Nat) : List (Nat × mm_Ca) → Prop
  | [] => True
  | q :: r => mm_sem l own fr lo q.1 q.2 ∧ mm_PJs l own fr lo r
theorem mm_PJs_look {l : Launch} {own : String} {fr lo idx : Nat} {ca : mm_Ca} : ∀ t : List (Nat × mm_Ca), mm_PJs l own fr lo t → mm_look t idx = some ca → mm_sem l own fr lo idx ca
  | [], _, h => by simp [mm_look] at h
  | q :: r, hp, h => by
    simp only [mm_look] at h
    cases e : q.1 == idx
    · rw [e] at h
      exact mm_PJs_look r hp.2 h
    · rw [e] at h
      have e1 := eq_of_beq e
      simp only [cond_true, Option.some.injEq] at h
      rw [← e1, ← h]
      exact hp.1
theorem mm_mtJ {l : Launch} {y : MethodName} {b : ByteArray} {maxL : Nat} {ret : Option FieldType} {fr lo mu rt : Nat} {own : String} {sp : mm_S} {cd : List mm_E} {fl : List (Nat × Nat × Nat)} {ct : List (Nat × mm_Ca)}
    (h : mm_RN fl ct mm_x0 [] rt mu maxL cd sp) (hy : plainFor y = true ∧ y.cls = own) (hk : mm_chk b cd = true) (hrt : mm_rtOK rt ret = true) (hfl : 5 < fr ∧ 82 ≤ lo)
    (hf : ∀ q ∈ fl, mm_lj own mm_U q.2.1 q.2.2 q.1) (hPE : mm_PJs l own fr lo ct) (h91 : ∀ q ∈ fl, q.2.2 = 91 → y.name = "<init>") : mm_Jet l y b maxL ret fr lo mu sp :=
  mm_methJ (F := mm_look fl) (C := mm_look ct) (LC := mm_look ([] : List (Nat × Int))) hy.1 hy.2 hk hrt hfl.1 hfl.2 ⟨fun k rc n e => hf (k, rc, n) (mm_look_mem fl e), fun k x e => nomatch e⟩ (fun idx ca e => mm_PJs_look ct hPE e) (fun k rc e => h91 (k, rc, 91) (mm_look_mem fl e) rfl) (fun av M d Q hs => h av M d Q hs)
theorem mm_mtX {l : Launch} {y : MethodName} {b : ByteArray} {maxL : Nat} {ret : Option FieldType} {fr lo mu rt : Nat} {own : String} {sp : mm_S} {cd : List mm_E} {fl : List (Nat × Nat × Nat)} {ct : List (Nat × mm_Ca)} {xt : Nat → Nat → Nat → Option Nat} {lc : List (Nat × Int)}
    (hl : l.stackTraces = false) (h : mm_RN fl ct xt lc rt mu maxL cd sp) (hy : plainName y.cls = true ∧ y.cls = own) (hk : mm_chk b cd = true) (hrt : mm_rtOK rt ret = true) (hfl : 5 < fr ∧ 82 ≤ lo)
    (hf : ∀ q ∈ fl, mm_lj own mm_U q.2.1 q.2.2 q.1) (hlc : ∀ q ∈ lc, Jvm.Cond.constantLong own q.1 (Int64.ofInt q.2) ∈ mm_U) (hPE : mm_PEs l own (mm_rm fr lo mu) ct) (hXE : ∀ idx is ic k, xt idx is ic = some k → mm_XE own mm_U idx is ic k) (hn9 : ∀ q ∈ fl, q.2.2 ≠ 91) : mm_Met l y b maxL ret [] fr lo mu sp :=
  mm_meth (F := mm_look fl) (C := mm_look ct) (X0 := xt) (LC := mm_look lc) hl hy.1 hy.2 hk hrt hfl.1 hfl.2 ⟨fun k rc n e => hf (k, rc, n) (mm_look_mem fl e), fun k x e => hlc (k, x) (mm_look_mem lc e)⟩ (fun idx ca e => mm_PEs_look ct hPE e) hXE (fun k rc e => hn9 _ (mm_look_mem fl e) rfl) (fun av M d Q hs => h av M d Q hs)
/-- what was there before stays: the base -/
def bX (M0 : mm_M) (d0 : List Nat) (M : mm_M) (d : List Nat) : Prop := (∃ d1, d = d0 ++ d1) ∧ ∀ o, o ∈ mm_ids d0 → o ≠ 0 → M o = M0 o ∧ mm_kd M o = mm_kd M0 o ∧ mm_ln M o = mm_ln M0 o
/-- a new object of kind k -/
def bO (d0 : List Nat) (M : mm_M) (d : List Nat) (o k : Nat) : Prop := mm_is M d o k ∧ 100 ≤ o ∧ o ∉ d0
theorem bX.rf {M : mm_M} {d : List Nat} : bX M d M d := ⟨⟨[], by simp⟩, fun _ _ _ => ⟨rfl, rfl, rfl⟩⟩
theorem mm_ids_new {d : List Nat} {o : Nat} (ho : 100 ≤ o) (hd : o ∉ d) : o ∉ mm_ids d := by
  intro h
  rcases List.mem_append.mp h with h | h
  · simp only [mm_st, List.mem_cons, List.not_mem_nil, or_false] at h
    omega
  · exact hd h
theorem bX.same {M0 M M' : mm_M} {d0 d : List Nat} {o : Nat} (h : bX M0 d0 M d) (ho : 100 ≤ o ∧ o ∉ d0) (e : ∀ x, x ≠ o → M' x = M x) : bX M0 d0 M' d := by
  refine ⟨h.1, fun x hx h0 => ?_⟩
  have hxo : x ≠ o := fun q => mm_ids_new ho.1 ho.2 (q ▸ hx)
  have ek := mm_kd_up (M := M) (M' := M') (o' := x) (by omega) e
  rw [e x hxo, ek.1, ek.2]
  exact h.2 x hx h0
theorem bO.same {d0 d : List Nat} {M M' : mm_M} {x k o : Nat} (h : bO d0 M d x k) (ho : 100 ≤ o) (e : ∀ x, x ≠ o → M' x = M x) : bO d0 M' d x k := by
  have ek := mm_kd_up (M := M) (M' := M') (o' := x) (by omega) e
  exact ⟨⟨by rw [ek.1]; exact h.1.1, h.1.2⟩, h.2⟩
theorem bX.new {M0 M : mm_M} {d0 d : List Nat} {o k : Nat} {n : Int} (h : bX M0 d0 M d) (ho : 100 ≤ o) (hd : o ∉ d) : bX M0 d0 (mm_nob M o k n) (d ++ [o]) := by
  obtain ⟨⟨d1, rfl⟩, h2⟩ := h
  refine ⟨⟨d1 ++ [o], by simp⟩, fun x hx h0 => ?_⟩
  have hxo : x ≠ o := fun q => mm_ids_new ho (fun z => hd (List.mem_append_left _ z)) (q ▸ hx)
  have ek := mm_nob_kd2 (M := M) (k := k) (n := n) ho hxo
  rw [mm_nob_o hxo h0, ek.1, ek.2]
  exact h2 x hx h0
theorem bO.new {d0 d : List Nat} {M : mm_M} {x k o k' : Nat} {n : Int} (h : bO d0 M d x k) (ho : 100 ≤ o) (hd : o ∉ d) : bO d0 (mm_nob M o k' n) (d ++ [o]) x k := by
  have hxo : x ≠ o := fun q => mm_ids_new ho hd (q ▸ h.1.2)
  have ek := mm_nob_kd2 (M := M) (k := k') (n := n) ho hxo
  refine ⟨⟨by rw [ek.1]; exact h.1.1, ?_⟩, h.2⟩
  rcases List.mem_append.mp h.1.2 with z | z
  · exact List.mem_append_left _ z
  · exact List.mem_append_right _ (List.mem_append_left _ z)
theorem bO.mk' {M0 M : mm_M} {d0 d : List Nat} {o k : Nat} {n : Int} (h : bX M0 d0 M d) (ho : 100 ≤ o) (hd : o ∉ d) (hn : 0 ≤ n) : bO d0 (mm_nob M o k n) (d ++ [o]) o k := by
  obtain ⟨⟨d1, rfl⟩, h2⟩ := h
  exact ⟨⟨(mm_nob_kd ho hn).1, List.mem_append_right _ (List.mem_append_right _ (by simp))⟩, ho, fun z => hd (List.mem_append_left _ z)⟩
/-- a text under way: b holds n letters, and has room for q at least -/
def sC (M0 : mm_M) (d0 : List Nat) (M : mm_M) (d : List Nat) (b : Nat) (n q : Int) : Prop := bX M0 d0 M d ∧ bO d0 M d b 16 ∧ M b 1 = 0 ∧ M b 3 = n ∧ 0 ≤ n ∧ ∃ a : Nat, M b 0 = (a : Int) ∧ bO d0 M d a 3 ∧ n ≤ (mm_ln M a : Int) ∧ q ≤ (mm_ln M a : Int) ∧ mm_ln M a ≤ 220
theorem sC.w {M0 M : mm_M} {d0 d : List Nat} {b : Nat} {n q q' : Int} (h : sC M0 d0 M d b n q) (hq : q' ≤ q) : sC M0 d0 M d b n q' := by
  obtain ⟨h1, h2, h3, h4, h5, a, h6, h7, h8, h9, h10⟩ := h
  exact ⟨h1, h2, h3, h4, h5, a, h6, h7, h8, by omega, h10⟩
theorem bO.ne {d0 d : List Nat} {M : mm_M} {x y k k' : Nat} (h : bO d0 M d x k) (h' : bO d0 M d y k') (hk : k ≠ k') : x ≠ y := by
  intro e
  subst e
  exact hk (h.1.1.symm.trans h'.1.1)
theorem sC.row {M0 M M' : mm_M} {d0 d : List Nat} {b a : Nat} {n q : Int} (h : sC M0 d0 M d b n q) (ha : M b 0 = (a : Int)) (e : ∀ x, x ≠ a → M' x = M x) : sC M0 d0 M' d b n q := by
  obtain ⟨h1, h2, h3, h4, h5, a', h6, h7, h8, h9, h10⟩ := h
  have : a' = a := by omega
  subst this
  have hne := h2.ne h7 (by decide)
  have ek := mm_kd_up (M := M) (M' := M') (o' := a') (by have := h7.2.1; omega) e
  refine ⟨h1.same h7.2 e, h2.same h7.2.1 e, by rw [e b hne]; exact h3, by rw [e b hne]; exact h4, h5, a', by rw [e b hne]; exact h6, h7.same h7.2.1 e, ?_⟩
  rw [ek.2]
  exact ⟨h8, h9, h10⟩
theorem sC.cnt {M0 M : mm_M} {d0 d : List Nat} {b : Nat} {n q n' : Int} (h : sC M0 d0 M d b n q) (h0 : 0 ≤ n' ∧ n' ≤ q) : sC M0 d0 (mm_up M b 3 n') d b n' q := by
  obtain ⟨h1, h2, h3, h4, h5, a, h6, h7, h8, h9, h10⟩ := h
  have e : ∀ x, x ≠ b → mm_up M b 3 n' x = M x := mm_up_o
  have ek := mm_kd_up (M := M) (M' := mm_up M b 3 n') (o' := a) (by have := h2.2.1; omega) e
  refine ⟨h1.same h2.2 e, h2.same h2.2.1 e, by simpa [mm_up] using h3, by simp [mm_up], h0.1, a, by simpa [mm_up] using h6, h7.same h2.2.1 e, ?_⟩
  rw [ek.2]
  exact ⟨by omega, h9, h10⟩
theorem sC.set {M0 M : mm_M} {d0 d : List Nat} {b o : Nat} {n q : Int} (h1 : bX M0 d0 M d) (h2 : bO d0 M d b 16) (h3 : M b 1 = 0) (h4 : M b 3 = n) (h5 : 0 ≤ n) (h7 : bO d0 M d o 3) (h8 : n ≤ (mm_ln M o : Int) ∧ q ≤ (mm_ln M o : Int) ∧ mm_ln M o ≤ 220) : sC M0 d0 (mm_up M b 0 (o : Int)) d b n q := by
  have e : ∀ x, x ≠ b → mm_up M b 0 (o : Int) x = M x := mm_up_o
  have ek := mm_kd_up (M := M) (M' := mm_up M b 0 (o : Int)) (o' := o) (by have := h2.2.1; omega) e
  refine ⟨h1.same h2.2 e, h2.same h2.2.1 e, by simpa [mm_up] using h3, by simpa [mm_up] using h4, h5, o, by simp [mm_up], h7.same h2.2.1 e, ?_⟩
  rw [ek.2]
  exact h8
theorem mm_up_any {M : mm_M} {a i : Nat} {x : Int} : mm_up M a i x = mm_any M a (fun k => if k = i then x else M a k) := by
  funext y k
  by_cases hy : y = a
  · subst hy
    by_cases hk : k = i <;> simp [mm_up, mm_any, hk]
  · simp [mm_up, mm_any, hy]
theorem mm_any_any {M : mm_M} {a : Nat} {h h' : Nat → Int} : mm_any (mm_any M a h) a h' = mm_any M a h' := by
  funext y k
  by_cases hy : y = a <;> simp [mm_any, hy]
theorem mm_i28 {st : List mm_V} {n : Nat} {M : mm_M} {d : List Nat} : True := trivial
def sp_J_max : mm_S := fun av M d Q => match av with
  | [.inl a, .inl b] => InI a ∧ InI b ∧ ∀ r, (b ≤ a → r = a) ∧ (a < b → r = b) → Q (.inl (some (mm_I r))) M d
  | _ => False
def sp_J_min : mm_S := fun av M d Q => match av with
  | [.inl a, .inl b] => InI a ∧ InI b ∧ ∀ r, (a ≤ b → r = a) ∧ (b < a → r = b) → Q (.inl (some (mm_I r))) M d
  | _ => False
theorem mm_semMax {l : Launch} {own : String} {idx FR LO : Nat} (hl : Jvm.Cond.methodLink own idx Lib.Math.max.name ∈ mm_T) (hs : Jvm.Cond.static Lib.Math.max.name ∈ mm_T) (hi : Jvm.Cond.initialized "java/lang/Math" ∈ mm_T) (hc : Jvm.Cond.code Lib.Math.max.name Lib.Math.max.code 2 (some .int) ∈ mm_T) (h1 : 1 ≤ FR) (h2 : 21 ≤ LO) : mm_sem l own FR LO idx (1, 2, 0, sp_J_max, 0) := by
  intro p e R s m args below meth c Qm cc nL D E Ad A MU X hG hR hRf hRl pc ls st M d u Kn QX hd hn hrv hcat hu hsp kn H locs L hL hP hD hS
  have ww : ∀ w ∈ mm_T, w.before args s = true := fun w h => X.2.2.2.2.1 _ (mm_T_U _ h)
  dsimp only at hsp hd hn hcat hu
  match st, hn, hsp, hcat with
  | v :: w :: r, _, hsp, hcat =>
    simp only [List.take_succ_cons, List.take_zero, List.reverse_cons, List.reverse_nil, List.nil_append, List.cons_append, List.drop_succ_cons, List.drop_zero] at hsp hcat
    unfold sp_J_max at hsp
    split at hsp
    · rename_i a b heq
      cases heq
      obtain ⟨ha, hb, hq⟩ := hsp
      refine va_mmax (x := Int32.ofInt a) (y := Int32.ofInt b) X.1 X.2.1 (X.2.2.1.trans hL.1.symm) X.2.2.2.1 (ww _ hl) (ww _ hs) (ww _ hi) (ww _ hc) (by omega) (by rw [mm_catsum]; omega) (by omega) (by omega) hd ?_
      by_cases h : a < b
      · rw [if_pos ((mm_lt ha hb).mpr h)]
        exact kn _ _ _ _ _ (hq b ⟨fun _ => by omega, fun _ => rfl⟩) H locs L hL hP hD hS
      · rw [if_neg (fun z => h ((mm_lt ha hb).mp z))]
        exact kn _ _ _ _ _ (hq a ⟨fun _ => rfl, fun _ => by omega⟩) H locs L hL hP hD hS
    · exact hsp.elim
theorem mm_semMin {l : Launch} {own : String} {idx FR LO : Nat} (hl : Jvm.Cond.methodLink own idx Lib.Math.min.name ∈ mm_T) (hs : Jvm.Cond.static Lib.Math.min.name ∈ mm_T) (hi : Jvm.Cond.initialized "java/lang/Math" ∈ mm_T) (hc : Jvm.Cond.code Lib.Math.min.name Lib.Math.min.code 2 (some .int) ∈ mm_T) (h1 : 1 ≤ FR) (h2 : 21 ≤ LO) : mm_sem l own FR LO idx (1, 2, 0, sp_J_min, 0) := by
  intro p e R s m args below meth c Qm cc nL D E Ad A MU X hG hR hRf hRl pc ls st M d u Kn QX hd hn hrv hcat hu hsp kn H locs L hL hP hD hS
  have ww : ∀ w ∈ mm_T, w.before args s = true := fun w h => X.2.2.2.2.1 _ (mm_T_U _ h)
  dsimp only at hsp hd hn hcat hu
  match st, hn, hsp, hcat with
  | v :: w :: r, _, hsp, hcat =>
    simp only [List.take_succ_cons, List.take_zero, List.reverse_cons, List.reverse_nil, List.nil_append, List.cons_append, List.drop_succ_cons, List.drop_zero] at hsp hcat
    unfold sp_J_min at hsp
    split at hsp
    · rename_i a b heq
      cases heq
      obtain ⟨ha, hb, hq⟩ := hsp
      refine va_mmin (x := Int32.ofInt a) (y := Int32.ofInt b) X.1 X.2.1 (X.2.2.1.trans hL.1.symm) X.2.2.2.1 (ww _ hl) (ww _ hs) (ww _ hi) (ww _ hc) (by omega) (by rw [mm_catsum]; omega) (by omega) (by omega) hd ?_
      by_cases h : b < a
      · rw [if_pos ((mm_lt hb ha).mpr h)]
        exact kn _ _ _ _ _ (hq b ⟨fun _ => by omega, fun _ => rfl⟩) H locs L hL hP hD hS
      · rw [if_neg (fun z => h ((mm_lt hb ha).mp z))]
        exact kn _ _ _ _ _ (hq a ⟨fun _ => rfl, fun _ => by omega⟩) H locs L hL hP hD hS
    · exact hsp.elim
def kdJ_newLength : List mm_E := [(0, .iload_n 0, 0), (1, .iload_n 1, 0), (2, .iload_n 2, 0), (3, .invokestatic 194, 0), (6, .iadd, 0), (7, .istore_n 3, 0), (8, .iconst 0, 0), (9, .iload_n 3, 0), (10, .if_icmp .ge 11, 21), (13, .iload_n 3, 0), (14, .ldc 200, 0), (16, .if_icmp .gt 5, 21), (19, .iload_n 3, 0), (20, .ireturn, 0), (21, .iload_n 0, 0), (22, .iload_n 1, 0), (23, .invokestatic 201, 0), (26, .ireturn, 0)]
theorem kkJ_newLength : mm_chk prog_23_method_27_code kdJ_newLength = true := by decide +kernel
def yJ_newLength : MethodName := ⟨"jdk/internal/util/ArraysSupport", "newLength", "(III)I"⟩
theorem jw_newLength : mm_JW yJ_newLength prog_23_method_27_code 4 (some .int) := ⟨(mm_t4 236 rfl rfl), (mm_t1 16 rfl rfl), ⟨by decide, by decide⟩⟩
def sp_J_newLength : mm_S := fun av M d Q => match av with
  | [.inl a, .inl b, .inl c] =>  (0 ≤ a ∧ a ≤ 1000) ∧ (0 ≤ b ∧ b ≤ 1000) ∧ (1 ≤ c ∧ c ≤ 1000) ∧ ∀ r, (c ≤ b → r = a + b) ∧ (b < c → r = a + c) → Q (.inl (some (mm_I r))) M d
  | _ => False
def ct_J_newLength : List (Nat × mm_Ca) := [(194, (1, 2, 0, sp_J_max, 0))]
def flJ_newLength : List (Nat × Nat × Nat) := [(200, 0, 96)]
theorem flJ_newLength_k : ∀ q ∈ flJ_newLength, mm_lj "jdk/internal/util/ArraysSupport" mm_U q.2.1 q.2.2 q.1 := by
  intro q hq
  simp only [flJ_newLength, List.mem_cons, List.not_mem_nil, or_false] at hq
  subst hq
  · exact Or.inr ⟨by decide, (List.forall_mem_cons.mpr ⟨mm_T_U _ (mm_t5 0 rfl rfl), (fun _ h => nomatch h)⟩), (fun h => absurd h (by decide)), (fun h => absurd h (by decide))⟩
abbrev rr_J_newLength (Q : mm_Q) := mm_run (mm_look flJ_newLength) (mm_look ct_J_newLength) mm_x0 (mm_look ([] : List (Nat × Int))) (fun _ => none) 1 0 (fun _ _ => none) Q kdJ_newLength
set_option maxRecDepth 20000 in
theorem rn_J_newLength : mm_RN flJ_newLength ct_J_newLength mm_x0 [] 1 0 4 kdJ_newLength sp_J_newLength := by
  intro av M d Q h
  unfold sp_J_newLength at h
  split at h
  · rename_i a b c
    obtain ⟨ha, hb, hc, hq⟩ := h
    obtain ⟨K, hK, hK2⟩ : ∃ K : Nat → mm_K, (∀ t ls st M d u, K t ls st M d u → rr_J_newLength Q t ls st M d u) ∧ (∀ t ls st M d u, rr_J_newLength Q t ls st M d u → K t ls st M d u) := ⟨rr_J_newLength Q, fun _ _ _ _ _ _ h => h, fun _ _ _ _ _ _ h => h⟩
    refine ⟨Nat.le_of_ble_eq_true rfl, mm_run_at (stop := []) (S := K) kkJ_newLength 90 ?_ (fun _ _ _ _ _ _ _ h => hK _ _ _ _ _ _ h)⟩
    repeat' (first | with_reducible assumption | with_reducible exact True.intro | ((with_reducible show mm_rv _ _ _ _ _); first | exact True.intro) | ((with_reducible show mm_bool _ _); first | exact True.intro | exact Or.inl rfl | exact Or.inr rfl | (show (_ : Int) = 0 ∨ _ = 1)) | rfl | with_reducible exact Or.inl rfl | with_reducible exact Or.inr rfl | exact Nat.le_of_ble_eq_true rfl | refine And.intro ?_ ?_ | intro _)
    all_goals (try simp (disch := omega) only [InI, Int.toNat_natCast, Int.tmod_eq_emod_of_nonneg, Int.tdiv_eq_ediv_of_nonneg, true_implies, true_or, or_true, mm_l18, mm_l19, mm_l20, mm_l21, mm_l22] at *)
    all_goals first | omega | (exact hq _ ⟨fun _ => by omega, fun _ => by omega⟩) | skip
  · exact h.elim
theorem je_newLength {l : Launch} : mm_Jet l yJ_newLength prog_23_method_27_code 4 (some .int) 6 100 0 sp_J_newLength := mm_mtJ (own := "jdk/internal/util/ArraysSupport") rn_J_newLength ⟨by decide +kernel, rfl⟩ kkJ_newLength rfl ⟨by decide, by decide⟩ flJ_newLength_k (⟨mm_semMax (mm_t4 237 rfl rfl) (mm_t4 238 rfl rfl) (mm_t1 17 rfl rfl) (mm_t4 239 rfl rfl) (Nat.le_of_ble_eq_true rfl) (Nat.le_of_ble_eq_true rfl), trivial⟩) (by decide)
def kdJ_canEncode : List mm_E := [(0, .iload_n 0, 0), (1, .sipush 255, 0), (4, .if_icmp .gt 7, 11), (7, .iconst 1, 0), (8, .goto 4, 12), (11, .iconst 0, 0), (12, .ireturn, 0)]
theorem kkJ_canEncode : mm_chk prog_18_method_3_code kdJ_canEncode = true := by decide +kernel
def yJ_canEncode : MethodName := ⟨"java/lang/StringLatin1", "canEncode", "(C)Z"⟩
theorem jw_canEncode : mm_JW yJ_canEncode prog_18_method_3_code 1 (some .boolean) := ⟨(mm_t5 28 rfl rfl), (mm_t1 20 rfl rfl), ⟨by decide, by decide⟩⟩
def sp_J_canEncode : mm_S := fun av M d Q => match av with
  | [.inl c] =>  (0 ≤ c ∧ c ≤ 255) ∧ Q (.inl (some (mm_I 1))) M d
  | _ => False
def ct_J_canEncode : List (Nat × mm_Ca) := []
def flJ_canEncode : List (Nat × Nat × Nat) := []
theorem flJ_canEncode_k : ∀ q ∈ flJ_canEncode, mm_lj "java/lang/StringLatin1" mm_U q.2.1 q.2.2 q.1 := fun _ h => nomatch h
abbrev rr_J_canEncode (Q : mm_Q) := mm_run (mm_look flJ_canEncode) (mm_look ct_J_canEncode) mm_x0 (mm_look ([] : List (Nat × Int))) (fun _ => none) 2 0 (fun _ _ => none) Q kdJ_canEncode
set_option maxRecDepth 20000 in
theorem rn_J_canEncode : mm_RN flJ_canEncode ct_J_canEncode mm_x0 [] 2 0 1 kdJ_canEncode sp_J_canEncode := by
  intro av M d Q h
  unfold sp_J_canEncode at h
  split at h
  · rename_i c
    obtain ⟨hc, hq⟩ := h
    obtain ⟨K, hK, hK2⟩ : ∃ K : Nat → mm_K, (∀ t ls st M d u, K t ls st M d u → rr_J_canEncode Q t ls st M d u) ∧ (∀ t ls st M d u, rr_J_canEncode Q t ls st M d u → K t ls st M d u) := ⟨rr_J_canEncode Q, fun _ _ _ _ _ _ h => h, fun _ _ _ _ _ _ h => h⟩
    refine ⟨Nat.le_of_ble_eq_true rfl, mm_run_at (stop := []) (S := K) kkJ_canEncode 90 ?_ (fun _ _ _ _ _ _ _ h => hK _ _ _ _ _ _ h)⟩
    repeat' (first | with_reducible assumption | with_reducible exact True.intro | ((with_reducible show mm_rv _ _ _ _ _); first | exact True.intro) | ((with_reducible show mm_bool _ _); first | exact True.intro | exact Or.inl rfl | exact Or.inr rfl | (show (_ : Int) = 0 ∨ _ = 1)) | rfl | with_reducible exact Or.inl rfl | with_reducible exact Or.inr rfl | exact Nat.le_of_ble_eq_true rfl | refine And.intro ?_ ?_ | intro _)
    all_goals (try simp (disch := omega) only [InI, Int.toNat_natCast, Int.tmod_eq_emod_of_nonneg, Int.tdiv_eq_ediv_of_nonneg, true_implies, true_or, or_true, mm_l18, mm_l19, mm_l20, mm_l21, mm_l22] at *)
    all_goals first | omega | skip
  · exact h.elim
theorem je_canEncode {l : Launch} : mm_Jet l yJ_canEncode prog_18_method_3_code 1 (some .boolean) 6 100 0 sp_J_canEncode := mm_mtJ (own := "java/lang/StringLatin1") rn_J_canEncode ⟨by decide +kernel, rfl⟩ kkJ_canEncode rfl ⟨by decide, by decide⟩ flJ_canEncode_k (trivial) (by decide)

