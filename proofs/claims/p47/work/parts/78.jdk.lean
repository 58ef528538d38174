/-! the system's methods that texts are made by: they never throw; a text's content is not looked at -/
/-- a JDK method's call table, entry by entry -/
def mm_PJs (l : Launch) (own : String) (fr lo : Nat) : List (Nat × mm_Ca) → Prop
  | [] => True
  | q :: r => mm_sem l own fr lo q.1 q.2 ∧ mm_PJs l own fr lo r
theorem mm_PJs_look {l : Launch} {own : String} {fr lo idx : Nat} {ca : mm_Ca} : ∀ t : List (Nat × mm_Ca), mm_PJs l own fr lo t → mm_look t idx = some ca → mm_sem l own fr lo idx ca
  | [], _, h => by simp [mm_look] at h
  | q :: r, hp, h => by
    simp only [mm_look] at h
    cases e : q.1 == idx
    · rw [e] at h
      exact mm_PJs_look r hp.2 h
    · rw [e] at h
      have e1 := eq_of_beq e
      simp only [cond_true, Option.some.injEq] at h
      rw [← e1, ← h]
      exact hp.1
theorem mm_mtJ {l : Launch} {y : MethodName} {b : ByteArray} {maxL : Nat} {ret : Option FieldType} {fr lo mu rt : Nat} {own : String} {sp : mm_S} {cd : List mm_E} {fl : List (Nat × Nat × Nat)} {ct : List (Nat × mm_Ca)}
    (h : mm_RN fl ct mm_x0 [] rt mu maxL cd sp) (hy : plainFor y = true ∧ y.cls = own) (hk : mm_chk b cd = true) (hrt : mm_rtOK rt ret = true) (hfl : 5 < fr ∧ 82 ≤ lo)
    (hf : ∀ q ∈ fl, mm_lj own mm_U q.2.1 q.2.2 q.1) (hPE : mm_PJs l own fr lo ct) (h91 : ∀ q ∈ fl, q.2.2 = 91 → y.name = "<init>") : mm_Jet l y b maxL ret fr lo mu sp :=
  mm_methJ (F := mm_look fl) (C := mm_look ct) (LC := mm_look ([] : List (Nat × Int))) hy.1 hy.2 hk hrt hfl.1 hfl.2 ⟨fun k rc n e => hf (k, rc, n) (mm_look_mem fl e), fun k x e => nomatch e⟩ (fun idx ca e => mm_PJs_look ct hPE e) (fun k rc e => h91 (k, rc, 91) (mm_look_mem fl e) rfl) (fun av M d Q hs => h av M d Q hs)
theorem mm_mtX {l : Launch} {y : MethodName} {b : ByteArray} {maxL : Nat} {ret : Option FieldType} {fr lo mu rt : Nat} {own : String} {sp : mm_S} {cd : List mm_E} {fl : List (Nat × Nat × Nat)} {ct : List (Nat × mm_Ca)} {xt : Nat → Nat → Nat → Option Nat} {lc : List (Nat × Int)}
    (hl : l.stackTraces = false) (h : mm_RN fl ct xt lc rt mu maxL cd sp) (hy : plainName y.cls = true ∧ y.cls = own) (hk : mm_chk b cd = true) (hrt : mm_rtOK rt ret = true) (hfl : 5 < fr ∧ 82 ≤ lo)
    (hf : ∀ q ∈ fl, mm_lj own mm_U q.2.1 q.2.2 q.1) (hlc : ∀ q ∈ lc, Jvm.Cond.constantLong own q.1 (Int64.ofInt q.2) ∈ mm_U) (hPE : mm_PEs l own (mm_rm fr lo mu) ct) (hXE : ∀ idx is ic k, xt idx is ic = some k → mm_XE own mm_U idx is ic k) (hn9 : ∀ q ∈ fl, q.2.2 ≠ 91) : mm_Met l y b maxL ret [] fr lo mu sp :=
  mm_meth (F := mm_look fl) (C := mm_look ct) (X0 := xt) (LC := mm_look lc) hl hy.1 hy.2 hk hrt hfl.1 hfl.2 ⟨fun k rc n e => hf (k, rc, n) (mm_look_mem fl e), fun k x e => hlc (k, x) (mm_look_mem lc e)⟩ (fun idx ca e => mm_PEs_look ct hPE e) hXE (fun k rc e => hn9 _ (mm_look_mem fl e) rfl) (fun av M d Q hs => h av M d Q hs)
/-- what was there before stays: the base -/
def bX (M0 : mm_M) (d0 : List Nat) (M : mm_M) (d : List Nat) : Prop := (∃ d1, d = d0 ++ d1) ∧ ∀ o, o ∈ mm_ids d0 → o ≠ 0 → M o = M0 o ∧ mm_kd M o = mm_kd M0 o ∧ mm_ln M o = mm_ln M0 o
/-- a new object of kind k -/
def bO (d0 : List Nat) (M : mm_M) (d : List Nat) (o k : Nat) : Prop := mm_is M d o k ∧ 100 ≤ o ∧ o ∉ d0
theorem bX.rf {M : mm_M} {d : List Nat} : bX M d M d := ⟨⟨[], by simp⟩, fun _ _ _ => ⟨rfl, rfl, rfl⟩⟩
theorem mm_ids_new {d : List Nat} {o : Nat} (ho : 100 ≤ o) (hd : o ∉ d) : o ∉ mm_ids d := by
  intro h
  rcases List.mem_append.mp h with h | h
  · simp only [mm_st, List.mem_cons, List.not_mem_nil, or_false] at h
    omega
  · exact hd h
theorem bX.same {M0 M M' : mm_M} {d0 d : List Nat} {o : Nat} (h : bX M0 d0 M d) (ho : 100 ≤ o ∧ o ∉ d0) (e : ∀ x, x ≠ o → M' x = M x) : bX M0 d0 M' d := by
  refine ⟨h.1, fun x hx h0 => ?_⟩
  have hxo : x ≠ o := fun q => mm_ids_new ho.1 ho.2 (q ▸ hx)
  have ek := mm_kd_up (M := M) (M' := M') (o' := x) (by omega) e
  rw [e x hxo, ek.1, ek.2]
  exact h.2 x hx h0
theorem bO.same {d0 d : List Nat} {M M' : mm_M} {x k o : Nat} (h : bO d0 M d x k) (ho : 100 ≤ o) (e : ∀ x, x ≠ o → M' x = M x) : bO d0 M' d x k := by
  have ek := mm_kd_up (M := M) (M' := M') (o' := x) (by omega) e
  exact ⟨⟨by rw [ek.1]; exact h.1.1, h.1.2⟩, h.2⟩
theorem bX.new {M0 M : mm_M} {d0 d : List Nat} {o k : Nat} {n : Int} (h : bX M0 d0 M d) (ho : 100 ≤ o) (hd : o ∉ d) : bX M0 d0 (mm_nob M o k n) (d ++ [o]) := by
  obtain ⟨⟨d1, rfl⟩, h2⟩ := h
  refine ⟨⟨d1 ++ [o], by simp⟩, fun x hx h0 => ?_⟩
  have hxo : x ≠ o := fun q => mm_ids_new ho (fun z => hd (List.mem_append_left _ z)) (q ▸ hx)
  have ek := mm_nob_kd2 (M := M) (k := k) (n := n) ho hxo
  rw [mm_nob_o hxo h0, ek.1, ek.2]
  exact h2 x hx h0
theorem bO.new {d0 d : List Nat} {M : mm_M} {x k o k' : Nat} {n : Int} (h : bO d0 M d x k) (ho : 100 ≤ o) (hd : o ∉ d) : bO d0 (mm_nob M o k' n) (d ++ [o]) x k := by
  have hxo : x ≠ o := fun q => mm_ids_new ho hd (q ▸ h.1.2)
  have ek := mm_nob_kd2 (M := M) (k := k') (n := n) ho hxo
  refine ⟨⟨by rw [ek.1]; exact h.1.1, ?_⟩, h.2⟩
  rcases List.mem_append.mp h.1.2 with z | z
  · exact List.mem_append_left _ z
  · exact List.mem_append_right _ (List.mem_append_left _ z)
theorem bO.mk' {M0 M : mm_M} {d0 d : List Nat} {o k : Nat} {n : Int} (h : bX M0 d0 M d) (ho : 100 ≤ o) (hd : o ∉ d) (hn : 0 ≤ n) : bO d0 (mm_nob M o k n) (d ++ [o]) o k := by
  obtain ⟨⟨d1, rfl⟩, h2⟩ := h
  exact ⟨⟨(mm_nob_kd ho hn).1, List.mem_append_right _ (List.mem_append_right _ (by simp))⟩, ho, fun z => hd (List.mem_append_left _ z)⟩
/-- a text under way: b holds n letters, and has room for q at least -/
def sC (M0 : mm_M) (d0 : List Nat) (M : mm_M) (d : List Nat) (b : Nat) (n q : Int) : Prop := bX M0 d0 M d ∧ bO d0 M d b 16 ∧ M b 1 = 0 ∧ M b 3 = n ∧ 0 ≤ n ∧ bO d0 M d (M b 0).toNat 3 ∧ n ≤ (mm_ln M (M b 0).toNat : Int) ∧ q ≤ (mm_ln M (M b 0).toNat : Int) ∧ mm_ln M (M b 0).toNat ≤ 220
theorem sC.w {M0 M : mm_M} {d0 d : List Nat} {b : Nat} {n q q' : Int} (h : sC M0 d0 M d b n q) (hq : q' ≤ q ∨ q' ≤ n) : sC M0 d0 M d b n q' := by
  obtain ⟨h1, h2, h3, h4, h5, h7, h8, h9, h10⟩ := h
  exact ⟨h1, h2, h3, h4, h5, h7, h8, by omega, h10⟩
theorem bO.ne {d0 d : List Nat} {M : mm_M} {x y k k' : Nat} (h : bO d0 M d x k) (h' : bO d0 M d y k') (hk : k ≠ k') : x ≠ y := by
  intro e
  subst e
  exact hk (h.1.1.symm.trans h'.1.1)
theorem sC.row {M0 M M' : mm_M} {d0 d : List Nat} {b a k : Nat} {n q : Int} (h : sC M0 d0 M d b n q) (ha : bO d0 M d a k) (hk : k ≠ 16) (e : ∀ x, x ≠ a → M' x = M x) : sC M0 d0 M' d b n q := by
  obtain ⟨h1, h2, h3, h4, h5, h7, h8, h9, h10⟩ := h
  have hne := h2.ne ha (Ne.symm hk)
  have ek := mm_kd_up (M := M) (M' := M') (o' := (M b 0).toNat) (by have := ha.2.1; omega) e
  have eb := e b hne
  refine ⟨h1.same ha.2 e, h2.same ha.2.1 e, by rw [eb]; exact h3, by rw [eb]; exact h4, h5, by rw [eb]; exact h7.same ha.2.1 e, ?_⟩
  rw [eb, ek.2]
  exact ⟨h8, h9, h10⟩
theorem sC.cnt {M0 M : mm_M} {d0 d : List Nat} {b : Nat} {n q n' : Int} (h : sC M0 d0 M d b n q) (h0 : 0 ≤ n' ∧ n' ≤ q) : sC M0 d0 (mm_up M b 3 n') d b n' q := by
  obtain ⟨h1, h2, h3, h4, h5, h7, h8, h9, h10⟩ := h
  have e : ∀ x, x ≠ b → mm_up M b 3 n' x = M x := mm_up_o
  have ek := mm_kd_up (M := M) (M' := mm_up M b 3 n') (o' := (M b 0).toNat) (by have := h2.2.1; omega) e
  have e0 : mm_up M b 3 n' b 0 = M b 0 := by simp [mm_up]
  refine ⟨h1.same h2.2 e, h2.same h2.2.1 e, by simpa [mm_up] using h3, by simp [mm_up], h0.1, by rw [e0]; exact h7.same h2.2.1 e, ?_⟩
  rw [e0, ek.2]
  exact ⟨by omega, h9, h10⟩
theorem sC.set {M0 M : mm_M} {d0 d : List Nat} {b o : Nat} {n q : Int} (h1 : bX M0 d0 M d) (h2 : bO d0 M d b 16) (h3 : M b 1 = 0) (h4 : M b 3 = n) (h5 : 0 ≤ n) (h7 : bO d0 M d o 3) (h8 : n ≤ (mm_ln M o : Int) ∧ q ≤ (mm_ln M o : Int) ∧ mm_ln M o ≤ 220) : sC M0 d0 (mm_up M b 0 (o : Int)) d b n q := by
  have e : ∀ x, x ≠ b → mm_up M b 0 (o : Int) x = M x := mm_up_o
  have ek := mm_kd_up (M := M) (M' := mm_up M b 0 (o : Int)) (o' := o) (by have := h2.2.1; omega) e
  have e0 : (mm_up M b 0 (o : Int) b 0).toNat = o := by simp [mm_up]
  refine ⟨h1.same h2.2 e, h2.same h2.2.1 e, by simpa [mm_up] using h3, by simpa [mm_up] using h4, h5, by rw [e0]; exact h7.same h2.2.1 e, ?_⟩
  rw [e0, ek.2]
  exact h8
theorem sC.new {M0 M : mm_M} {d0 d : List Nat} {b o k : Nat} {n q n' : Int} (h : sC M0 d0 M d b n q) (ho : 100 ≤ o) (hd : o ∉ d) : sC M0 d0 (mm_nob M o k n') (d ++ [o]) b n q := by
  obtain ⟨h1, h2, h3, h4, h5, h7, h8, h9, h10⟩ := h
  have hb : b ≠ o := fun z => mm_ids_new ho hd (z ▸ h2.1.2)
  have ha : (M b 0).toNat ≠ o := fun z => mm_ids_new ho hd (z ▸ h7.1.2)
  have eb : mm_nob M o k n' b = M b := mm_nob_o hb (by have := h2.2.1; omega)
  have ek := mm_nob_kd2 (M := M) (k := k) (n := n') ho ha
  refine ⟨h1.new ho hd, h2.new ho hd, by rw [eb]; exact h3, by rw [eb]; exact h4, h5, by rw [eb]; exact h7.new ho hd, ?_⟩
  rw [eb, ek.2]
  exact ⟨h8, h9, h10⟩
/-- an object and its row through a change elsewhere, a change of itself, a new object -/
theorem isU {M : mm_M} {d : List Nat} {o i a k : Nat} {x : Int} (h : mm_is M d a k) (ho : o ≠ 0) : mm_is (mm_up M o i x) d a k := ⟨by rw [(mm_kd_up (M := M) (M' := mm_up M o i x) (o' := a) ho mm_up_o).1]; exact h.1, h.2⟩
theorem lnU {M : mm_M} {o i a : Nat} {x : Int} (ho : o ≠ 0) : mm_ln (mm_up M o i x) a = mm_ln M a := (mm_kd_up (M := M) (M' := mm_up M o i x) (o' := a) ho mm_up_o).2
theorem isY {M : mm_M} {d : List Nat} {o a k : Nat} {h9 : Nat → Int} (h : mm_is M d a k) (ho : o ≠ 0) : mm_is (mm_any M o h9) d a k := ⟨by rw [(mm_kd_up (M := M) (M' := mm_any M o h9) (o' := a) ho mm_any_o).1]; exact h.1, h.2⟩
theorem lnY {M : mm_M} {o a : Nat} {h9 : Nat → Int} (ho : o ≠ 0) : mm_ln (mm_any M o h9) a = mm_ln M a := (mm_kd_up (M := M) (M' := mm_any M o h9) (o' := a) ho mm_any_o).2
theorem isN {M : mm_M} {d : List Nat} {o a k k' : Nat} {n : Int} (h : mm_is M d a k) (ho : 100 ≤ o) (hd : o ∉ d) : mm_is (mm_nob M o k' n) (d ++ [o]) a k ∧ mm_ln (mm_nob M o k' n) a = mm_ln M a := by
  have hne : a ≠ o := fun z => mm_ids_new ho hd (z ▸ h.2)
  have ek := mm_nob_kd2 (M := M) (k := k') (n := n) ho hne
  refine ⟨⟨by rw [ek.1]; exact h.1, ?_⟩, ek.2⟩
  rcases List.mem_append.mp h.2 with z | z
  · exact List.mem_append_left _ z
  · exact List.mem_append_right _ (List.mem_append_left _ z)
theorem isNo {M : mm_M} {d : List Nat} {o k : Nat} {n : Int} (ho : 100 ≤ o) (hn : 0 ≤ n) : mm_is (mm_nob M o k n) (d ++ [o]) o k ∧ mm_ln (mm_nob M o k n) o = n.toNat := by
  have ek := mm_nob_kd (M := M) (k := k) ho hn
  exact ⟨⟨ek.1, List.mem_append_right _ (by simp)⟩, ek.2⟩
theorem mm_is.c {M : mm_M} {d : List Nat} {o k : Nat} (h : mm_is M d o k) : mm_isC M d o k := ⟨h.1, Or.inl h.2⟩
theorem tp0 (x : Int) : x / 2 ^ (0 : Int).toNat = x := by simp
theorem tm0 (x : Int) : x * 2 ^ (0 : Int).toNat = x := by simp
theorem mm_up_any {M : mm_M} {a i : Nat} {x : Int} : mm_up M a i x = mm_any M a (fun k => if k = i then x else M a k) := by
  funext y k
  by_cases hy : y = a
  · subst hy
    by_cases hk : k = i <;> simp [mm_up, mm_any, hk]
  · simp [mm_up, mm_any, hy]
theorem mm_any_any {M : mm_M} {a : Nat} {h h' : Nat → Int} : mm_any (mm_any M a h) a h' = mm_any M a h' := by
  funext y k
  by_cases hy : y = a <;> simp [mm_any, hy]
theorem mm_i28 {st : List mm_V} {n : Nat} {M : mm_M} {d : List Nat} : True := trivial
def sp_J_max : mm_S := fun av M d Q => match av with
  | [.inl a, .inl b] => InI a ∧ InI b ∧ ∀ r, (b ≤ a → r = a) ∧ (a < b → r = b) → Q (.inl (some (mm_I r))) M d
  | _ => False
def sp_J_min : mm_S := fun av M d Q => match av with
  | [.inl a, .inl b] => InI a ∧ InI b ∧ ∀ r, (a ≤ b → r = a) ∧ (b < a → r = b) → Q (.inl (some (mm_I r))) M d
  | _ => False
theorem mm_semMax {l : Launch} {own : String} {idx FR LO : Nat} (hl : Jvm.Cond.methodLink own idx Lib.Math.max.name ∈ mm_T) (hs : Jvm.Cond.static Lib.Math.max.name ∈ mm_T) (hi : Jvm.Cond.initialized "java/lang/Math" ∈ mm_T) (hc : Jvm.Cond.code Lib.Math.max.name Lib.Math.max.code 2 (some .int) ∈ mm_T) (h1 : 1 ≤ FR) (h2 : 21 ≤ LO) : mm_sem l own FR LO idx (1, 2, 0, sp_J_max, 0) := by
  intro p e R s m args below meth c Qm cc nL D E Ad A MU X hG hR hRf hRl pc ls st M d u Kn QX hd hn hrv hcat hu hsp kn H locs L hL hP hD hS
  have ww : ∀ w ∈ mm_T, w.before args s = true := fun w h => X.2.2.2.2.1 _ (mm_T_U _ h)
  dsimp only at hsp hd hn hcat hu
  match st, hn, hsp, hcat with
  | v :: w :: r, _, hsp, hcat =>
    simp only [List.take_succ_cons, List.take_zero, List.reverse_cons, List.reverse_nil, List.nil_append, List.cons_append, List.drop_succ_cons, List.drop_zero] at hsp hcat
    unfold sp_J_max at hsp
    split at hsp
    · rename_i a b heq
      cases heq
      obtain ⟨ha, hb, hq⟩ := hsp
      refine va_mmax (x := Int32.ofInt a) (y := Int32.ofInt b) X.1 X.2.1 (X.2.2.1.trans hL.1.symm) X.2.2.2.1 (ww _ hl) (ww _ hs) (ww _ hi) (ww _ hc) (by omega) (by rw [mm_catsum]; omega) (by omega) (by omega) hd ?_
      by_cases h : a < b
      · rw [if_pos ((mm_lt ha hb).mpr h)]
        exact kn _ _ _ _ _ (hq b ⟨fun _ => by omega, fun _ => rfl⟩) H locs L hL hP hD hS
      · rw [if_neg (fun z => h ((mm_lt ha hb).mp z))]
        exact kn _ _ _ _ _ (hq a ⟨fun _ => rfl, fun _ => by omega⟩) H locs L hL hP hD hS
    · exact hsp.elim
theorem mm_semMin {l : Launch} {own : String} {idx FR LO : Nat} (hl : Jvm.Cond.methodLink own idx Lib.Math.min.name ∈ mm_T) (hs : Jvm.Cond.static Lib.Math.min.name ∈ mm_T) (hi : Jvm.Cond.initialized "java/lang/Math" ∈ mm_T) (hc : Jvm.Cond.code Lib.Math.min.name Lib.Math.min.code 2 (some .int) ∈ mm_T) (h1 : 1 ≤ FR) (h2 : 21 ≤ LO) : mm_sem l own FR LO idx (1, 2, 0, sp_J_min, 0) := by
  intro p e R s m args below meth c Qm cc nL D E Ad A MU X hG hR hRf hRl pc ls st M d u Kn QX hd hn hrv hcat hu hsp kn H locs L hL hP hD hS
  have ww : ∀ w ∈ mm_T, w.before args s = true := fun w h => X.2.2.2.2.1 _ (mm_T_U _ h)
  dsimp only at hsp hd hn hcat hu
  match st, hn, hsp, hcat with
  | v :: w :: r, _, hsp, hcat =>
    simp only [List.take_succ_cons, List.take_zero, List.reverse_cons, List.reverse_nil, List.nil_append, List.cons_append, List.drop_succ_cons, List.drop_zero] at hsp hcat
    unfold sp_J_min at hsp
    split at hsp
    · rename_i a b heq
      cases heq
      obtain ⟨ha, hb, hq⟩ := hsp
      refine va_mmin (x := Int32.ofInt a) (y := Int32.ofInt b) X.1 X.2.1 (X.2.2.1.trans hL.1.symm) X.2.2.2.1 (ww _ hl) (ww _ hs) (ww _ hi) (ww _ hc) (by omega) (by rw [mm_catsum]; omega) (by omega) (by omega) hd ?_
      by_cases h : b < a
      · rw [if_pos ((mm_lt hb ha).mpr h)]
        exact kn _ _ _ _ _ (hq b ⟨fun _ => by omega, fun _ => rfl⟩) H locs L hL hP hD hS
      · rw [if_neg (fun z => h ((mm_lt hb ha).mp z))]
        exact kn _ _ _ _ _ (hq a ⟨fun _ => rfl, fun _ => by omega⟩) H locs L hL hP hD hS
    · exact hsp.elim
def kdJ_newLength : List mm_E := [(0, .iload_n 0, 0), (1, .iload_n 1, 0), (2, .iload_n 2, 0), (3, .invokestatic 194, 0), (6, .iadd, 0), (7, .istore_n 3, 0), (8, .iconst 0, 0), (9, .iload_n 3, 0), (10, .if_icmp .ge 11, 21), (13, .iload_n 3, 0), (14, .ldc 200, 0), (16, .if_icmp .gt 5, 21), (19, .iload_n 3, 0), (20, .ireturn, 0), (21, .iload_n 0, 0), (22, .iload_n 1, 0), (23, .invokestatic 201, 0), (26, .ireturn, 0)]
theorem kkJ_newLength : mm_chk prog_23_method_27_code kdJ_newLength = true := by decide +kernel
def yJ_newLength : MethodName := ⟨"jdk/internal/util/ArraysSupport", "newLength", "(III)I"⟩
theorem jw_newLength : mm_JW yJ_newLength prog_23_method_27_code 4 (some .int) := ⟨(mm_t4 236 rfl rfl), (mm_t1 16 rfl rfl), ⟨by decide, by decide⟩⟩
def sp_J_newLength : mm_S := fun av M d Q => match av with
  | [.inl a, .inl b, .inl c] =>  (0 ≤ a ∧ a ≤ 1000) ∧ (0 ≤ b ∧ b ≤ 1000) ∧ (1 ≤ c ∧ c ≤ 1000) ∧ ∀ r, (c ≤ b → r = a + b) ∧ (b < c → r = a + c) → Q (.inl (some (mm_I r))) M d
  | _ => False
def ct_J_newLength : List (Nat × mm_Ca) := [(194, (1, 2, 0, sp_J_max, 0))]
def flJ_newLength : List (Nat × Nat × Nat) := [(200, 0, 96)]
theorem flJ_newLength_k : ∀ q ∈ flJ_newLength, mm_lj "jdk/internal/util/ArraysSupport" mm_U q.2.1 q.2.2 q.1 := by
  intro q hq
  simp only [flJ_newLength, List.mem_cons, List.not_mem_nil, or_false] at hq
  subst hq
  · exact Or.inr ⟨by decide, (List.forall_mem_cons.mpr ⟨mm_T_U _ (mm_t5 0 rfl rfl), (fun _ h => nomatch h)⟩), (fun h => absurd h (by decide)), (fun h => absurd h (by decide))⟩
abbrev rr_J_newLength (Q : mm_Q) := mm_run (mm_look flJ_newLength) (mm_look ct_J_newLength) mm_x0 (mm_look ([] : List (Nat × Int))) (fun _ => none) 1 0 (fun _ _ => none) Q kdJ_newLength
set_option maxRecDepth 20000 in
theorem rn_J_newLength : mm_RN flJ_newLength ct_J_newLength mm_x0 [] 1 0 4 kdJ_newLength sp_J_newLength := by
  intro av M d Q h
  unfold sp_J_newLength at h
  split at h
  · rename_i a b c
    obtain ⟨ha, hb, hc, hq⟩ := h
    obtain ⟨K, hK, hK2⟩ : ∃ K : Nat → mm_K, (∀ t ls st M d u, K t ls st M d u → rr_J_newLength Q t ls st M d u) ∧ (∀ t ls st M d u, rr_J_newLength Q t ls st M d u → K t ls st M d u) := ⟨rr_J_newLength Q, fun _ _ _ _ _ _ h => h, fun _ _ _ _ _ _ h => h⟩
    refine ⟨Nat.le_of_ble_eq_true rfl, mm_run_at (stop := []) (S := K) kkJ_newLength 90 ?_ (fun _ _ _ _ _ _ _ h => hK _ _ _ _ _ _ h)⟩
    repeat' (first | with_reducible assumption | with_reducible exact True.intro | ((with_reducible show mm_rv _ _ _ _ _); first | exact True.intro) | ((with_reducible show mm_bool _ _); first | exact True.intro | exact Or.inl rfl | exact Or.inr rfl | (show (_ : Int) = 0 ∨ _ = 1)) | rfl | with_reducible exact Or.inl rfl | with_reducible exact Or.inr rfl | exact Nat.le_of_ble_eq_true rfl | refine And.intro ?_ ?_ | intro _)
    all_goals (try simp (disch := omega) only [InI, Int.toNat_natCast, Int.tmod_eq_emod_of_nonneg, Int.tdiv_eq_ediv_of_nonneg, true_implies, true_or, or_true, mm_l18, mm_l19, mm_l20, mm_l21, mm_l22] at *)
    all_goals first | omega | (exact hq _ ⟨fun _ => by omega, fun _ => by omega⟩) | skip
  · exact h.elim
theorem je_newLength {l : Launch} : mm_Jet l yJ_newLength prog_23_method_27_code 4 (some .int) 6 100 0 sp_J_newLength := mm_mtJ (own := "jdk/internal/util/ArraysSupport") rn_J_newLength ⟨by decide +kernel, rfl⟩ kkJ_newLength rfl ⟨by decide, by decide⟩ flJ_newLength_k (⟨mm_semMax (mm_t4 237 rfl rfl) (mm_t4 238 rfl rfl) (mm_t1 17 rfl rfl) (mm_t4 239 rfl rfl) (Nat.le_of_ble_eq_true rfl) (Nat.le_of_ble_eq_true rfl), trivial⟩) (by decide)
def kdJ_canEncode : List mm_E := [(0, .iload_n 0, 0), (1, .sipush 255, 0), (4, .if_icmp .gt 7, 11), (7, .iconst 1, 0), (8, .goto 4, 12), (11, .iconst 0, 0), (12, .ireturn, 0)]
theorem kkJ_canEncode : mm_chk prog_18_method_3_code kdJ_canEncode = true := by decide +kernel
def yJ_canEncode : MethodName := ⟨"java/lang/StringLatin1", "canEncode", "(C)Z"⟩
theorem jw_canEncode : mm_JW yJ_canEncode prog_18_method_3_code 1 (some .boolean) := ⟨(mm_t5 28 rfl rfl), (mm_t1 20 rfl rfl), ⟨by decide, by decide⟩⟩
def sp_J_canEncode : mm_S := fun av M d Q => match av with
  | [.inl c] =>  (0 ≤ c ∧ c ≤ 255) ∧ Q (.inl (some (mm_I 1))) M d
  | _ => False
def ct_J_canEncode : List (Nat × mm_Ca) := []
def flJ_canEncode : List (Nat × Nat × Nat) := []
theorem flJ_canEncode_k : ∀ q ∈ flJ_canEncode, mm_lj "java/lang/StringLatin1" mm_U q.2.1 q.2.2 q.1 := fun _ h => nomatch h
abbrev rr_J_canEncode (Q : mm_Q) := mm_run (mm_look flJ_canEncode) (mm_look ct_J_canEncode) mm_x0 (mm_look ([] : List (Nat × Int))) (fun _ => none) 2 0 (fun _ _ => none) Q kdJ_canEncode
set_option maxRecDepth 20000 in
theorem rn_J_canEncode : mm_RN flJ_canEncode ct_J_canEncode mm_x0 [] 2 0 1 kdJ_canEncode sp_J_canEncode := by
  intro av M d Q h
  unfold sp_J_canEncode at h
  split at h
  · rename_i c
    obtain ⟨hc, hq⟩ := h
    obtain ⟨K, hK, hK2⟩ : ∃ K : Nat → mm_K, (∀ t ls st M d u, K t ls st M d u → rr_J_canEncode Q t ls st M d u) ∧ (∀ t ls st M d u, rr_J_canEncode Q t ls st M d u → K t ls st M d u) := ⟨rr_J_canEncode Q, fun _ _ _ _ _ _ h => h, fun _ _ _ _ _ _ h => h⟩
    refine ⟨Nat.le_of_ble_eq_true rfl, mm_run_at (stop := []) (S := K) kkJ_canEncode 90 ?_ (fun _ _ _ _ _ _ _ h => hK _ _ _ _ _ _ h)⟩
    repeat' (first | with_reducible assumption | with_reducible exact True.intro | ((with_reducible show mm_rv _ _ _ _ _); first | exact True.intro) | ((with_reducible show mm_bool _ _); first | exact True.intro | exact Or.inl rfl | exact Or.inr rfl | (show (_ : Int) = 0 ∨ _ = 1)) | rfl | with_reducible exact Or.inl rfl | with_reducible exact Or.inr rfl | exact Nat.le_of_ble_eq_true rfl | refine And.intro ?_ ?_ | intro _)
    all_goals (try simp (disch := omega) only [InI, Int.toNat_natCast, Int.tmod_eq_emod_of_nonneg, Int.tdiv_eq_ediv_of_nonneg, true_implies, true_or, or_true, mm_l18, mm_l19, mm_l20, mm_l21, mm_l22] at *)
    all_goals first | omega | skip
  · exact h.elim
theorem je_canEncode {l : Launch} : mm_Jet l yJ_canEncode prog_18_method_3_code 1 (some .boolean) 6 100 0 sp_J_canEncode := mm_mtJ (own := "java/lang/StringLatin1") rn_J_canEncode ⟨by decide +kernel, rfl⟩ kkJ_canEncode rfl ⟨by decide, by decide⟩ flJ_canEncode_k (trivial) (by decide)
def kdJ_stringSize : List mm_E := [(0, .iconst 1, 0), (1, .istore_n 1, 0), (2, .iload_n 0, 0), (3, .ifCond .lt 8, 11), (6, .iconst 0, 0), (7, .istore_n 1, 0), (8, .iload_n 0, 0), (9, .ineg, 0), (10, .istore_n 0, 0), (11, .bipush (-10), 0), (13, .istore_n 2, 0), (14, .iconst 1, 0), (15, .istore_n 3, 0), (16, .iload_n 3, 0), (17, .bipush 10, 0), (19, .if_icmp .ge 23, 42), (22, .iload_n 0, 0), (23, .iload_n 2, 0), (24, .if_icmp .le 7, 31), (27, .iload_n 3, 0), (28, .iload_n 1, 0), (29, .iadd, 0), (30, .ireturn, 0), (31, .bipush 10, 0), (33, .iload_n 2, 0), (34, .imul, 0), (35, .istore_n 2, 0), (36, .iinc 3 1, 0), (39, .goto (-23), 16), (42, .bipush 10, 0), (44, .iload_n 1, 0), (45, .iadd, 0), (46, .ireturn, 0)]
theorem kkJ_stringSize : mm_chk prog_13_method_13_code kdJ_stringSize = true := by decide +kernel
def yJ_stringSize : MethodName := ⟨"java/lang/Integer", "stringSize", "(I)I"⟩
theorem jw_stringSize : mm_JW yJ_stringSize prog_13_method_13_code 4 (some .int) := ⟨(mm_t5 88 rfl rfl), (mm_t1 22 rfl rfl), ⟨by decide, by decide⟩⟩
def sp_J_stringSize : mm_S := fun av M d Q => match av with
  | [.inl x] =>  (0 ≤ x ∧ x < 100) ∧ ∀ r, (x < 10 → r = 1) ∧ (10 ≤ x → r = 2) → Q (.inl (some (mm_I r))) M d
  | _ => False
def ct_J_stringSize : List (Nat × mm_Ca) := []
def flJ_stringSize : List (Nat × Nat × Nat) := []
theorem flJ_stringSize_k : ∀ q ∈ flJ_stringSize, mm_lj "java/lang/Integer" mm_U q.2.1 q.2.2 q.1 := fun _ h => nomatch h
abbrev rr_J_stringSize (Q : mm_Q) := mm_run (mm_look flJ_stringSize) (mm_look ct_J_stringSize) mm_x0 (mm_look ([] : List (Nat × Int))) (fun _ => none) 1 0 (fun _ _ => none) Q kdJ_stringSize
set_option maxRecDepth 20000 in
theorem rn_J_stringSize : mm_RN flJ_stringSize ct_J_stringSize mm_x0 [] 1 0 4 kdJ_stringSize sp_J_stringSize := by
  intro av M d Q h
  unfold sp_J_stringSize at h
  split at h
  · rename_i x
    obtain ⟨hx, hq⟩ := h
    obtain ⟨K, hK, hK2⟩ : ∃ K : Nat → mm_K, (∀ t ls st M d u, K t ls st M d u → rr_J_stringSize Q t ls st M d u) ∧ (∀ t ls st M d u, rr_J_stringSize Q t ls st M d u → K t ls st M d u) := ⟨rr_J_stringSize Q, fun _ _ _ _ _ _ h => h, fun _ _ _ _ _ _ h => h⟩
    have k16b : ∀ p i : Int, p = -100 → i = 2 → 10 ≤ x → K 16 [some (mm_I (-x)), some (mm_I 0), some (mm_I p), some (mm_I i)] [] M d 0 := by
      intro p i hp hi hx1
      refine hK2 _ _ _ _ _ _ ?_
      refine mm_run_at (stop := [16]) (S := K) kkJ_stringSize 90 ?_ (fun _ _ _ _ _ _ _ h => hK _ _ _ _ _ _ h)
      repeat' (first | with_reducible assumption | with_reducible exact True.intro | ((with_reducible show mm_rv _ _ _ _ _); first | exact True.intro) | ((with_reducible show mm_bool _ _); first | exact True.intro | exact Or.inl rfl | exact Or.inr rfl | (show (_ : Int) = 0 ∨ _ = 1)) | rfl | with_reducible exact Or.inl rfl | with_reducible exact Or.inr rfl | exact Nat.le_of_ble_eq_true rfl | refine And.intro ?_ ?_ | intro _)
      all_goals (try simp (disch := omega) only [InI, Int.toNat_natCast, Int.tmod_eq_emod_of_nonneg, Int.tdiv_eq_ediv_of_nonneg, true_implies, true_or, or_true, mm_l18, mm_l19, mm_l20, mm_l21, mm_l22] at *)
      all_goals first | omega | (exact hq _ ⟨fun _ => by omega, fun _ => by omega⟩) | skip
    have k16a : ∀ p i : Int, p = -10 → i = 1 → K 16 [some (mm_I (-x)), some (mm_I 0), some (mm_I p), some (mm_I i)] [] M d 0 := by
      intro p i hp hi
      refine hK2 _ _ _ _ _ _ ?_
      refine mm_run_at (stop := [16]) (S := K) kkJ_stringSize 90 ?_ (fun _ _ _ _ _ _ _ h => hK _ _ _ _ _ _ h)
      repeat' (first | with_reducible assumption | with_reducible exact True.intro | ((with_reducible show mm_rv _ _ _ _ _); first | exact True.intro) | ((with_reducible show mm_bool _ _); first | exact True.intro | exact Or.inl rfl | exact Or.inr rfl | (show (_ : Int) = 0 ∨ _ = 1)) | rfl | with_reducible exact Or.inl rfl | with_reducible exact Or.inr rfl | exact Nat.le_of_ble_eq_true rfl | refine And.intro ?_ ?_ | intro _)
      all_goals (try simp (disch := omega) only [InI, Int.toNat_natCast, Int.tmod_eq_emod_of_nonneg, Int.tdiv_eq_ediv_of_nonneg, true_implies, true_or, or_true, mm_l18, mm_l19, mm_l20, mm_l21, mm_l22] at *)
      all_goals first | omega | (exact hq _ ⟨fun _ => by omega, fun _ => by omega⟩) | exact k16b _ _ (by omega) (by omega) (by omega) | skip
    refine ⟨Nat.le_of_ble_eq_true rfl, ?_⟩
    refine mm_run_at (stop := [16]) (S := K) kkJ_stringSize 90 ?_ (fun _ _ _ _ _ _ _ h => hK _ _ _ _ _ _ h)
    repeat' (first | with_reducible assumption | with_reducible exact True.intro | ((with_reducible show mm_rv _ _ _ _ _); first | exact True.intro) | ((with_reducible show mm_bool _ _); first | exact True.intro | exact Or.inl rfl | exact Or.inr rfl | (show (_ : Int) = 0 ∨ _ = 1)) | rfl | with_reducible exact Or.inl rfl | with_reducible exact Or.inr rfl | exact Nat.le_of_ble_eq_true rfl | refine And.intro ?_ ?_ | intro _)
    all_goals (try simp (disch := omega) only [InI, Int.toNat_natCast, Int.tmod_eq_emod_of_nonneg, Int.tdiv_eq_ediv_of_nonneg, true_implies, true_or, or_true, mm_l18, mm_l19, mm_l20, mm_l21, mm_l22] at *)
    all_goals first | omega | exact k16a _ _ rfl rfl | skip
  · exact h.elim
theorem je_stringSize {l : Launch} : mm_Jet l yJ_stringSize prog_13_method_13_code 4 (some .int) 6 100 0 sp_J_stringSize := mm_mtJ (own := "java/lang/Integer") rn_J_stringSize ⟨by decide +kernel, rfl⟩ kkJ_stringSize rfl ⟨by decide, by decide⟩ flJ_stringSize_k (trivial) (by decide)
def kdJ_getChars : List mm_E := [(0, .iload_n 1, 0), (1, .istore 5, 0), (3, .iload_n 0, 0), (4, .ifCond .ge 7, 11), (7, .iconst 1, 0), (8, .goto 4, 12), (11, .iconst 0, 0), (12, .istore 6, 0), (14, .iload 6, 0), (16, .ifCond .ne 6, 22), (19, .iload_n 0, 0), (20, .ineg, 0), (21, .istore_n 0, 0), (22, .iload_n 0, 0), (23, .bipush (-100), 0), (25, .if_icmp .gt 47, 72), (28, .iload_n 0, 0), (29, .bipush 100, 0), (31, .idiv, 0), (32, .istore_n 3, 0), (33, .iload_n 3, 0), (34, .bipush 100, 0), (36, .imul, 0), (37, .iload_n 0, 0), (38, .isub, 0), (39, .istore 4, 0), (41, .iload_n 3, 0), (42, .istore_n 0, 0), (43, .aload_n 2, 0), (44, .iinc 5 (-1), 0), (47, .iload 5, 0), (49, .getstatic 83, 0), (52, .iload 4, 0), (54, .baload, 0), (55, .bastore, 0), (56, .aload_n 2, 0), (57, .iinc 5 (-1), 0), (60, .iload 5, 0), (62, .getstatic 87, 0), (65, .iload 4, 0), (67, .baload, 0), (68, .bastore, 0), (69, .goto (-47), 22), (72, .aload_n 2, 0), (73, .iinc 5 (-1), 0), (76, .iload 5, 0), (78, .getstatic 83, 0), (81, .iload_n 0, 0), (82, .ineg, 0), (83, .baload, 0), (84, .bastore, 0), (85, .iload_n 0, 0), (86, .bipush (-9), 0), (88, .if_icmp .ge 16, 104), (91, .aload_n 2, 0), (92, .iinc 5 (-1), 0), (95, .iload 5, 0), (97, .getstatic 87, 0), (100, .iload_n 0, 0), (101, .ineg, 0), (102, .baload, 0), (103, .bastore, 0), (104, .iload 6, 0), (106, .ifCond .eq 12, 118), (109, .aload_n 2, 0), (110, .iinc 5 (-1), 0), (113, .iload 5, 0), (115, .bipush 45, 0), (117, .bastore, 0), (118, .iload 5, 0), (120, .ireturn, 0)]
theorem kkJ_getChars : mm_chk prog_13_method_12_code kdJ_getChars = true := by decide +kernel
def yJ_getChars : MethodName := ⟨"java/lang/Integer", "getChars", "(II[B)I"⟩
theorem jw_getChars : mm_JW yJ_getChars prog_13_method_12_code 7 (some .int) := ⟨(mm_t5 91 rfl rfl), (mm_t1 22 rfl rfl), ⟨by decide, by decide⟩⟩
def sp_J_getChars : mm_S := fun av M d Q => match av with
  | [.inl x, .inl i, .inr (.inr (.inl a))] =>  (0 ≤ x ∧ x < 100) ∧ mm_is M d a 3 ∧ (x < 10 → 1 ≤ i) ∧ (10 ≤ x → 2 ≤ i) ∧ i ≤ (mm_ln M a : Int) ∧ mm_ln M a ≤ 220 ∧ ∀ h9 r, Q (.inl (some (mm_I r))) (mm_any M a h9) d
  | _ => False
def ct_J_getChars : List (Nat × mm_Ca) := []
def flJ_getChars : List (Nat × Nat × Nat) := [(83, 24, 98), (87, 25, 98)]
theorem flJ_getChars_k : ∀ q ∈ flJ_getChars, mm_lj "java/lang/Integer" mm_U q.2.1 q.2.2 q.1 := by
  intro q hq
  simp only [flJ_getChars, List.mem_cons, List.not_mem_nil, or_false] at hq
  rcases hq with rfl | rfl
  · exact Or.inr ⟨by decide, (List.forall_mem_cons.mpr ⟨mm_T_U _ (mm_t5 92 rfl rfl), (fun _ h => nomatch h)⟩), (fun h => absurd h (by decide)), (fun h => absurd h (by decide))⟩
  · exact Or.inr ⟨by decide, (List.forall_mem_cons.mpr ⟨mm_T_U _ (mm_t5 94 rfl rfl), (fun _ h => nomatch h)⟩), (fun h => absurd h (by decide)), (fun h => absurd h (by decide))⟩
abbrev rr_J_getChars (Q : mm_Q) := mm_run (mm_look flJ_getChars) (mm_look ct_J_getChars) mm_x0 (mm_look ([] : List (Nat × Int))) (fun _ => none) 1 0 (fun _ _ => none) Q kdJ_getChars
set_option maxRecDepth 20000 in
theorem rn_J_getChars : mm_RN flJ_getChars ct_J_getChars mm_x0 [] 1 0 7 kdJ_getChars sp_J_getChars := by
  intro av M d Q h
  unfold sp_J_getChars at h
  split at h
  · rename_i x i a
    obtain ⟨hx, ha, h1, h2, h3, h4, hq⟩ := h
    have hne := mm_is0 ha
    obtain ⟨K, hK, hK2⟩ : ∃ K : Nat → mm_K, (∀ t ls st M d u, K t ls st M d u → rr_J_getChars Q t ls st M d u) ∧ (∀ t ls st M d u, rr_J_getChars Q t ls st M d u → K t ls st M d u) := ⟨rr_J_getChars Q, fun _ _ _ _ _ _ h => h, fun _ _ _ _ _ _ h => h⟩
    have k22 : K 22 [some (mm_I (-x)), some (mm_I i), some (mm_R a), none, none, some (mm_I i), some (mm_I 0)] [] M d 0 := by
      refine hK2 _ _ _ _ _ _ ?_
      refine mm_run_at (stop := [22, 28]) (S := K) kkJ_getChars 90 ?_ (fun _ _ _ _ _ _ _ h => hK _ _ _ _ _ _ h)
      repeat' (first | with_reducible assumption | with_reducible exact True.intro | ((with_reducible show mm_rv _ _ _ _ _); first | exact True.intro | exact isU ha hne) | exact isU ha hne | ((with_reducible show mm_bool _ _); first | exact True.intro | exact Or.inl rfl | exact Or.inr rfl | (show (_ : Int) = 0 ∨ _ = 1)) | rfl | with_reducible exact Or.inl rfl | with_reducible exact Or.inr rfl | exact Nat.le_of_ble_eq_true rfl | refine And.intro ?_ ?_ | intro _)
      all_goals (try simp (disch := omega) only [lnU hne, InI, Int.toNat_natCast, Int.tmod_eq_emod_of_nonneg, Int.tdiv_eq_ediv_of_nonneg, true_implies, true_or, or_true, mm_l18, mm_l19, mm_l20, mm_l21, mm_l22] at *)
      all_goals first | omega | (simp only [mm_up_any, mm_any_any]; exact hq _ _) | skip
    refine ⟨Nat.le_of_ble_eq_true rfl, ?_⟩
    refine mm_run_at (stop := [22]) (S := K) kkJ_getChars 90 ?_ (fun _ _ _ _ _ _ _ h => hK _ _ _ _ _ _ h)
    repeat' (first | with_reducible assumption | with_reducible exact True.intro | ((with_reducible show mm_rv _ _ _ _ _); first | exact True.intro) | ((with_reducible show mm_bool _ _); first | exact True.intro | exact Or.inl rfl | exact Or.inr rfl | (show (_ : Int) = 0 ∨ _ = 1)) | rfl | with_reducible exact Or.inl rfl | with_reducible exact Or.inr rfl | exact Nat.le_of_ble_eq_true rfl | refine And.intro ?_ ?_ | intro _)
    all_goals (try simp (disch := omega) only [InI, Int.toNat_natCast, Int.tmod_eq_emod_of_nonneg, Int.tdiv_eq_ediv_of_nonneg, true_implies, true_or, or_true, mm_l18, mm_l19, mm_l20, mm_l21, mm_l22] at *)
    all_goals first | omega | exact k22 | skip
  · exact h.elim
theorem je_getChars {l : Launch} : mm_Jet l yJ_getChars prog_13_method_12_code 7 (some .int) 6 100 0 sp_J_getChars := mm_mtJ (own := "java/lang/Integer") rn_J_getChars ⟨by decide +kernel, rfl⟩ kkJ_getChars rfl ⟨by decide, by decide⟩ flJ_getChars_k (trivial) (by decide)
def kdJ_checkLength : List mm_E := [(0, .iload_n 1, 0), (1, .iload_n 0, 0), (2, .if_icmp .ge 35, 37), (5, .new 43, 0), (8, .dup, 0), (9, .new 45, 0), (12, .dup, 0), (13, .invokespecial 47, 0), (16, .iload_n 0, 0), (17, .invokevirtual 54, 0), (20, .ldc_w 337, 0), (23, .invokevirtual 50, 0), (26, .iload_n 1, 0), (27, .invokevirtual 54, 0), (30, .invokevirtual 61, 0), (33, .invokespecial 65, 0), (36, .athrow, 0), (37, .return_, 0)]
theorem kkJ_checkLength : mm_chk prog_22_method_131_code kdJ_checkLength = true := by decide +kernel
def yJ_checkLength : MethodName := ⟨"java/util/Arrays", "checkLength", "(II)V"⟩
theorem jw_checkLength : mm_JW yJ_checkLength prog_22_method_131_code 2 none := ⟨(mm_t5 148 rfl rfl), (mm_t1 18 rfl rfl), ⟨by decide, by decide⟩⟩
def sp_J_checkLength : mm_S := fun av M d Q => match av with
  | [.inl a, .inl b] =>  (a = 0 ∧ 0 ≤ b ∧ b ≤ 1000) ∧ Q (.inl none) M d
  | _ => False
def ct_J_checkLength : List (Nat × mm_Ca) := []
def flJ_checkLength : List (Nat × Nat × Nat) := []
theorem flJ_checkLength_k : ∀ q ∈ flJ_checkLength, mm_lj "java/util/Arrays" mm_U q.2.1 q.2.2 q.1 := fun _ h => nomatch h
abbrev rr_J_checkLength (Q : mm_Q) := mm_run (mm_look flJ_checkLength) (mm_look ct_J_checkLength) mm_x0 (mm_look ([] : List (Nat × Int))) (fun _ => none) 0 0 (fun _ _ => none) Q kdJ_checkLength
set_option maxRecDepth 20000 in
theorem rn_J_checkLength : mm_RN flJ_checkLength ct_J_checkLength mm_x0 [] 0 0 2 kdJ_checkLength sp_J_checkLength := by
  intro av M d Q h
  unfold sp_J_checkLength at h
  split at h
  · rename_i a b
    obtain ⟨⟨rfl, hb⟩, hq⟩ := h
    obtain ⟨K, hK, hK2⟩ : ∃ K : Nat → mm_K, (∀ t ls st M d u, K t ls st M d u → rr_J_checkLength Q t ls st M d u) ∧ (∀ t ls st M d u, rr_J_checkLength Q t ls st M d u → K t ls st M d u) := ⟨rr_J_checkLength Q, fun _ _ _ _ _ _ h => h, fun _ _ _ _ _ _ h => h⟩
    refine ⟨Nat.le_of_ble_eq_true rfl, mm_run_at (stop := []) (S := K) kkJ_checkLength 90 ?_ (fun _ _ _ _ _ _ _ h => hK _ _ _ _ _ _ h)⟩
    repeat' (first | with_reducible assumption | with_reducible exact True.intro | ((with_reducible show mm_rv _ _ _ _ _); first | exact True.intro) | ((with_reducible show mm_bool _ _); first | exact True.intro | exact Or.inl rfl | exact Or.inr rfl | (show (_ : Int) = 0 ∨ _ = 1)) | rfl | with_reducible exact Or.inl rfl | with_reducible exact Or.inr rfl | exact Nat.le_of_ble_eq_true rfl | refine And.intro ?_ ?_ | intro _)
    all_goals (try simp (disch := omega) only [InI, Int.toNat_natCast, Int.tmod_eq_emod_of_nonneg, Int.tdiv_eq_ediv_of_nonneg, true_implies, true_or, or_true, mm_l18, mm_l19, mm_l20, mm_l21, mm_l22] at *)
    all_goals first | omega | skip
  · exact h.elim
theorem je_checkLength {l : Launch} : mm_Jet l yJ_checkLength prog_22_method_131_code 2 none 6 100 0 sp_J_checkLength := mm_mtJ (own := "java/util/Arrays") rn_J_checkLength ⟨by decide +kernel, rfl⟩ kkJ_checkLength rfl ⟨by decide, by decide⟩ flJ_checkLength_k (trivial) (by decide)
def kdJ_copyOf : List mm_E := [(0, .iload_n 1, 0), (1, .aload_n 0, 0), (2, .arraylength, 0), (3, .if_icmp .ne 11, 14), (6, .aload_n 0, 0), (7, .invokevirtual 310, 0), (10, .checkcast 311, 0), (13, .areturn, 0), (14, .iload_n 1, 0), (15, .newarray .byte, 0), (17, .astore_n 2, 0), (18, .aload_n 0, 0), (19, .iconst 0, 0), (20, .aload_n 2, 0), (21, .iconst 0, 0), (22, .aload_n 0, 0), (23, .arraylength, 0), (24, .iload_n 1, 0), (25, .invokestatic 304, 0), (28, .invokestatic 150, 0), (31, .aload_n 2, 0), (32, .areturn, 0)]
theorem kkJ_copyOf : mm_chk prog_22_method_121_code kdJ_copyOf = true := by decide +kernel
def yJ_copyOf : MethodName := ⟨"java/util/Arrays", "copyOf", "([BI)[B"⟩
theorem jw_copyOf : mm_JW yJ_copyOf prog_22_method_121_code 3 (some (.array .byte)) := ⟨(mm_t5 7 rfl rfl), (mm_t1 18 rfl rfl), ⟨by decide, by decide⟩⟩
def sp_J_copyOf : mm_S := fun av M d Q => match av with
  | [.inr (.inr (.inl a)), .inl n] =>  mm_is M d a 3 ∧ (mm_ln M a : Int) < n ∧ n ≤ 220 ∧ ∀ o h9, 100 ≤ o → o ∉ d → Q (.inl (some (mm_R o))) (mm_any (mm_nob M o 3 n) o h9) (d ++ [o])
  | _ => False
def ct_J_copyOf : List (Nat × mm_Ca) := [(304, (1, 2, 0, sp_J_min, 0))]
def flJ_copyOf : List (Nat × Nat × Nat) := [(310, 0, 94), (311, 0, 93), (150, 0, 95)]
theorem flJ_copyOf_k : ∀ q ∈ flJ_copyOf, mm_lj "java/util/Arrays" mm_U q.2.1 q.2.2 q.1 := by
  intro q hq
  simp only [flJ_copyOf, List.mem_cons, List.not_mem_nil, or_false] at hq
  rcases hq with rfl | rfl | rfl
  · exact Or.inr ⟨by decide, (List.forall_mem_cons.mpr ⟨mm_T_U _ (mm_t5 8 rfl rfl), (List.forall_mem_cons.mpr ⟨mm_T_U _ (mm_t5 9 rfl rfl), (List.forall_mem_cons.mpr ⟨mm_T_U _ (mm_t5 10 rfl rfl), (List.forall_mem_cons.mpr ⟨mm_T_U _ (mm_t5 11 rfl rfl), (List.forall_mem_cons.mpr ⟨mm_T_U _ (mm_t5 12 rfl rfl), (fun _ h => nomatch h)⟩)⟩)⟩)⟩)⟩), (fun h => absurd h (by decide)), (fun h => absurd h (by decide))⟩
  · exact Or.inr ⟨by decide, (List.forall_mem_cons.mpr ⟨mm_T_U _ (mm_t5 14 rfl rfl), (fun _ h => nomatch h)⟩), (fun h => absurd h (by decide)), (fun h => absurd h (by decide))⟩
  · exact Or.inr ⟨by decide, (List.forall_mem_cons.mpr ⟨mm_T_U _ (mm_t5 18 rfl rfl), (List.forall_mem_cons.mpr ⟨mm_T_U _ (mm_t5 20 rfl rfl), (List.forall_mem_cons.mpr ⟨mm_T_U _ (mm_t5 19 rfl rfl), (List.forall_mem_cons.mpr ⟨mm_T_U _ (mm_t1 19 rfl rfl), (fun _ h => nomatch h)⟩)⟩)⟩)⟩), (fun h => absurd h (by decide)), (fun h => absurd h (by decide))⟩
abbrev rr_J_copyOf (Q : mm_Q) := mm_run (mm_look flJ_copyOf) (mm_look ct_J_copyOf) mm_x0 (mm_look ([] : List (Nat × Int))) (fun _ => none) 24 19 (fun _ _ => none) Q kdJ_copyOf
set_option maxRecDepth 20000 in
theorem rn_J_copyOf : mm_RN flJ_copyOf ct_J_copyOf mm_x0 [] 24 19 3 kdJ_copyOf sp_J_copyOf := by
  intro av M d Q h
  unfold sp_J_copyOf at h
  split at h
  · rename_i a n
    obtain ⟨ha, h1, h2, hq⟩ := h
    obtain ⟨K, hK, hK2⟩ : ∃ K : Nat → mm_K, (∀ t ls st M d u, K t ls st M d u → rr_J_copyOf Q t ls st M d u) ∧ (∀ t ls st M d u, rr_J_copyOf Q t ls st M d u → K t ls st M d u) := ⟨rr_J_copyOf Q, fun _ _ _ _ _ _ h => h, fun _ _ _ _ _ _ h => h⟩
    have k17 : ∀ o, 100 ≤ o → o ∉ d → K 17 [some (mm_R a), some (mm_I n), none] [mm_R o] (mm_nob M o 3 n) (d ++ [o]) (1 + n.toNat / 12) := by
      intro o ho hd
      have hq := hq o
      obtain ⟨b1, b2⟩ := isN (k' := 3) (n := n) ha ho hd
      obtain ⟨b3, b4⟩ := isNo (M := M) (d := d) (k := 3) (n := n) ho (by omega)
      obtain ⟨M1, e1⟩ : ∃ M1, mm_nob M o 3 n = M1 := ⟨_, rfl⟩
      rw [e1] at b1 b2 b3 b4 hq ⊢
      refine hK2 _ _ _ _ _ _ ?_
      refine mm_run_at (stop := []) (S := K) kkJ_copyOf 90 ?_ (fun _ _ _ _ _ _ _ h => hK _ _ _ _ _ _ h)
      repeat' (first | with_reducible assumption | with_reducible exact True.intro | ((with_reducible show mm_rv _ _ _ _ _); first | exact True.intro | exact b1.c) | exact b1.c | ((with_reducible show mm_bool _ _); first | exact True.intro | exact Or.inl rfl | exact Or.inr rfl | (show (_ : Int) = 0 ∨ _ = 1)) | rfl | with_reducible exact Or.inl rfl | with_reducible exact Or.inr rfl | exact Nat.le_of_ble_eq_true rfl | refine And.intro ?_ ?_ | intro _)
      all_goals (try simp (disch := omega) only [b2, b4, InI, Int.toNat_natCast, Int.tmod_eq_emod_of_nonneg, Int.tdiv_eq_ediv_of_nonneg, true_implies, true_or, or_true, mm_l18, mm_l19, mm_l20, mm_l21, mm_l22] at *)
      all_goals first | omega | exact hq _ ho hd | skip
    refine ⟨Nat.le_of_ble_eq_true rfl, ?_⟩
    refine mm_run_at (stop := [17]) (S := K) kkJ_copyOf 90 ?_ (fun _ _ _ _ _ _ _ h => hK _ _ _ _ _ _ h)
    repeat' (first | with_reducible assumption | with_reducible exact True.intro | ((with_reducible show mm_rv _ _ _ _ _); first | exact True.intro | exact ha.c) | exact ha.c | ((with_reducible show mm_bool _ _); first | exact True.intro | exact Or.inl rfl | exact Or.inr rfl | (show (_ : Int) = 0 ∨ _ = 1)) | rfl | with_reducible exact Or.inl rfl | with_reducible exact Or.inr rfl | exact Nat.le_of_ble_eq_true rfl | refine And.intro ?_ ?_ | intro _)
    all_goals (try simp (disch := omega) only [InI, Int.toNat_natCast, Int.tmod_eq_emod_of_nonneg, Int.tdiv_eq_ediv_of_nonneg, true_implies, true_or, or_true, mm_l18, mm_l19, mm_l20, mm_l21, mm_l22] at *)
    all_goals first | omega | exact k17 _ (by assumption) (by assumption) | skip
  · exact h.elim
theorem je_copyOf {l : Launch} : mm_Jet l yJ_copyOf prog_22_method_121_code 3 (some (.array .byte)) 6 100 19 sp_J_copyOf := mm_mtJ (own := "java/util/Arrays") rn_J_copyOf ⟨by decide +kernel, rfl⟩ kkJ_copyOf rfl ⟨by decide, by decide⟩ flJ_copyOf_k (⟨mm_semMin (mm_t5 15 rfl rfl) (mm_t5 16 rfl rfl) (mm_t1 17 rfl rfl) (mm_t5 17 rfl rfl) (Nat.le_of_ble_eq_true rfl) (Nat.le_of_ble_eq_true rfl), trivial⟩) (by decide)

