/-! what the start gives: the classes, the rows, the texts, the words -/
theorem wA_z {M : mm_M} (h2 : ∀ j, M 2 j = 0) (h3 : ∀ j, M 3 j = 0) (h4 : ∀ j, M 4 j = 0) (hw : ∀ w, isW3 w → ∀ j, M w j = 0) (h1 : M 16 1 = 0) (h5 : M 16 4 = 0) : wA M := by
  refine ⟨⟨by rw [h2]; omega, fun i _ => by rw [h3, h4]; omega, Or.inl (h2 5), by rw [h2]; omega, by rw [h2]; omega⟩, fun w hw1 => ?_, Or.inl h1, Or.inl h5, fun h => absurd h1 h⟩
  refine ⟨⟨by rw [hw w hw1]; omega, by rw [hw w hw1]; omega, fun i hi => ?_⟩, fun i j hi _ _ => ?_⟩ <;> (rw [hw w hw1] at hi; omega)
theorem LI0 : LI 0 M0 := by
  refine ⟨wA_z (fun j => by simp [M0]) (fun j => by simp [M0]) (fun j => by simp [M0]) (fun w h j => ?_) (by simp [M0]) (by simp [M0]), ⟨wA_z (fun j => ?_) (fun j => by simp [vX, M0]) (fun j => by simp [vX, M0]) (fun w h j => ?_) (by simp [vX, vXc, M0]) (by simp [vX, vXc, M0]), by simp [M0]⟩, ⟨⟨⟨?_, ?_, ?_, ?_, fun i hi => ?_⟩, fun w h => ⟨?_, ?_, fun i hi => ?_⟩, ⟨?_, fun h => ?_⟩, ?_, ?_, ?_⟩, WI_0 (by simp [M0])⟩, by simp [M0], by simp [M0]⟩
  · rcases h with rfl | rfl | rfl <;> simp [M0]
  · simp [vX, vX2, M0]
  · rcases h with rfl | rfl | rfl <;> simp [vX, vXw, M0]
  · simp [vX, vX2, M0]
  · simp [vX, vX2, M0]
  · simp [vX, vX2, M0]
  · simp [vX, vX2, M0]
  · simp [M0] at hi
    omega
  · rcases h with rfl | rfl | rfl <;> simp [vX, vXw, M0]
  · rcases h with rfl | rfl | rfl <;> simp [vX, vXw, M0]
  · rcases h with rfl | rfl | rfl <;> (simp [M0] at hi; omega)
  · simp [vX, vXc, M0]
  · simp [M0] at h
  · simp [vX, vX1, M0]
  · simp [vX, vX1, M0]
  · simp [vX, vX1, M0]
theorem mm_inst : ∀ q ∈ mm_cl, Jvm.Cond.instantiable q.1 q.2.2 ∈ lw_tbl := by decide +kernel
theorem st_K {args : Array Value} {s : State} (hts : ∀ w ∈ lw_tbl, w.before args s = true) : ∃ D : va_G, ∀ (c : Nat) (q : vw_C), mm_cl[c]? = some q → u_Kn s q.1 q.2.1 q.2.2 (D.1 c) (D.2 c) := by
  have h : ∀ c : Nat, ∃ x : ClassId × (Nat → Nat), ∀ q : vw_C, mm_cl[c]? = some q → u_Kn s q.1 q.2.1 q.2.2 x.1 x.2 := by
    intro c
    cases hq : mm_cl[c]? with
    | none => exact ⟨(0, fun _ => 0), fun q h => by cases h⟩
    | some q =>
      have hm := List.mem_of_getElem? hq
      obtain ⟨cC, iS, hk⟩ := u_known (ws := mm_T) (fun w hw => hts w (List.mem_filter.mp hw).1) (mm_T_cls q hm) (hts _ (mm_inst q hm))
      refine ⟨(cC, iS), fun q' h => ?_⟩
      cases h
      exact hk
  obtain ⟨f, hf⟩ := Classical.axiomOfChoice h
  exact ⟨(fun c => (f c).1, fun c => (f c).2), fun c q hq => hf c q hq⟩
theorem st_row {args : Array Value} {s : State} {ty : FieldType} (h : (Jvm.Cond.arrayClass ty).before args s = true) : ∃ cA : ClassId, ArrOfT s cA ty ∧ s.vm.findClass ("[" ++ ty.toString) = some cA := by
  obtain ⟨c, k, comp, h1, h2, h3⟩ := Cond.arrayClass_spec h
  exact ⟨c, fun n z => ⟨fun k h => (by cases h), k, h2, comp, h3⟩, h1⟩
theorem st_str {args : Array Value} {s : State} {own tx : String} {k : Nat} (h1 : (Jvm.Cond.stringRef own k tx).before args s = true) (h2 : (Jvm.Cond.exactly (.string own k) "java/lang/String").before args s = true) : ∃ sa, vk_R own k tx sa s := by
  obtain ⟨a, c, cA, kA, q1, -⟩ := Cond.exactly_spec (args := args) (first := s) (o := none) (s := s) (idx := []) (t := .string own k) (cls := "java/lang/String") h2
  exact ⟨a, vk_R.of h1 q1⟩
def st_n : Jvm.Cond := Jvm.Cond.and given_1 narrow_1
def st_eo (j : Nat) : Jvm.Cond := Jvm.Cond.eq (.elem (.static "java/lang/Integer" "DigitOnes" "[B") (.int (Int32.ofNat j))) (.int (Int32.ofNat (48 + j % 10)))
def st_et (j : Nat) : Jvm.Cond := Jvm.Cond.eq (.elem (.static "java/lang/Integer" "DigitTens" "[B") (.int (Int32.ofNat j))) (.int (Int32.ofNat (48 + j / 10)))
theorem st_digO : ∀ j : Nat, j < 100 → st_eo j ∈ flatC st_n := va_run (f := st_eo) (N := 100) (p := 14) (by decide +kernel)
theorem st_digT : ∀ j : Nat, j < 100 → st_et j ∈ flatC st_n := va_run (f := st_et) (N := 100) (p := 117) (by decide +kernel)
theorem st_dig {args : Array Value} {s : State} {n : String} {A : Nat → Prop} {f : Nat → Int32} (hl : (Jvm.Cond.laysStatic "java/lang/Integer" n "[B").before args s = true) (hini : (Jvm.Cond.initialized "java/lang/Integer").before args s = true) (harr : (Jvm.Cond.arrayOf (.static "java/lang/Integer" n "[B") .byte).before args s = true) (hle : (Jvm.Cond.eq (.length (.static "java/lang/Integer" n "[B")) (.int 100)).before args s = true)
    (hel : ∀ j : Nat, j < 100 → (Jvm.Cond.eq (.elem (.static "java/lang/Integer" n "[B") (.int (Int32.ofNat j))) (.int (f j))).before args s = true) (hA : ∀ a : Nat, a < s.heap.size → ¬ A a) : ∃ z : Nat, va_Z "java/lang/Integer" n "[B" (.ref z) A s s.heap ∧ ∃ f : Nat → Int32, va_T .byte z 100 (fun j => .int (f j)) A s s.heap := by
  obtain ⟨t, ht, hT⟩ := va_Tof (N := 100) (f := fun j => .int (f j)) (A := A) (by decide) harr (va_eqt hle) (fun j hj => va_eqt (hel j hj)) hA
  exact ⟨t, va_Zof hl hini ht hA, f, hT⟩
theorem st_J {args : Array Value} {s : State} {A : Nat → Prop} (hts : ∀ w ∈ lw_tbl, w.before args s = true) (hs : ∀ c ∈ flatC st_n, c.before args s = true) (hA : ∀ a : Nat, a < s.heap.size → ¬ A a) : ∃ z24 z25 z28 z29 : Nat, ∀ Ad : Nat → Nat, Ad 24 = z24 → Ad 25 = z25 → Ad 28 = z28 → Ad 29 = z29 → mm_J A Ad s := by
  obtain ⟨z24, g1, f1, g2⟩ := st_dig (args := args) (s := s) (n := "DigitOnes") (A := A) (f := fun j => Int32.ofNat (48 + j % 10)) (hts _ (by decide +kernel)) (hts _ (by decide +kernel)) (hs _ (by decide +kernel)) (hs _ (by decide +kernel)) (fun j hj => hs _ (st_digO j hj)) hA
  obtain ⟨z25, g3, f3, g4⟩ := st_dig (args := args) (s := s) (n := "DigitTens") (A := A) (f := fun j => Int32.ofNat (48 + j / 10)) (hts _ (by decide +kernel)) (hts _ (by decide +kernel)) (hs _ (by decide +kernel)) (hs _ (by decide +kernel)) (fun j hj => hs _ (st_digT j hj)) hA
  have g5 : va_Z RXS "COMPACT_STRINGS" "Z" (.int 1) A s s.heap := va_Zof (hts _ (by decide +kernel)) (hts _ (by decide +kernel)) (va_eqi (hs _ (by decide +kernel))) hA
  have g6 := st_str (args := args) (s := s) (own := RX3) (k := 240) (tx := "") (hts _ (by decide +kernel)) (hs _ (by decide +kernel))
  have g7 := st_str (args := args) (s := s) (own := RX5) (k := 216) (tx := "") (hts _ (by decide +kernel)) (hs _ (by decide +kernel))
  have o1 : ∀ i : Nat, i < 1 → i = 0 := fun i h => by omega
  obtain ⟨adK, adV, g8, g9⟩ := vk_Sof (args := args) (s := s) (N := 1) (tm := fun _ => .string RX5 221) (len := [1]) (byt := [[45]]) (A := A) (fun i h => by rw [o1 i h]; decide) (fun i h => hs _ (by decide +kernel)) (fun i h => hs _ (by decide +kernel)) (fun i h => hs _ (by decide +kernel)) (fun i h => by rw [o1 i h]; exact hs _ (by decide +kernel)) (fun i h j hj => by
    rw [o1 i h] at hj ⊢
    have : j = 0 := by
      have h1 : j < 1 := hj
      omega
    rw [this]
    exact hs _ (by decide +kernel)) (fun i j h h' hij => absurd ((o1 i h).trans (o1 j h').symm) hij) hA
  obtain ⟨k1, k2, k3, k4⟩ := g8.1 0 (by decide)
  have g10 : vk_R RX5 221 "-" (adK 0) s := vk_R.of (hts _ (by decide +kernel)) (g9 0 (by decide))
  refine ⟨z24, z25, adK 0, adV 0, fun Ad e1 e2 e3 e4 => ?_⟩
  unfold mm_J
  rw [e1, e2, e3, e4]
  exact ⟨g5, ⟨g1, f1, g2⟩, ⟨g3, f3, g4⟩, g6, g7, g10, k1, k2, k3, fun j => ([[45]].getD 0 ([] : List Int32)).getD j 0, k4, fun j hj => by
    have : j = 0 := by omega
    subst this
    decide⟩
theorem st_nwT : ∀ w ∈ mm_nw.drop 4, w ∈ lw_tbl := by decide +kernel
theorem st_prv : ∀ y ∈ mm_prv, Jvm.Cond.privateMethod y ∈ lw_tbl ∧ Jvm.Cond.instanceMethod y ∈ lw_tbl ∧ y.cls = RXA := by decide +kernel
theorem st_nw {args : Array Value} {s : State} (hts : ∀ w ∈ lw_tbl, w.before args s = true) : ∀ w ∈ mm_nw, va_Nw w s := by
  intro w hw
  rcases List.mem_append.mp hw with h | h
  · obtain ⟨y, hy, rfl⟩ := List.mem_map.mp h
    obtain ⟨h1, h2, h3⟩ := st_prv y hy
    exact va_Nw.of rfl (mm_selP (C9 := RXB) (z := ⟨"java/lang/AbstractStringBuilder", "isLatin1", "()Z"⟩) (n := 4) ⟨hts _ (by decide +kernel), h3.symm⟩ (by rw [h3]; exact ⟨by decide, by decide⟩) (hts _ (by decide +kernel)) (hts _ h1) (hts _ h2))
  · exact va_Nw.of (mm_nw_ot w hw) (hts _ (st_nwT w h))
theorem st_strsT : ∀ q ∈ mm_strs, Jvm.Cond.stringRef RX3 q.1 q.2 ∈ lw_tbl ∧ Jvm.Cond.exactly (.string RX3 q.1) "java/lang/String" ∈ flatC st_n := by decide +kernel
theorem st_G {args : Array Value} {s : State} {D : va_G} {E : mm_En} {Ad : Nat → Nat} (hts : ∀ w ∈ lw_tbl, w.before args s = true) (hs : ∀ c ∈ flatC st_n, c.before args s = true) (hK : va_K D mm_cl (mm_ty E) s) (hJ : mm_J (mm_AL s) Ad s) : mm_G (mm_AL s) D E Ad s := by
  have hA : ∀ a : Nat, a < s.heap.size → ¬ mm_AL s a := fun a h h2 => Nat.lt_irrefl _ (Nat.lt_of_lt_of_le h h2)
  exact ⟨hK, vx_Zqof (hts _ (by decide +kernel)) (hts _ (by decide +kernel)) (hs _ (by decide +kernel)) hA, vx_Zqof (hts _ (by decide +kernel)) (hts _ (by decide +kernel)) (hs _ (by decide +kernel)) hA, fun q hq => st_str (hts _ (st_strsT q hq).1) (hs _ (st_strsT q hq).2), st_nw hts, va_Nc.of (hs _ (by decide +kernel)), va_Nc.of (hs _ (by decide +kernel)), hJ⟩

