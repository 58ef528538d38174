section
/-! what a call does is one thing only: so two states that are the same to the eye stay so -/
def DR (V' U' : mm_M) (e e' r r' : Int) : Prop := e = e' ∧ (e = 0 ∨ e = 1 ∨ e = 2) ∧ (e = 0 → r = r') ∧ SE V' U'
theorem SE.t {A B : mm_M} (h : SE A B) : TE A B := h.1
theorem SE.w {A B : mm_M} {w : Nat} (h : SE A B) (hw : isW3 w) : SW A B w := h.2.1 w hw
theorem SE.ends {A B A' B' : mm_M} (h : SE A B) (a : SE A A') (b : SE B B') : SE A' B' := a.sy.tr (h.tr b)
theorem ok1_det {P P' : Prop} {V V' U U' : mm_M} {e e' r r' : Int} {R R' : Prop} (hS : SE V U) (h : ok1 P V V' e R) (g : ok1 P' U U' e' R') (hP : P ↔ P') (k : P → R → R' → r = r' ∧ SE V' U') : DR V' U' e e' r r' := by
  rcases h with ⟨a, b, c⟩ | ⟨a, b, c⟩ <;> rcases g with ⟨a', b', c'⟩ | ⟨a', b', c'⟩
  · exact ⟨by omega, by omega, fun h => by omega, hS.ends c c'⟩
  · exact absurd (hP.mpr a') a
  · exact absurd (hP.mp a) a'
  · have := k a c c'
    exact ⟨by omega, by omega, fun _ => this.1, this.2⟩
theorem ok2_det {P P' O O' : Prop} {V V' U U' : mm_M} {e e' r r' : Int} {R R' : Prop} (hS : SE V U) (h : ok2 P O V V' e R) (g : ok2 P' O' U U' e' R') (hP : P ↔ P') (hO : O ↔ O') (k : P → O → R → R' → r = r' ∧ SE V' U') : DR V' U' e e' r r' := by
  rcases h with ⟨a, b, c⟩ | ⟨a, b, c, d⟩ | ⟨a, b, c, d⟩ <;> rcases g with ⟨a', b', c'⟩ | ⟨a', b', c', d'⟩ | ⟨a', b', c', d'⟩
  · exact ⟨by omega, by omega, fun h => by omega, hS.ends c c'⟩
  · exact absurd (hP.mpr a') a
  · exact absurd (hP.mpr a') a
  · exact absurd (hP.mp a) a'
  · exact ⟨by omega, by omega, fun h => by omega, hS.ends d d'⟩
  · exact absurd (hO.mpr b') b
  · exact absurd (hP.mp a) a'
  · exact absurd (hO.mp b) b'
  · have := k a b d d'
    exact ⟨by omega, by omega, fun _ => this.1, this.2⟩
theorem no9_det {P P' : Prop} {V V' U U' : mm_M} {r r' : Int} {R R' : Prop} (hS : SE V U) (h : no9 P V V' r R) (g : no9 P' U U' r' R') (hP : P ↔ P') (k : P → R → R' → r = r' ∧ SE V' U') : r = r' ∧ SE V' U' := by
  rcases h with ⟨a, b, c⟩ | ⟨a, c⟩ <;> rcases g with ⟨a', b', c'⟩ | ⟨a', c'⟩
  · exact ⟨by omega, (hS.cnF).ends c c'⟩
  · exact absurd (hP.mpr a') a
  · exact absurd (hP.mp a) a'
  · exact k a c c'
theorem e0_det {V' U' : mm_M} {e e' r r' : Int} (h : e = 0) (g : e' = 0) (k : r = r' ∧ SE V' U') : DR V' U' e e' r r' := ⟨by omega, by omega, fun _ => k.1, k.2⟩
theorem cn_det {A B V' U' : mm_M} {r r' : Int} (hr : r = r') (h : SE A B) (a : SE (cnF A r) V') (b : SE (cnF B r') U') : r = r' ∧ SE V' U' := by
  subst hr
  exact ⟨rfl, (h.cnF).ends a b⟩
theorem b01_det {P P' : Prop} {r r' : Int} (h : b01 P r) (g : b01 P' r') (hP : P ↔ P') : r = r' := by
  obtain ⟨a, b⟩ := h
  obtain ⟨c, d⟩ := g
  have : r = 1 ↔ r' = 1 := by rw [b, d, hP]
  omega
theorem wk3 {a : Int} (h : iw a) : isW3 (wk a) := by
  unfold iw at h
  unfold isW3 wk
  omega
/-- parts of the state -/
theorem SE_gen {S : List Nat} {V U V1 U1 : mm_M} (hS : SE V U) (hf : fr S V V1) (hg : fr S U U1) (h1 : 1 ∉ S) (h2 : 2 ∉ S) (h3 : 3 ∉ S) (h4 : 4 ∉ S) (h16 : 16 ∉ S) (h : ∀ w, isW3 w → (w ∈ S ∨ w + 1 ∈ S) → SW V1 U1 w) : SE V1 U1 := by
  refine SE.mk hS ((TE.ofr hf h2 h3 h4).sy.tr (hS.t.tr (.ofr hg h2 h3 h4))) (fun w hw => ?_) ((CE.of (hf 16 h16)).sy.tr (hS.2.2.1.tr (.of (hg 16 h16)))) (hf 1 h1) (hg 1 h1)
  by_cases e : w ∈ S ∨ w + 1 ∈ S
  · exact h w hw e
  · exact (SW.ofr hf (fun h => e (Or.inl h)) (fun h => e (Or.inr h))).sy.tr ((hS.w hw).tr (.ofr hg (fun h => e (Or.inl h)) (fun h => e (Or.inr h))))
theorem SE_1 {w : Nat} {V U V1 U1 : mm_M} (hS : SE V U) (hw : isW3 w) (hf : fr [w, w + 1] V V1) (hg : fr [w, w + 1] U U1) (h : SW V1 U1 w) : SE V1 U1 := by
  have hl := isK_le hw.k
  refine SE_gen hS hf hg (by simp; omega) (by simp; omega) (by simp; omega) (by simp; omega) (by simp; omega) (fun v hv e => ?_)
  have hl2 := isK_le hv.k
  have : v = w := by
    simp at e
    rcases hw with rfl | rfl | rfl <;> rcases hv with rfl | rfl | rfl <;> omega
  rw [this]
  exact h
theorem SE_2 {w v : Nat} {V U V1 U1 : mm_M} (hS : SE V U) (hw : isW3 w) (hv : isW3 v) (hf : fr [w, w + 1, v, v + 1] V V1) (hg : fr [w, w + 1, v, v + 1] U U1) (h : SW V1 U1 w) (h2 : SW V1 U1 v) : SE V1 U1 := by
  have hl := isK_le hw.k
  have hl2 := isK_le hv.k
  refine SE_gen hS hf hg (by simp; omega) (by simp; omega) (by simp; omega) (by simp; omega) (by simp; omega) (fun x hx e => ?_)
  have hl3 := isK_le hx.k
  have : x = w ∨ x = v := by
    simp at e
    rcases hw with rfl | rfl | rfl <;> rcases hv with rfl | rfl | rfl <;> rcases hx with rfl | rfl | rfl <;> omega
  rcases this with rfl | rfl
  · exact h
  · exact h2
theorem ce_los {A B : mm_M} {w : Nat} (h : CE A B) : CE (losM A w) (losM B w) := by
  obtain ⟨a, b⟩ := h
  unfold losM
  by_cases e : A 16 1 = w
  · rw [if_pos e, if_pos (by rw [← a]; exact e)]
    refine ⟨by simp [mm_up]; exact a, fun _ => ⟨by simp [mm_up], fun h => by simp [mm_up] at h⟩⟩
  · rw [if_neg e, if_neg (by rw [← a]; exact e)]
    exact ⟨a, b⟩
theorem ce_losI {P P' : Prop} [Decidable P] [Decidable P'] {A B : mm_M} {w : Nat} (h : CE A B) (hP : P ↔ P') : CE (losI P A w) (losI P' B w) := by
  by_cases e : P
  · rw [losI_y e, losI_y (hP.mp e)]
    exact ce_los h
  · rw [losI_n e, losI_n (fun h2 => e (hP.mpr h2))]
    exact h
theorem CE.e {A B A' B' : mm_M} (h : CE A B) (a : A' 16 = A 16) (b : B' 16 = B 16) : CE A' B' := (CE.of a).sy.tr (h.tr (.of b))
theorem se_los {A B : mm_M} {w : Nat} (h : SE A B) : SE (losM A w) (losM B w) :=
  SE.mk h ((TE.of (losM_o (by omega)) (losM_o (by omega)) (losM_o (by omega))).sy.tr (h.t.tr (.of (losM_o (by omega)) (losM_o (by omega)) (losM_o (by omega))))) (fun v hv => by
    have hl := isK_le hv.k
    exact (SW.of (losM_o (by omega)) (losM_o (by omega))).sy.tr ((h.w hv).tr (.of (losM_o (by omega)) (losM_o (by omega))))) (ce_los h.2.2.1) (losM_o (by omega)) (losM_o (by omega))
theorem se_losI {P P' : Prop} [Decidable P] [Decidable P'] {A B : mm_M} {w : Nat} (h : SE A B) (hP : P ↔ P') : SE (losI P A w) (losI P' B w) := by
  by_cases e : P
  · rw [losI_y e, losI_y (hP.mp e)]
    exact se_los h
  · rw [losI_n e, losI_n (fun h2 => e (hP.mpr h2))]
    exact h
theorem te_end {A B : mm_M} (h : TE A B) : TE (endM A) (endM B) := by
  obtain ⟨a, b, c, d, f⟩ := h
  have e3 : ∀ W : mm_M, ∀ o, o ≠ 2 → endM W o = W o := fun W o ho => by unfold endM; rw [mm_up_o _ ho, mm_up_o _ ho]
  have e4 : ∀ W : mm_M, endM W 2 4 = W 2 4 := fun W => by simp [endM, mm_up]
  have e5 : ∀ W : mm_M, endM W 2 5 = W 2 5 := fun W => by simp [endM, mm_up]
  have e6 : ∀ W : mm_M, endM W 2 6 = 0 := fun W => by simp [endM, mm_up]
  have e7 : ∀ W : mm_M, endM W 2 7 = 0 := fun W => by simp [endM, mm_up]
  refine ⟨by rw [e4, e4]; exact a, by rw [e5, e5]; exact b, by rw [e6, e6], by rw [e7, e7], fun i hi => ?_⟩
  rw [e4] at hi
  rw [e3 _ _ (by omega), e3 _ _ (by omega), e3 _ _ (by omega), e3 _ _ (by omega)]
  exact f i hi
theorem te_add {A B : mm_M} {x y : Int} (h0 : 0 ≤ A 2 4) (h : TE A B) : TE (addS A x y) (addS B x y) := by
  obtain ⟨a, b, c, d, f⟩ := h
  have e2 : ∀ W : mm_M, ∀ j, addS W x y 2 j = if j = 4 then W 2 4 + 1 else W 2 j := fun W j => by simp [addS, mm_up]
  have e3 : ∀ W : mm_M, ∀ j, addS W x y 3 j = if j = (W 2 4).toNat then x else W 3 j := fun W j => by simp [addS, mm_up]
  have e4 : ∀ W : mm_M, ∀ j, addS W x y 4 j = if j = (W 2 4).toNat then y else W 4 j := fun W j => by simp [addS, mm_up]
  refine ⟨by rw [e2, e2, if_pos rfl, if_pos rfl, a], by rw [e2, e2]; exact b, by rw [e2, e2]; exact c, by rw [e2, e2]; exact d, fun i hi => ?_⟩
  rw [e2, if_pos rfl] at hi
  rw [e3, e3, e4, e4, ← a]
  by_cases e : i = (A 2 4).toNat
  · rw [if_pos e, if_pos e, if_pos e, if_pos e]
    exact ⟨rfl, rfl⟩
  · rw [if_neg e, if_neg e, if_neg e, if_neg e]
    exact f i (by omega)
/-- only the town is another -/
theorem SE_t {V U V1 U1 : mm_M} (hS : SE V U) (hf : fr [2, 3, 4] V V1) (hg : fr [2, 3, 4] U U1) (h : TE V1 U1) : SE V1 U1 :=
  SE.mk hS h (fun w hw => by
    have hl := isK_le hw.k
    exact (SW.ofr hf (by simp; omega) (by simp; omega)).sy.tr ((hS.w hw).tr (.ofr hg (by simp; omega) (by simp; omega)))) (hS.2.2.1.e (hf 16 (by simp)) (hg 16 (by simp))) (hf 1 (by simp)) (hg 1 (by simp))
theorem fr_end {V : mm_M} : fr [2, 3, 4] V (endM V) := (fr.rf.up (by simp)).up (by simp)
theorem fr_add {V : mm_M} {x y : Int} : fr [2, 3, 4] V (addS V x y) := ((fr.rf.up (by simp)).up (by simp)).up (by simp)
theorem se_end {A B : mm_M} (h : SE A B) : SE (endM A) (endM B) := SE_t h fr_end fr_end (te_end h.t)
theorem D_lay {a b : Int} {V U V' U' : mm_M} {e e' r r' : Int} (hV : wA V) (hS : SE V U) (h : C_lay a b V V' e r) (g : C_lay a b U U' e' r') : DR V' U' e e' r r' :=
  ok1_det hS h g Iff.rfl (fun _ h g => no9_det hS h g (by rw [hS.t.1]) (fun _ h g => cn_det (by rw [h.1, g.1, hS.t.1]) (SE_t (se_end hS) fr_add fr_add (te_add (by have := hV.1.1; simp [endM, mm_up]; omega) (te_end hS.t))) h.2 g.2))
theorem D_layRing {a b : Int} {V U V' U' : mm_M} {e e' r r' : Int} (hV : wA V) (hS : SE V U) (h : C_layRing a b V V' e r) (g : C_layRing a b U U' e' r') : DR V' U' e e' r r' :=
  ok1_det hS h g Iff.rfl (fun _ h g => no9_det hS h g (by rw [hS.t.1]) (fun _ h g => by
    obtain ⟨h1, V1, h2, h3⟩ := h
    obtain ⟨g1, U1, g2, g3⟩ := g
    refine cn_det (by rw [h1, g1, hS.t.1]) (SE_t (se_end hS) h2.1 g2.1 ?_) h3 g3
    obtain ⟨t1, t2, t3, t4, t5⟩ := te_end hS.t
    obtain ⟨-, a1, a2, a3, a4⟩ := h2
    obtain ⟨-, b1, b2, b3, b4⟩ := g2
    have n0 : 0 ≤ endM V 2 4 := by have := hV.1.1; simp [endM, mm_up]; omega
    refine ⟨by rw [a2, b2, t1], by rw [a1 5 (by omega), b1 5 (by omega), t2], by rw [a1 6 (by omega), b1 6 (by omega), t3], by rw [a1 7 (by omega), b1 7 (by omega), t4], fun i hi => ?_⟩
    by_cases e : (i : Int) < endM V 2 4
    · rw [(a3 i e).1, (a3 i e).2, (b3 i (by omega)).1, (b3 i (by omega)).2]
      exact t5 i e
    · have x := a4 (i - (endM V 2 4).toNat) (by omega)
      have y := b4 (i - (endM V 2 4).toNat) (by omega)
      rw [show (endM V 2 4).toNat + (i - (endM V 2 4).toNat) = i by omega] at x
      rw [← t1, show (endM V 2 4).toNat + (i - (endM V 2 4).toNat) = i by omega] at y
      rw [x.1, x.2, y.1, y.2]
      exact ⟨rfl, rfl⟩))
theorem D_words {a b : Int} {V U V' U' : mm_M} {e e' r r' : Int} (hS : SE V U) (h : C_words a b V V' e r) (g : C_words a b U U' e' r') : DR V' U' e e' r r' :=
  ok1_det hS h g Iff.rfl (fun _ h g => no9_det hS h g Iff.rfl (fun _ h g => by
    obtain ⟨h1, V1, h2, h3⟩ := h
    obtain ⟨g1, U1, g2, g3⟩ := g
    obtain ⟨a1, a2, a3, a4, a5, a6, a7, a8⟩ := h2
    obtain ⟨b1, b2, b3, b4, b5, b6, b7, b8⟩ := g2
    obtain ⟨n1, n2, n3⟩ := hS.2.2.2
    refine cn_det (by rw [h1, g1]) ⟨⟨by rw [a2, b2], by rw [a3, b3], by rw [a4, b4], by rw [a5, b5], fun i hi => ?_⟩, fun w hw => ?_, ⟨by rw [a8, b8], fun h => absurd a8 h⟩, ?_⟩ h3 g3
    · rw [a2] at hi
      rw [(a6 i hi).1, (a6 i hi).2, (b6 i hi).1, (b6 i hi).2]
      exact ⟨rfl, rfl⟩
    · exact ⟨by rw [(a7 w hw).1, (b7 w hw).1], by rw [(a7 w hw).2, (b7 w hw).2], fun i hi => by rw [(a7 w hw).1] at hi; omega⟩
    · exact ⟨by rw [← a1.1, ← b1.1, n1], by rw [← a1.2.1, ← b1.2.1, n2], by rw [← a1.2.2, ← b1.2.2, n3]⟩))
theorem D_close {s : Int} {V U V' U' : mm_M} {e e' r r' : Int} (hS : SE V U) (h : C_close s V V' e r) (g : C_close s U U' e' r') : DR V' U' e e' r r' :=
  ok1_det hS h g (by unfold is; rw [hS.t.1]) (fun hs h g => no9_det hS h g (forall_congr' fun w => forall_congr' fun hw => wN_te (hS.w hw)) (fun _ h g => by
    obtain ⟨h1, V1, h2, h3⟩ := h
    obtain ⟨g1, U1, g2, g3⟩ := g
    obtain ⟨a1, a2, a3, a4, a5, a6, a7, a8, a9⟩ := h2
    obtain ⟨b1, b2, b3, b4, b5, b6, b7, b8, b9⟩ := g2
    obtain ⟨n1, n2, n3⟩ := hS.2.2.2
    obtain ⟨t1, t2, t3, t4, t5⟩ := hS.t
    have hs2 : 0 ≤ s ∧ s < V 2 4 := hs
    refine cn_det (by rw [h1, g1, t1]) ⟨⟨by rw [a3, b3, t1], by rw [a4, b4, t2], by rw [a5, b5], by rw [a6, b6], fun i hi => ?_⟩, fun w hw => ren_det (hS.w hw) (a9 w hw) (b9 w hw), a2.sy.tr (hS.2.2.1.tr b2), ?_⟩ h3 g3
    · rw [a3] at hi
      by_cases e : (i : Int) < s
      · rw [(a7 i e).1, (a7 i e).2, (b7 i e).1, (b7 i e).2]
        exact t5 i (by omega)
      · have x := a8 i (by omega) (by omega)
        have y := b8 i (by omega) (by omega)
        rw [x.1, x.2, y.1, y.2]
        exact t5 (i + 1) (by omega)
    · exact ⟨by rw [← a1.1, ← b1.1, n1], by rw [← a1.2.1, ← b1.2.1, n2], by rw [← a1.2.2, ← b1.2.2, n3]⟩))
theorem D_clear {V U V' U' : mm_M} {e e' r r' : Int} (hS : SE V U) (h : C_clear V V' e r) (g : C_clear U U' e' r') : DR V' U' e e' r r' := by
  obtain ⟨h0, h1, V1, h2, h3⟩ := h
  obtain ⟨g0, g1, U1, g2, g3⟩ := g
  obtain ⟨a1, a2, a3, a4, a5, a7, a8⟩ := h2
  obtain ⟨b1, b2, b3, b4, b5, b7, b8⟩ := g2
  obtain ⟨n1, n2, n3⟩ := hS.2.2.2
  refine e0_det h0 g0 (cn_det (by rw [h1, g1, hS.t.1]) ⟨⟨by rw [a2, b2], by rw [a3, b3], by rw [a4, b4], by rw [a5, b5], fun i hi => by rw [a2] at hi; omega⟩, fun w hw => ?_, ⟨by rw [a8, b8], fun h => absurd a8 h⟩, ?_⟩ h3 g3)
  · exact ⟨by rw [(a7 w hw).1, (b7 w hw).1], by rw [(a7 w hw).2, (b7 w hw).2], fun i hi => by rw [(a7 w hw).1] at hi; omega⟩
  · exact ⟨by rw [← a1.1, ← b1.1, n1], by rw [← a1.2.1, ← b1.2.1, n2], by rw [← a1.2.2, ← b1.2.2, n3]⟩
theorem bk_te {V U : mm_M} (hS : SE V U) (h : bkP V) : bkP U := by
  obtain ⟨w, hw, i, hi, h2⟩ := h
  have hW := hS.w hw
  exact ⟨w, hw, i, by rw [← hW.1]; exact hi, by rw [← hW.2.2 i hi]; exact h2⟩
theorem D_oneWay {f : Int} {V U V' U' : mm_M} {e e' r r' : Int} (hS : SE V U) (h : C_oneWay f V V' e r) (g : C_oneWay f U U' e' r') : DR V' U' e e' r r' :=
  e0_det h.1 g.1 (no9_det hS h.2 g.2 ⟨fun h h2 => h ⟨h2.1, bk_te hS.sy h2.2⟩, fun h h2 => h ⟨h2.1, bk_te hS h2.2⟩⟩ (fun _ h g => cn_det (by rw [h.1, g.1, hS.t.2.1]) (SE_t hS (fr.rf.up (by simp)) (fr.rf.up (by simp)) (by
    obtain ⟨t1, t2, t3, t4, t5⟩ := hS.t
    refine ⟨by simp [mm_up]; exact t1, by simp [mm_up], by simp [mm_up]; exact t3, by simp [mm_up]; exact t4, fun i hi => ?_⟩
    rw [mm_up_ob2 (by omega)] at hi
    rw [mm_up_o _ (by omega), mm_up_o _ (by omega), mm_up_o _ (by omega), mm_up_o _ (by omega)]
    exact t5 i hi)) h.2 g.2))
theorem D_turnTown {V U V' U' : mm_M} {e e' r r' : Int} (hV : wA V) (hS : SE V U) (h : C_turnTown V V' e r) (g : C_turnTown U U' e' r') : DR V' U' e e' r r' := by
  obtain ⟨h0, h1, V1, h2, h3⟩ := h
  obtain ⟨g0, g1, U1, g2, g3⟩ := g
  obtain ⟨a1, a2, a3, a4, a5, a6, a7, a8⟩ := h2
  obtain ⟨b1, b2, b3, b4, b5, b6, b7, b8⟩ := g2
  obtain ⟨n1, n2, n3⟩ := hS.2.2.2
  obtain ⟨t1, t2, t3, t4, t5⟩ := hS.t
  refine e0_det h0 g0 (cn_det (by rw [h1, g1, t1]) ⟨⟨by rw [a3, b3, t1], by rw [a4, b4, t2], by rw [a5, b5], by rw [a6, b6], fun i hi => ?_⟩, fun w hw => rev_det hS.t (hS.w hw) (hV.2.1 w hw).1 (a8 w hw) (b8 w hw), a2.sy.tr (hS.2.2.1.tr b2), ?_⟩ h3 g3)
  · rw [a3] at hi
    rw [(a7 i hi).1, (a7 i hi).2, (b7 i (by omega)).1, (b7 i (by omega)).2]
    exact ⟨(t5 i hi).2, (t5 i hi).1⟩
  · exact ⟨by rw [← a1.1, ← b1.1, n1], by rw [← a1.2.1, ← b1.2.1, n2], by rw [← a1.2.2, ← b1.2.2, n3]⟩
theorem te_n {A B : mm_M} (h : TE A B) (h0 : 0 ≤ A 2 4) : (∀ i, i < (A 2 4).toNat → A 3 i = B 3 i) ∧ (∀ i, i < (A 2 4).toNat → A 4 i = B 4 i) := ⟨fun i hi => (h.2.2.2.2 i (by omega)).1, fun i hi => (h.2.2.2.2 i (by omega)).2⟩
theorem D_streets {V U V' U' : mm_M} {e e' r r' : Int} (hS : SE V U) (h : C_streets V V' e r) (g : C_streets U U' e' r') : DR V' U' e e' r r' :=
  e0_det h.1 g.1 ⟨by rw [h.2.1, g.2.1, hS.t.1], hS.ends h.2.2 g.2.2⟩
theorem D_end {s f : Int} {V U V' U' : mm_M} {e e' r r' : Int} (hS : SE V U) (h : C_end s f V V' e r) (g : C_end s f U U' e' r') : DR V' U' e e' r r' :=
  ok1_det hS h g (by unfold is; rw [hS.t.1]) (fun hs h g => ⟨by
    have hs2 : 0 ≤ s ∧ s < V 2 4 := hs
    have := hS.t.2.2.2.2 s.toNat (by omega)
    rw [h.1, g.1, this.1, this.2], hS.ends h.2 g.2⟩)
theorem D_ways {c x : Int} {V U V' U' : mm_M} {e e' r r' : Int} (hV : wA V) (hS : SE V U) (h : C_ways c x V V' e r) (g : C_ways c x U U' e' r') : DR V' U' e e' r r' :=
  ok2_det hS h g Iff.rfl Iff.rfl (fun _ _ h g => ⟨by
    have t := te_n hS.t hV.1.1.1
    rw [h.1, g.1]
    unfold al
    rw [← hS.t.1, oc_te _ t.1, oc_te _ t.2], hS.ends h.2 g.2⟩)
theorem D_odd {V U V' U' : mm_M} {e e' r r' : Int} (hV : wA V) (hS : SE V U) (h : C_odd V V' e r) (g : C_odd U U' e' r') : DR V' U' e e' r r' :=
  e0_det h.1 g.1 ⟨by
    have t := te_n hS.t hV.1.1.1
    rw [h.2.1, g.2.1]
    unfold al
    rw [← hS.t.1, ← hS.t.2.1]
    exact odn_te t.1 t.2 10, hS.ends h.2.2 g.2.2⟩
theorem HG_te2 {V U : mm_M} (hV : wA V) (hT : TE V U) : HG (V 3) (V 4) (V 2 4).toNat (al V) ↔ HG (U 3) (U 4) (U 2 4).toNat (al U) := by
  have t := te_n hT hV.1.1.1
  unfold al
  rw [← hT.1]
  exact ⟨HG_te t.1 t.2, HG_te (fun i hi => (t.1 i hi).symm) (fun i hi => (t.2 i hi).symm)⟩
theorem ST_te2 {V U : mm_M} {c : Int} (hT : TE V U) : STV V (al V) c ↔ STV U (al U) c := by
  rw [show al U = al V by unfold al; rw [hT.1]]
  exact ST_te hT
theorem D_hangs {V U V' U' : mm_M} {e e' r r' : Int} (hV : wA V) (hS : SE V U) (h : C_hangs V V' e r) (g : C_hangs U U' e' r') : DR V' U' e e' r r' :=
  e0_det h.1 g.1 ⟨b01_det h.2.1 g.2.1 (HG_te2 hV hS.t), hS.ends h.2.2 g.2.2⟩
theorem kd_det {V U : mm_M} {r r' : Int} (hV : wA V) (hT : TE V U) (h : kdR (V 3) (V 4) (V 2 4).toNat (V 2 5) r) (g : kdR (U 3) (U 4) (U 2 4).toNat (U 2 5) r') : r = r' := by
  have t := te_n hT hV.1.1.1
  have e1 := HG_te2 hV hT
  have e2 : odn (V 3) (V 4) (V 2 4).toNat (V 2 5) (2 ^ (V 2 4).toNat - 1) 10 = odn (U 3) (U 4) (U 2 4).toNat (U 2 5) (2 ^ (U 2 4).toNat - 1) 10 := by
    rw [← hT.1, ← hT.2.1]
    exact odn_te t.1 t.2 10
  have e3 : ∀ c, ST (V 3) (V 4) (V 2 4).toNat (V 2 5) (2 ^ (V 2 4).toNat - 1) c ↔ ST (U 3) (U 4) (U 2 4).toNat (U 2 5) (2 ^ (U 2 4).toNat - 1) c := fun c => ST_te2 (c := c) hT
  unfold al at e1
  unfold kdR at h g
  rw [← e1, ← e2] at g
  rcases h with ⟨a, b⟩ | ⟨a, b⟩ <;> rcases g with ⟨a', b'⟩ | ⟨a', b'⟩
  · rw [b, b']
  · exact absurd a a'
  · exact absurd a' a
  · rcases b with ⟨b, c, x, y⟩ | ⟨b, x⟩ <;> rcases b' with ⟨b', c', x', y'⟩ | ⟨b', x'⟩
    · rw [b, b']
    · exact absurd ((e3 c).mp y) (x' c x)
    · exact absurd ((e3 c').mpr y') (x c' x')
    · rw [b, b']
theorem D_kind {V U V' U' : mm_M} {e e' r r' : Int} (hV : wA V) (hS : SE V U) (h : C_kind V V' e r) (g : C_kind U U' e' r') : DR V' U' e e' r r' :=
  e0_det h.1 g.1 ⟨kd_det hV hS.t h.2.1 g.2.1, hS.ends h.2.2 g.2.2⟩
theorem D_isStart {c : Int} {V U V' U' : mm_M} {e e' r r' : Int} (hS : SE V U) (h : C_isStart c V V' e r) (g : C_isStart c U U' e' r') : DR V' U' e e' r r' :=
  ok1_det hS h g Iff.rfl (fun _ h g => ⟨b01_det h.1 g.1 (ST_te2 hS.t), hS.ends h.2 g.2⟩)
theorem D_rule {x : Int} {V U V' U' : mm_M} {e e' r r' : Int} (hS : SE V U) (h : C_rule x V V' e r) (g : C_rule x U U' e' r') : DR V' U' e e' r r' :=
  ok1_det hS h g Iff.rfl (fun _ h g => ⟨by rw [h.1, g.1, hS.t.2.1, hS.t.2.2.1, hS.t.2.2.2.1], hS.ends h.2 g.2⟩)
theorem bg_SW {A B : mm_M} {w : Nat} {c : Int} : SW (bgM A w c) (bgM B w c) w := by
  have e : ∀ W : mm_M, bgM W w c w 2 = 0 ∧ bgM W w c w 3 = c := fun W => by simp [bgM, mm_up]
  exact ⟨by rw [(e A).1, (e B).1], by rw [(e A).2, (e B).2], fun i hi => by rw [(e A).1] at hi; omega⟩
theorem bg_fr {A : mm_M} {w : Nat} {c : Int} : fr [w, w + 1] A (bgM A w c) := (fr.rf.up (by simp)).up (by simp)
theorem D_begin {a c : Int} {V U V' U' : mm_M} {e e' r r' : Int} (hS : SE V U) (h : C_begin a c V V' e r) (g : C_begin a c U U' e' r') : DR V' U' e e' r r' :=
  ok1_det hS h g Iff.rfl (fun hp h g => by
    have hw := hS.w (wk3 hp.1)
    exact cn_det (by rw [h.1, g.1, hw.1]) (se_losI (SE_1 hS (wk3 hp.1) bg_fr bg_fr bg_SW) (by rw [hw.1])) h.2 g.2)
theorem D_step {a s f : Int} {V U V' U' : mm_M} {e e' r r' : Int} (hV : wA V) (hS : SE V U) (h : C_step a s f V V' e r) (g : C_step a s f U U' e' r') : DR V' U' e e' r r' :=
  ok1_det hS h g (by unfold is; rw [hS.t.1]) (fun hp h g => by
    obtain ⟨V1, h1, h2⟩ := h
    obtain ⟨U1, g1, g2⟩ := g
    have k3 := wk3 hp.1
    obtain ⟨er, hw⟩ := ws_det hS.t (hS.w k3) k3.k (hV.2.1 _ k3).1 hp.2 h1 g1
    have hfr : ∀ {X Y : mm_M} {q : Int}, wsR X Y (wk a) s f q → fr [wk a, wk a + 1] X Y := fun hq => by
      rcases hq with ⟨_, _, e⟩ | ⟨_, _, e, _⟩
      · rw [e]; exact fr.rf
      · exact e
    exact cn_det er (se_losI (SE_1 hS k3 (hfr h1) (hfr g1) hw) (by rw [er])) h2 g2)
theorem D_back {a f : Int} {V U V' U' : mm_M} {e e' r r' : Int} (hV : wA V) (hS : SE V U) (h : C_back a f V V' e r) (g : C_back a f U U' e' r') : DR V' U' e e' r r' :=
  ok1_det hS h g Iff.rfl (fun hp h g => by
    have k3 := wk3 hp
    have hw := hS.w k3
    have v1 := (hV.2.1 _ k3).1.1
    refine no9_det hS h g (by rw [hw.1]) (fun hn h g => ?_)
    obtain ⟨h1, V1, ⟨h2, h3, h4, h5⟩, h6⟩ := h
    obtain ⟨g1, U1, ⟨g2, g3, g4, g5⟩, g6⟩ := g
    have ec := cor_te (p := 1) hS.t hw (hV.2.1 _ k3).1
    refine cn_det ?_ (se_los (SE_1 hS k3 h2 g2 ⟨by rw [h3, g3, hw.1], by rw [h4, g4, hw.2.1, ec], fun i hi => ?_⟩)) h6 g6
    · rw [h1, g1, ← hw.1]
      refine hw.2.2 _ ?_
      split <;> omega
    · rw [h5 i (by omega), g5 i (by rw [← hw.1]; omega)]
      refine hw.2.2 _ ?_
      split <;> omega)
theorem D_on {a f : Int} {V U V' U' : mm_M} {e e' r r' : Int} (hf : f = 0 ∨ f = 1) (hV : wA V) (hS : SE V U) (h : C_on a f V V' e r) (g : C_on a f U U' e' r') : DR V' U' e e' r r' :=
  ok1_det hS h g Iff.rfl (fun hp h g => by
    have k3 := wk3 hp
    have hw := hS.w k3
    obtain ⟨V1, n, h1, h2, h3⟩ := h
    obtain ⟨U1, m, g1, g2, g3⟩ := g
    rw [← hw.1] at g1
    obtain ⟨en, es⟩ := goR_det hf k3.k n m _ V U V1 U1 hS.t hw (hV.2.1 _ k3).1 h1 g1
    have er : r = r' := by rw [h2, g2, en]
    exact cn_det er (se_losI (SE_1 hS k3 (goR_fr _ _ _ _ h1) (goR_fr _ _ _ _ g1) es) (by rw [er])) h3 g3)
theorem SE.scr5 {A B : mm_M} (h : fr [5, 6] A B) : SE A B := .scr (h.mono (by simp))
theorem D_complete {a f : Int} {V U V' U' : mm_M} {e e' r r' : Int} (hf : f = 0 ∨ f = 1) (hV : wA V) (hS : SE V U) (h : C_complete a f V V' e r) (g : C_complete a f U U' e' r') : DR V' U' e e' r r' :=
  ok1_det hS h g Iff.rfl (fun hp h g => by
    have k3 := wk3 hp
    have hw := hS.w k3
    refine no9_det hS h g (by rw [← hw.2.1]; exact ST_te2 hS.t) (fun _ h g => ?_)
    obtain ⟨V0, V1, n, h0, h1, h2, h3, h4⟩ := h
    obtain ⟨U0, U1, m, g0, g1, g2, g3, g4⟩ := g
    have hS0 : SE V0 U0 := hS.ends (.scr5 h0) (.scr5 g0)
    have hv0 : wV V0 (wk a) := ((hV.s h0).1.2.1 _ k3).1
    obtain ⟨en, es⟩ := comR_det hf k3.k hS0.t (hS0.w k3) hv0 h1 g1
    have er : r = r' := by rw [h3, g3, en]
    exact cn_det er (se_losI (SE_1 hS0 k3 h2 g2 es) (by rw [er])) h4 g4)
theorem rd_te {V U : mm_M} {w v : Nat} (hV : wA V) (hS : SE V U) (hw : isW3 w) (hv : isW3 v) : rdR V w v ↔ rdR U w v := rdR_te hS.t (hS.w hw) (hS.w hv) (hV.2.1 _ hv).1
theorem cr_te {V U : mm_M} {w : Nat} {p : Int} (hV : wA V) (hS : SE V U) (hw : isW3 w) : cor V w p = cor U w p := cor_te hS.t (hS.w hw) (hV.2.1 _ hw).1
theorem fr3_4 {w v : Nat} {A B : mm_M} (h : fr [w, w + 1, v] A B) : fr [w, w + 1, v, v + 1] A B := h.mono (by simp)
theorem D_splice {a b p : Int} {V U V' U' : mm_M} {e e' r r' : Int} (hV : wA V) (hS : SE V U) (h : C_splice a b p V V' e r) (g : C_splice a b p U U' e' r') : DR V' U' e e' r r' :=
  ok1_det hS h g ⟨fun h => ⟨h.1, h.2.1, by unfold onW; rw [← (hS.w (wk3 h.1)).1]; exact h.2.2⟩, fun h => ⟨h.1, h.2.1, by unfold onW; rw [(hS.w (wk3 h.1)).1]; exact h.2.2⟩⟩ (fun hp h g => by
    have k3 := wk3 hp.1
    have j3 := wk3 hp.2.1
    have hw := hS.w k3
    have hv := hS.w j3
    refine no9_det hS h g (by rw [rd_te hV hS k3 j3, hv.2.1, cr_te hV hS k3]) (fun hq h g => ?_)
    obtain ⟨h1, V1, h2, h3, h4⟩ := h
    obtain ⟨g1, U1, g2, g3, g4⟩ := g
    obtain ⟨e1, e2⟩ := spl_det hw hv (hV.2.1 _ k3).1.1.1 (hV.2.1 _ j3).1.1.1 hp.2.2 h2 g2
    exact cn_det (by rw [h1, g1, hw.1, hv.1]) (se_los (se_los (SE_2 hS k3 j3 (fr3_4 h3) (fr3_4 g3) e1 e2))) h4 g4)
theorem mt_det {V U : mm_M} {w v i j i' j' : Nat} (hV : wA V) (hS : SE V U) (hw : isW3 w) (hv : isW3 v) (h : mtR V w v i j) (g : mtR U w v i' j') : i = i' ∧ j = j' := by
  have ew := hS.w hw
  have ev := hS.w hv
  have cw := fun p => cr_te (p := p) hV hS hw
  have cv := fun p => cr_te (p := p) hV hS hv
  obtain ⟨a1, a2, a3, a4, a5⟩ := h
  obtain ⟨b1, b2, b3, b4, b5⟩ := g
  rw [← ew.1] at b1
  rw [← ev.1] at b2 b4
  rw [← cw, ← cv] at b3
  have c4 : ∀ x y : Nat, x < i' → (y : Int) < V v 2 → cor V w x ≠ cor V v y := fun x y hx hy => by rw [cw, cv]; exact b4 x y hx hy
  have c5 : ∀ y : Nat, y < j' → cor V w i' ≠ cor V v y := fun y hy => by rw [cw, cv]; exact b5 y hy
  have e1 : i = i' := by
    rcases Nat.lt_trichotomy i i' with h | h | h
    · exact absurd a3 (c4 i j h a2)
    · exact h
    · exact absurd b3 (a4 i' j' h b2)
  subst e1
  refine ⟨rfl, ?_⟩
  rcases Nat.lt_trichotomy j j' with h | h | h
  · exact absurd a3 (c5 j h)
  · exact h
  · exact absurd b3 (a5 j' h)
theorem D_join {a b : Int} {V U V' U' : mm_M} {e e' r r' : Int} (hV : wA V) (hS : SE V U) (h : C_join a b V V' e r) (g : C_join a b U U' e' r') : DR V' U' e e' r r' :=
  ok1_det hS h g Iff.rfl (fun hp h g => by
    have k3 := wk3 hp.1
    have j3 := wk3 hp.2
    have hw := hS.w k3
    have hv := hS.w j3
    have cw := fun p => cr_te (p := p) hV hS k3
    have cv := fun p => cr_te (p := p) hV hS j3
    refine no9_det hS h g ?_ (fun hq h g => ?_)
    · rw [rd_te hV hS k3 j3, hw.1, hv.1]
      constructor
      · rintro ⟨x, i, j, y1, y2, y3⟩
        exact ⟨x, i, j, y1, y2, by rw [← cw, ← cv]; exact y3⟩
      · rintro ⟨x, i, j, y1, y2, y3⟩
        exact ⟨x, i, j, y1, y2, by rw [cw, cv]; exact y3⟩
    · obtain ⟨i, j, h0, h1, V1, V2, h2, h3, h4, h5, h6⟩ := h
      obtain ⟨i', j', g0, g1, U1, U2, g2, g3, g4, g5, g6⟩ := g
      obtain ⟨rfl, rfl⟩ := mt_det hV hS k3 j3 h0 g0
      have hne : wk a ≠ wk b := hq.1.1
      have hS1 : SE V1 U1 := SE_1 hS j3 h3 g3 (rot_det hS.t hv (hV.2.1 _ j3).1 h2 g2)
      have hl := isK_le k3.k
      have hl2 := isK_le j3.k
      have hap := wk_ap k3.k j3.k hne
      have e1 : V1 (wk a) = V (wk a) := h3 (wk a) (by simp; omega)
      have x1 := (hV.2.1 _ k3).1.1.1
      have x2 := (hV.2.1 _ j3).1.1.1
      obtain ⟨f1, f2⟩ := spl_det (hS1.w k3) (hS1.w j3) (by rw [e1]; exact x1) (by rw [h2.1]; exact x2) ⟨by omega, by rw [e1]; exact h0.1⟩ h4 g4
      exact cn_det (by rw [h1, g1]) (se_los (se_los (SE_2 hS1 k3 j3 (fr3_4 h5) (fr3_4 g5) f1 f2))) h6 g6)
theorem D_cut {a p q b : Int} {V U V' U' : mm_M} {e e' r r' : Int} (hV : wA V) (hS : SE V U) (h : C_cut a p q b V V' e r) (g : C_cut a p q b U U' e' r') : DR V' U' e e' r r' :=
  ok1_det hS h g ⟨fun h => ⟨h.1, h.2.1, by unfold onW; rw [← (hS.w (wk3 h.1)).1]; exact h.2.2⟩, fun h => ⟨h.1, h.2.1, by have := h.2.2; unfold onW at this ⊢; rw [(hS.w (wk3 h.1)).1]; exact this⟩⟩ (fun hp h g => by
    have k3 := wk3 hp.1
    have j3 := wk3 hp.2.1
    have hw := hS.w k3
    refine no9_det hS h g (by unfold cutP; rw [cr_te hV hS k3, cr_te hV hS k3]) (fun hq h g => ?_)
    obtain ⟨h1, V1, h2, h3, h4⟩ := h
    obtain ⟨g1, U1, g2, g3, g4⟩ := g
    have o1 : 0 ≤ p ∧ p ≤ V (wk a) 2 := hp.2.2.1
    have o2 : 0 ≤ q ∧ q ≤ V (wk a) 2 := hp.2.2.2
    have o3 : p < q := hq.2.1
    obtain ⟨e1, e2⟩ := giv_det hS.t hw (hV.2.1 _ k3).1 ⟨o1.1, by omega, o2.2⟩ h2 g2
    exact cn_det (by rw [h1, g1]) (se_los (se_los (SE_2 hS k3 j3 h3 g3 e1 e2))) h4 g4)
theorem D_turnRound {a : Int} {V U V' U' : mm_M} {e e' r r' : Int} (hV : wA V) (hS : SE V U) (h : C_turnRound a V V' e r) (g : C_turnRound a U U' e' r') : DR V' U' e e' r r' :=
  ok1_det hS h g Iff.rfl (fun hp h g => by
    have k3 := wk3 hp
    have hw := hS.w k3
    refine no9_det hS h g (by rw [hS.t.2.1]) (fun _ h g => ?_)
    obtain ⟨V1, V2, h1, h2, h3, h4, h5, h6⟩ := h
    obtain ⟨U1, U2, g1, g2, g3, g4, g5, g6⟩ := g
    have hv := (hV.2.1 _ k3).1
    have hS1 := SE_1 hS k3 h2 g2 (rev_det hS.t hw hv h1 g1)
    have hl := isK_le k3.k
    have e2 : V1 2 = V 2 := h2 2 (by simp; omega)
    have hv1 : wV V1 (wk a) := ⟨by rw [h1.1]; exact hv.1, by
      rw [h1.2.1]
      unfold cor
      split
      · exact gl_in hV.1 (hv.2.2 _ (by omega))
      · exact hv.2.1, fun i hi => by
      rw [h1.1] at hi
      rw [h1.2.2 i hi, e2]
      exact hv.2.2 _ (by omega)⟩
    have hS2 := SE_1 hS1 k3 h4 g4 (ts_det hS1.t (hS1.w k3) hv1 h3 g3)
    exact cn_det (by rw [h5, g5, (hS2.w k3).2.1]) hS2 h6 g6)
theorem D_rotate {a b : Int} {V U V' U' : mm_M} {e e' r r' : Int} (hV : wA V) (hS : SE V U) (h : C_rotate a b V V' e r) (g : C_rotate a b U U' e' r') : DR V' U' e e' r r' :=
  ok2_det hS h g Iff.rfl Iff.rfl (fun hp _ h g => by
    have k3 := wk3 hp
    have hw := hS.w k3
    refine no9_det hS h g (by unfold hmP; rw [cr_te hV hS k3, hw.1, hw.2.1]) (fun _ h g => ?_)
    obtain ⟨V1, h1, h2, h3, h4⟩ := h
    obtain ⟨U1, g1, g2, g3, g4⟩ := g
    rw [← hw.1] at g1
    have hS1 := SE_1 hS k3 h2 g2 (rot_det hS.t hw (hV.2.1 _ k3).1 h1 g1)
    exact cn_det (by rw [h3, g3, (hS1.w k3).2.1]) (se_losI hS1 (by rw [hw.1])) h4 g4)
theorem D_first {a c f : Int} {V U V' U' : mm_M} {e e' r r' : Int} (hf : f = 0 ∨ f = 1) (hV : wA V) (hS : SE V U) (h : C_first a c f V V' e r) (g : C_first a c f U U' e' r') : DR V' U' e e' r r' :=
  ok1_det hS h g Iff.rfl (fun hp h g => by
    have k3 := wk3 hp.1
    have hw := hS.w k3
    refine no9_det hS h g (ST_te2 hS.t) (fun _ h g => ?_)
    obtain ⟨V0, V1, V2, n, h0, h1, h2, h3, h4, h5, h6⟩ := h
    obtain ⟨U0, U1, U2, m, g0, g1, g2, g3, g4, g5, g6⟩ := g
    have hl := isK_le k3.k
    have hp2 := hp.2
    unfold ic at hp2
    have hT0 : TE V0 U0 := (TE.ofr h0 (by simp) (by simp) (by simp)).sy.tr (hS.t.tr (.ofr g0 (by simp) (by simp) (by simp)))
    have hTb : TE (bgM V0 (wk a) c) (bgM U0 (wk a) c) := (TE.frk k3.k bg_fr).sy.tr (hT0.tr (.frk k3.k bg_fr))
    have eb : bgM V0 (wk a) c (wk a) 2 = 0 ∧ bgM V0 (wk a) c (wk a) 3 = c := by simp [bgM, mm_up]
    have hvb : wV (bgM V0 (wk a) c) (wk a) := ⟨by rw [eb.1]; omega, by rw [eb.2]; omega, fun i hi => by rw [eb.1] at hi; omega⟩
    obtain ⟨en, es⟩ := filR_det hf k3.k n m _ _ V1 U1 hTb bg_SW hvb h1 g1
    have er : r = r' := by rw [h3, g3, en]
    have hA : fr [wk a, wk a + 1, 5, 6, 16] V V2 := (h0.mono (by simp)).tr (((bg_fr (A := V0) (w := wk a) (c := c)).mono (by simp)).tr ((h2.mono (by simp)).tr (h4.mono (by simp))))
    have hB : fr [wk a, wk a + 1, 5, 6, 16] U U2 := (g0.mono (by simp)).tr (((bg_fr (A := U0) (w := wk a) (c := c)).mono (by simp)).tr ((g2.mono (by simp)).tr (g4.mono (by simp))))
    refine cn_det er (SE.mk hS ((TE.ofr hA (by simp; omega) (by simp; omega) (by simp; omega)).sy.tr (hS.t.tr (.ofr hB (by simp; omega) (by simp; omega) (by simp; omega)))) (fun v hv => ?_) ?_ (hA 1 (by simp; omega)) (hB 1 (by simp; omega))) h6 g6
    · have hl2 := isK_le hv.k
      by_cases e : v = wk a
      · rw [e]
        exact (SW.ofr h4 (by simp; omega) (by simp; omega)).sy.tr (es.tr (.ofr g4 (by simp; omega) (by simp; omega)))
      · have hap := wk_ap hv.k k3.k e
        exact (SW.ofr hA (by simp; omega) (by simp; omega)).sy.tr ((hS.w hv).tr (.ofr hB (by simp; omega) (by simp; omega)))
    · exact (ce_losI hS.2.2.1 (w := wk a) (P := 0 < V (wk a) 2 ∨ 0 < r) (P' := 0 < U (wk a) 2 ∨ 0 < r') (by rw [hw.1, er])).e h5 g5)
theorem D_next {a f : Int} {V U V' U' : mm_M} {e e' r r' : Int} (hf : f = 0 ∨ f = 1) (hV : wA V) (hS : SE V U) (h : C_next a f V V' e r) (g : C_next a f U U' e' r') : DR V' U' e e' r r' :=
  ok1_det hS h g Iff.rfl (fun hp h g => by
    have k3 := wk3 hp
    have hw := hS.w k3
    refine no9_det hS h g (by rw [hw.1, hS.t.1]) (fun _ h g => ?_)
    obtain ⟨V1, V2, q, h1, h2, h3, h4, h5⟩ := h
    obtain ⟨U1, U2, q', g1, g2, g3, g4, g5⟩ := g
    have hv := (hV.2.1 _ k3).1
    have k14 : isK 14 := Or.inr (Or.inr (Or.inr rfl))
    have hS1 : SE V1 U1 := hS.ends (.scr (h2.mono (by simp))) (.scr (g2.mono (by simp)))
    have hv1 : wV V1 14 := ⟨by rw [h1.1]; exact hv.1, by rw [h1.2.1]; exact hv.2.1, fun i hi => by
      rw [h1.1] at hi
      rw [h1.2.2 i hi, h2 2 (by simp)]
      exact hv.2.2 i hi⟩
    obtain ⟨eq, es⟩ := nx_det hf hS1.t (cpy_det hw h1 g1) k14 hv1 h3 g3
    subst eq
    refine no9_det hS h5 g5 Iff.rfl (fun hq h g => ?_)
    obtain ⟨b1, V3, b2, b3, b4⟩ := h
    obtain ⟨c1, U3, c2, c3, c4⟩ := g
    have hS2 : SE V2 U2 := hS1.ends (.scr (h4.mono (by simp))) (.scr (g4.mono (by simp)))
    exact cn_det (by rw [b1, c1]) (se_los (SE_1 hS2 k3 b3 c3 (cpy_det (es hq) b2 c2))) b4 c4)
theorem D_copy {a b : Int} {V U V' U' : mm_M} {e e' r r' : Int} (hS : SE V U) (h : C_copy a b V V' e r) (g : C_copy a b U U' e' r') : DR V' U' e e' r r' :=
  ok1_det hS h g Iff.rfl (fun hp h g => by
    have k3 := wk3 hp.1
    have j3 := wk3 hp.2
    have hw := hS.w k3
    have hv := hS.w j3
    refine no9_det hS h g Iff.rfl (fun hne h g => ?_)
    obtain ⟨h1, V0, V1, h2, h3, h4, h5⟩ := h
    obtain ⟨g1, U0, U1, g2, g3, g4, g5⟩ := g
    have hS0 : SE V0 U0 := by
      rw [h2, g2]
      exact se_losI hS (by rw [hw.1, hv.1])
    exact cn_det (by rw [h1, g1, hw.1]) (SE_1 hS0 j3 h4 g4 (cpy_det (hS0.w k3) h3 g3)) h5 g5)
theorem D_length {a : Int} {V U V' U' : mm_M} {e e' r r' : Int} (hS : SE V U) (h : C_length a V V' e r) (g : C_length a U U' e' r') : DR V' U' e e' r r' :=
  ok1_det hS h g Iff.rfl (fun hp h g => ⟨by rw [h.1, g.1, (hS.w (wk3 hp)).1], hS.ends h.2 g.2⟩)
theorem D_cornerAt {a p : Int} {V U V' U' : mm_M} {e e' r r' : Int} (hV : wA V) (hS : SE V U) (h : C_cornerAt a p V V' e r) (g : C_cornerAt a p U U' e' r') : DR V' U' e e' r r' :=
  ok1_det hS h g ⟨fun h => ⟨h.1, by unfold onW; rw [← (hS.w (wk3 h.1)).1]; exact h.2⟩, fun h => ⟨h.1, by unfold onW; rw [(hS.w (wk3 h.1)).1]; exact h.2⟩⟩ (fun hp h g => ⟨by rw [h.1, g.1, cr_te hV hS (wk3 hp.1)], hS.ends h.2 g.2⟩)
theorem D_stepAt {a p : Int} {V U V' U' : mm_M} {e e' r r' : Int} (hS : SE V U) (h : C_stepAt a p V V' e r) (g : C_stepAt a p U U' e' r') : DR V' U' e e' r r' :=
  ok1_det hS h g ⟨fun h => ⟨h.1, h.2.1, by rw [← (hS.w (wk3 h.1)).1]; exact h.2.2⟩, fun h => ⟨h.1, h.2.1, by rw [(hS.w (wk3 h.1)).1]; exact h.2.2⟩⟩ (fun hp h g => ⟨by rw [h.1, g.1]; exact (hS.w (wk3 hp.1)).2.2 _ (by have := hp.2; omega), hS.ends h.2 g.2⟩)
theorem pl_det {A B : mm_M} {w : Nat} {s r r' : Int} (h : SW A B w) (a : plR A w s r) (b : plR B w s r') : r = r' := by
  unfold plR at a b
  rw [← h.1] at b
  rcases a with ⟨a1, a2⟩ | ⟨a1, a2, a3, a4⟩ <;> rcases b with ⟨b1, b2⟩ | ⟨b1, b2, b3, b4⟩
  · rw [a1, b1]
  · exact absurd b3 (by rw [← h.2.2 _ (by omega)]; exact a2 _ (by omega))
  · exact absurd a3 (by rw [h.2.2 _ (by omega)]; exact b2 _ (by omega))
  · by_cases e : r < r'
    · exact absurd a3 (by rw [h.2.2 _ (by omega)]; exact b4 _ (by omega))
    · by_cases e2 : r' < r
      · exact absurd b3 (by rw [← h.2.2 _ (by omega)]; exact a4 _ (by omega))
      · omega
theorem D_find {a s : Int} {V U V' U' : mm_M} {e e' r r' : Int} (hS : SE V U) (h : C_find a s V V' e r) (g : C_find a s U U' e' r') : DR V' U' e e' r r' :=
  ok1_det hS h g (by unfold is; rw [hS.t.1]) (fun hp h g => ⟨pl_det (hS.w (wk3 hp.1)) h.1 g.1, hS.ends h.2 g.2⟩)
theorem D_is {a f : Int} {V U V' U' : mm_M} {e e' r r' : Int} (hV : wA V) (hS : SE V U) (h : C_is a f V V' e r) (g : C_is a f U U' e' r') : DR V' U' e e' r r' :=
  ok1_det hS h g Iff.rfl (fun hp h g => ⟨b01_det h.1 g.1 (by
    have hw := hS.w (wk3 hp)
    unfold hmP
    rw [cr_te hV hS (wk3 hp), hw.1, hw.2.1, hS.t.1]), hS.ends h.2 g.2⟩)
theorem D_same {a b : Int} {V U V' U' : mm_M} {e e' r r' : Int} (hS : SE V U) (h : C_same a b V V' e r) (g : C_same a b U U' e' r') : DR V' U' e e' r r' :=
  ok1_det hS h g Iff.rfl (fun hp h g => ⟨b01_det h.1 g.1 (smR_te (hS.w (wk3 hp.1)) (hS.w (wk3 hp.2))), hS.ends h.2 g.2⟩)
theorem D_turnOf {a b : Int} {V U V' U' : mm_M} {e e' r r' : Int} (hV : wA V) (hS : SE V U) (h : C_turnOf a b V V' e r) (g : C_turnOf a b U U' e' r') : DR V' U' e e' r r' :=
  ok1_det hS h g Iff.rfl (fun hp h g => ⟨tuR_det hS.t (hS.w (wk3 hp.1)) (hS.w (wk3 hp.2)) (hV.2.1 _ (wk3 hp.1)).1 h.1 g.1, hS.ends h.2 g.2⟩)
theorem WI_te {V U : mm_M} (hT : TE V U) : WI V ↔ WI U := by
  unfold WI
  rw [hT.1, hT.2.2.1, hT.2.2.2.1]
theorem D_wordAt {a x f : Int} {V U V' U' : mm_M} {e e' r r' : Int} (hI : WI V) (hS : SE V U) (h : C_wordAt a x f V V' e r) (g : C_wordAt a x f U U' e' r') : DR V' U' e e' r r' :=
  ok2_det hS h g Iff.rfl Iff.rfl (fun hp _ h g => ⟨wdR_det hS.t (hS.w (wk3 hp)) (h.1 hI) (g.1 ((WI_te hS.t).mp hI)), hS.ends h.2 g.2⟩)
theorem st_16 {A : mm_M} {w : Nat} {p : Int} : stM A w p 16 1 = w ∧ stM A w p 16 2 = p ∧ stM A w p 16 3 = -1 ∧ stM A w p 16 4 = 0 := by simp [stM, mm_up]
theorem st_fr {A : mm_M} {w : Nat} {p : Int} : fr [16] A (stM A w p) := (((fr.rf.up (by simp)).up (by simp)).up (by simp)).up (by simp)
theorem SE_c {V U V1 U1 : mm_M} (hS : SE V U) (hf : fr [16] V V1) (hg : fr [16] U U1) (h : CE V1 U1) : SE V1 U1 :=
  SE.mk hS ((TE.ofr hf (by simp) (by simp) (by simp)).sy.tr (hS.t.tr (.ofr hg (by simp) (by simp) (by simp)))) (fun w hw => by
    have hl := isK_le hw.k
    exact (SW.ofr hf (by simp; omega) (by simp; omega)).sy.tr ((hS.w hw).tr (.ofr hg (by simp; omega) (by simp; omega)))) h (hf 1 (by simp)) (hg 1 (by simp))
theorem D_cursor {a p : Int} {V U V' U' : mm_M} {e e' r r' : Int} (hV : wA V) (hS : SE V U) (h : C_cursor a p V V' e r) (g : C_cursor a p U U' e' r') : DR V' U' e e' r r' :=
  ok1_det hS h g ⟨fun h => ⟨h.1, by unfold onW; rw [← (hS.w (wk3 h.1)).1]; exact h.2⟩, fun h => ⟨h.1, by unfold onW; rw [(hS.w (wk3 h.1)).1]; exact h.2⟩⟩ (fun hp h g => cn_det (by rw [h.1, g.1, cr_te hV hS (wk3 hp.1)]) (SE_c hS st_fr st_fr ⟨by rw [st_16.1, st_16.1], fun _ => ⟨by rw [st_16.2.2.2, st_16.2.2.2], fun _ => ⟨by rw [st_16.2.1, st_16.2.1], by rw [st_16.2.2.1, st_16.2.2.1]⟩⟩⟩) h.2 g.2)
/-- a cursor that is there stands on a walk, and all of it is the same on both sides -/
theorem ce_in {V U : mm_M} (hV : wA V) (hS : SE V U) (h : V 16 1 ≠ 0 ∧ V 16 4 = 0) : isW3 (V 16 1).toNat ∧ U 16 1 = V 16 1 ∧ U 16 4 = 0 ∧ U 16 2 = V 16 2 ∧ U 16 3 = V 16 3 := by
  have h1 := hS.2.2.1
  have h2 := h1.2 h.1
  have h3 := h2.2 h.2
  exact ⟨hV.2.2.1.resolve_left h.1, h1.1.symm, by rw [← h2.1]; exact h.2, h3.1.symm, h3.2.symm⟩
theorem ce_there {V U : mm_M} (hS : SE V U) : (V 16 1 ≠ 0 ∧ V 16 4 = 0) ↔ (U 16 1 ≠ 0 ∧ U 16 4 = 0) := by
  have h1 := hS.2.2.1
  rw [← h1.1]
  exact ⟨fun h => ⟨h.1, by rw [← (h1.2 h.1).1]; exact h.2⟩, fun h => ⟨h.1, by rw [(h1.2 h.1).1]; exact h.2⟩⟩
theorem hs_te0 {V U : mm_M} {f : Int} (hV : wA V) (hS : SE V U) (h : hsP V f) : hsP U f := by
  obtain ⟨a, b, c, d⟩ := ce_in hV hS ⟨h.1, h.2.1⟩
  have hw := hS.w a
  refine ⟨by rw [b]; exact h.1, c, fun hf => ?_, fun hf => ?_⟩
  · rw [d.1, b, ← hw.1]; exact h.2.2.1 hf
  · rw [d.1]; exact h.2.2.2 hf
theorem hs_te {V U : mm_M} {f : Int} (hV : wA V) (hU : wA U) (hS : SE V U) : hsP V f ↔ hsP U f := ⟨hs_te0 hV hS, hs_te0 hU hS.sy⟩
theorem D_cursorCan {f : Int} {V U V' U' : mm_M} {e e' r r' : Int} (hV : wA V) (hU : wA U) (hS : SE V U) (h : C_cursorCan f V V' e r) (g : C_cursorCan f U U' e' r') : DR V' U' e e' r r' :=
  e0_det h.1 g.1 ⟨b01_det h.2.1 g.2.1 (hs_te hV hU hS), hS.ends h.2.2 g.2.2⟩
theorem pa_te {V U : mm_M} {f : Int} (hV : wA V) (hS : SE V U) : paF V f = paF U f := by
  unfold paF
  by_cases h : V 16 1 ≠ 0 ∧ V 16 4 = 0
  · obtain ⟨a, b, c, d⟩ := ce_in hV hS h
    rw [if_pos h, if_pos ((ce_there hS).mp h), d.1]
  · rw [if_neg h, if_neg (fun h2 => h ((ce_there hS).mpr h2))]
theorem D_cursorPlace {f : Int} {V U V' U' : mm_M} {e e' r r' : Int} (hV : wA V) (hS : SE V U) (h : C_cursorPlace f V V' e r) (g : C_cursorPlace f U U' e' r') : DR V' U' e e' r r' :=
  e0_det h.1 g.1 ⟨by rw [h.2.1, g.2.1, pa_te hV hS], hS.ends h.2.2 g.2.2⟩
theorem tl_in {V : mm_M} {f : Int} (hV : wA V) (h : hsP V f) : 0 ≤ tlP V f ∧ tlP V f < V (V 16 1).toNat 2 := by
  have := hV.2.2.2.2 h.1 h.2.1
  unfold tlP
  by_cases e : f = 0
  · rw [if_pos e]
    have := h.2.2.2 e
    omega
  · rw [if_neg e]
    have := h.2.2.1 e
    omega
theorem D_cursorGo {f : Int} {V U V' U' : mm_M} {e e' r r' : Int} (hV : wA V) (hU : wA U) (hS : SE V U) (h : C_cursorGo f V V' e r) (g : C_cursorGo f U U' e' r') : DR V' U' e e' r r' := by
  obtain ⟨h0, V1, h1, h2⟩ := h
  obtain ⟨g0, U1, g1, g2⟩ := g
  refine e0_det h0 g0 ?_
  have he := hs_te (f := f) hV hU hS
  rcases h1 with ⟨a1, a2, a3⟩ | ⟨a1, a2, a3, a4, a5, a6, a7⟩ <;> rcases g1 with ⟨b1, b2, b3⟩ | ⟨b1, b2, b3, b4, b5, b6, b7⟩
  · subst a3
    subst b3
    exact cn_det (by rw [a2, b2]) hS h2 g2
  · exact absurd (he.mpr b1) a1
  · exact absurd (he.mp a1) b1
  · obtain ⟨x1, x2, x3, x4, x5⟩ := ce_in hV hS ⟨a1.1, a1.2.1⟩
    have hw := hS.w x1
    have et : tlP U f = tlP V f := by unfold tlP; rw [x4]
    have ti := tl_in hV a1
    refine cn_det ?_ (SE_c hS a3 b3 ⟨by rw [a4, b4, x2], fun _ => ⟨by rw [a5, b5, x3]; exact a1.2.1, fun _ => ⟨by rw [a7, b7, x4], by rw [a6, b6, et]⟩⟩⟩) h2 g2
    rw [a2, b2, x2, et]
    exact hw.2.2 _ (by omega)
theorem et_te0 {V U : mm_M} (hV : wA V) (hS : SE V U) (h : V 16 1 ≠ 0 ∧ V 16 4 = 0 ∧ 0 ≤ V 16 3) : etO U = etO V ∧ 0 ≤ etO V ∧ etO V < 2 * V 2 4 := by
  obtain ⟨x1, x2, x3, x4, x5⟩ := ce_in hV hS ⟨h.1, h.2.1⟩
  have hw := hS.w x1
  have hc := hV.2.2.2.2 h.1 h.2.1
  have hv := (hV.2.1 _ x1).1.2.2 (V 16 3).toNat (by omega)
  refine ⟨?_, hv⟩
  unfold etO
  rw [x2, x5]
  exact (hw.2.2 _ (by omega)).symm
theorem ets_te {V U : mm_M} {s : Int} (hV : wA V) (hS : SE V U) (hs : 0 ≤ s ∧ s < V 2 4) (h : V 16 1 ≠ 0 ∧ V 16 4 = 0 ∧ 0 ≤ V 16 3) : etS U s = etS V s := by
  obtain ⟨a, b⟩ := et_te0 hV hS h
  unfold etS
  rw [a, sr_te hS.t b, gl_te hS.t b, bw_te hS.t hs]
theorem etP_te0 {V U : mm_M} {s : Int} (hV : wA V) (hS : SE V U) (hs : 0 ≤ s ∧ s < V 2 4) (h : etP V s) : etP U s := by
  obtain ⟨x1, x2, x3, x4, x5⟩ := ce_in hV hS ⟨h.1.1, h.1.2.1⟩
  have hw := hS.w x1
  refine ⟨⟨by rw [x2]; exact h.1.1, x3, by rw [x5]; exact h.1.2.2⟩, by rw [ets_te hV hS hs h.1]; exact h.2.1, fun i hi he => ?_⟩
  rw [x2, ← hw.1] at hi
  rw [x2, ← hw.2.2 i hi] at he
  rw [x5]
  exact h.2.2 i hi he
theorem bw_in {V : mm_M} {s a b : Int} (hs : 0 ≤ s ∧ s < V 2 4) : bw V s a b = -1 ∨ (0 ≤ bw V s a b ∧ bw V s a b < 2 * V 2 4) := by
  unfold bw
  split
  · rcases lv_in (A := V) (s := s) (c := a) hs with h | h
    · exact Or.inl h
    · exact Or.inr ⟨h.1, h.2.1⟩
  · exact Or.inl rfl
theorem D_cursorSet {s : Int} {V U V' U' : mm_M} {e e' r r' : Int} (hV : wA V) (hU : wA U) (hS : SE V U) (h : C_cursorSet s V V' e r) (g : C_cursorSet s U U' e' r') : DR V' U' e e' r r' :=
  ok1_det hS h g (by unfold is; rw [hS.t.1]) (fun hp h g => by
    obtain ⟨V1, h1, h2⟩ := h
    obtain ⟨U1, g1, g2⟩ := g
    have hs : 0 ≤ s ∧ s < V 2 4 := hp
    have he : etP V s ↔ etP U s := ⟨etP_te0 hV hS hs, etP_te0 hU hS.sy (by rw [← hS.t.1]; exact hs)⟩
    rcases h1 with ⟨a1, a2, a3⟩ | ⟨a1, a2, a3⟩ <;> rcases g1 with ⟨b1, b2, b3⟩ | ⟨b1, b2, b3⟩
    · subst a3
      subst b3
      exact cn_det (by rw [a2, b2]) hS h2 g2
    · exact absurd (he.mpr b1) a1
    · exact absurd (he.mp a1) b1
    · obtain ⟨x1, x2, x3, x4, x5⟩ := ce_in hV hS ⟨a1.1.1, a1.1.2.1⟩
      have hw := hS.w x1
      have hl := isK_le x1.k
      have e1 := (et_te0 hV hS a1.1).1
      refine cn_det (by rw [a2, b2, e1]) (SE_1 hS x1 (by rw [a3]; exact fr.rf.up (by simp)) (by rw [b3, x2]; exact fr.rf.up (by simp)) ?_) h2 g2
      rw [a3, b3, x2, x5, ets_te hV hS hs a1.1]
      refine ⟨by rw [mm_up_o _ (by omega), mm_up_o _ (by omega)]; exact hw.1, by rw [mm_up_o _ (by omega), mm_up_o _ (by omega)]; exact hw.2.1, fun i hi => ?_⟩
      rw [mm_up_o _ (by omega)] at hi
      by_cases e : i = (V 16 3).toNat
      · rw [e, mm_up_sm, mm_up_sm]
      · rw [mm_up_ob2 e, mm_up_ob2 e]
        exact hw.2.2 i hi)
theorem fh_te {V U : mm_M} {s : Int} (hV : wA V) (hS : SE V U) (hs : 0 ≤ s ∧ s < V 2 4) (h : V 16 1 ≠ 0 ∧ V 16 4 = 0) : fhF U (V 16 1).toNat s = fhF V (V 16 1).toNat s := by
  obtain ⟨x1, x2, x3, x4, x5⟩ := ce_in hV hS h
  have hw := hS.w x1
  have ht := hS.t.2.2.2.2 s.toNat (by omega)
  unfold fhF
  rw [x4, ← hw.1, ← cr_te hV hS x1, ← lv_te hS.t hs, ← cm_te hS.t hs, ← ht.1, ← ht.2]
theorem liP_te0 {V U : mm_M} {s : Int} (hV : wA V) (hS : SE V U) (hs : 0 ≤ s ∧ s < V 2 4) (h : liP V s) : liP U s := by
  obtain ⟨x1, x2, x3, x4, x5⟩ := ce_in hV hS h.1
  have hw := hS.w x1
  refine ⟨⟨by rw [x2]; exact h.1.1, x3⟩, ?_, ?_⟩
  · rw [x2]
    exact (wN_te hw).mp h.2.1
  · rw [x2, fh_te hV hS hs h.1]
    exact h.2.2
theorem fh_in {V : mm_M} {w : Nat} {s : Int} (hs : 0 ≤ s ∧ s < V 2 4) : fhF V w s = -1 ∨ (0 ≤ fhF V w s ∧ fhF V w s < 2 * V 2 4) := by
  unfold fhF
  split
  · rcases lv_in (A := V) (s := s) (c := cor V w (V 16 2)) hs with h | h
    · exact Or.inl h
    · exact Or.inr ⟨h.1, h.2.1⟩
  · split
    · rcases cm_in (A := V) (s := s) (c := cor V w (V 16 2)) hs with h | h
      · exact Or.inl h
      · exact Or.inr ⟨h.1, h.2.1⟩
    · split
      · exact Or.inr (by omega)
      · exact Or.inl rfl
/-- a walk, and the cursor, are others -/
theorem SE_wc {w : Nat} {V U V1 U1 : mm_M} (hS : SE V U) (hw : isW3 w) (hf : fr [w, w + 1, 16] V V1) (hg : fr [w, w + 1, 16] U U1) (h : SW V1 U1 w) (hc : CE V1 U1) : SE V1 U1 := by
  have hl := isK_le hw.k
  refine SE.mk hS ((TE.ofr hf (by simp; omega) (by simp; omega) (by simp; omega)).sy.tr (hS.t.tr (.ofr hg (by simp; omega) (by simp; omega) (by simp; omega)))) (fun v hv => ?_) hc (hf 1 (by simp; omega)) (hg 1 (by simp; omega))
  have hl2 := isK_le hv.k
  by_cases e : v = w
  · rw [e]; exact h
  · have hap := wk_ap hv.k hw.k e
    exact (SW.ofr hf (by simp; omega) (by simp; omega)).sy.tr ((hS.w hv).tr (.ofr hg (by simp; omega) (by simp; omega)))
theorem D_cursorAdd {s : Int} {V U V' U' : mm_M} {e e' r r' : Int} (hV : wA V) (hU : wA U) (hS : SE V U) (h : C_cursorAdd s V V' e r) (g : C_cursorAdd s U U' e' r') : DR V' U' e e' r r' :=
  ok1_det hS h g (by unfold is; rw [hS.t.1]) (fun hp h g => by
    obtain ⟨V1, h1, h2⟩ := h
    obtain ⟨U1, g1, g2⟩ := g
    have hs : 0 ≤ s ∧ s < V 2 4 := hp
    have he : liP V s ↔ liP U s := ⟨liP_te0 hV hS hs, liP_te0 hU hS.sy (by rw [← hS.t.1]; exact hs)⟩
    rcases h1 with ⟨a1, a2, a3⟩ | ⟨a1, a2, A, a3, a4, a5, a6, a7, a8, a9, a10, a11, a12⟩ <;> rcases g1 with ⟨b1, b2, b3⟩ | ⟨b1, b2, B, b3, b4, b5, b6, b7, b8, b9, b10, b11, b12⟩
    · subst a3
      subst b3
      exact cn_det (by rw [a2, b2]) hS h2 g2
    · exact absurd (he.mpr b1) a1
    · exact absurd (he.mp a1) b1
    · obtain ⟨x1, x2, x3, x4, x5⟩ := ce_in hV hS a1.1
      have hw := hS.w x1
      rw [x2, x4, fh_te hV hS hs a1.1] at b4
      rw [x2] at b5 b6 b7
      rw [x2, x4, fh_te hV hS hs a1.1] at b8
      have hd := put_det hw a4 b4
      have hfi : 0 ≤ fhF V (V 16 1).toNat s ∧ fhF V (V 16 1).toNat s < 2 * V 2 4 := by
        rcases fh_in (V := V) (w := (V 16 1).toNat) hs with h | h
        · exact absurd h a1.2.2
        · exact h
      refine cn_det (by rw [a2, b2, x4]) (SE_wc hS x1 a5 b5 ⟨by rw [a6, b6]; exact hd.1, by rw [a8, b8, sr_te hS.t hfi, hw.2.1], fun i hi => ?_⟩ ⟨by rw [a9, b9, x2], fun _ => ⟨by rw [a12, b12, x3]; exact a1.1.2, fun _ => ⟨by rw [a10, b10, x4], by rw [a11, b11]⟩⟩⟩) h2 g2
      rw [a6] at hi
      rw [a7, b7]
      exact hd.2.2 i hi)
theorem rtP_te0 {V U : mm_M} (hV : wA V) (hS : SE V U) (h : rtP V) : rtP U := by
  obtain ⟨x1, x2, x3, x4, x5⟩ := ce_in hV hS ⟨h.1.1, h.1.2.1⟩
  have hw := hS.w x1
  obtain ⟨e1, e2⟩ := et_te0 hV hS h.1
  refine ⟨⟨by rw [x2]; exact h.1.1, x3, by rw [x5]; exact h.1.2.2⟩, ?_⟩
  rw [x5, x2, ← hw.1, e1, ← sr_te hS.t e2, ← gl_te hS.t e2]
  exact h.2
theorem D_cursorRemove {V U V' U' : mm_M} {e e' r r' : Int} (hV : wA V) (hU : wA U) (hS : SE V U) (h : C_cursorRemove V V' e r) (g : C_cursorRemove U U' e' r') : DR V' U' e e' r r' := by
  obtain ⟨h0, V1, h1, h2⟩ := h
  obtain ⟨g0, U1, g1, g2⟩ := g
  refine e0_det h0 g0 ?_
  have he : rtP V ↔ rtP U := ⟨rtP_te0 hV hS, rtP_te0 hU hS.sy⟩
  rcases h1 with ⟨a1, a2, a3⟩ | ⟨a1, a2, A, a3, a4, a5, a6, a7, a8, a9, a10, a11, a12⟩ <;> rcases g1 with ⟨b1, b2, b3⟩ | ⟨b1, b2, B, b3, b4, b5, b6, b7, b8, b9, b10, b11, b12⟩
  · subst a3
    subst b3
    exact cn_det (by rw [a2, b2]) hS h2 g2
  · exact absurd (he.mpr b1) a1
  · exact absurd (he.mp a1) b1
  · obtain ⟨x1, x2, x3, x4, x5⟩ := ce_in hV hS ⟨a1.1.1, a1.1.2.1⟩
    have hw := hS.w x1
    obtain ⟨e1, e2⟩ := et_te0 hV hS a1.1
    rw [x2, x5] at b4
    rw [x2] at b5 b6 b7
    rw [x2, x5, e1, ← hw.1] at b8
    have hd := tak_det hw a4 b4
    refine cn_det (by rw [a2, b2, e1]) (SE_wc hS x1 a5 b5 ⟨by rw [a6, b6]; exact hd.1, by rw [a8, b8, gl_te hS.t e2, hw.2.1], fun i hi => ?_⟩ ⟨by rw [a9, b9, x2], fun _ => ⟨by rw [a12, b12, x3]; exact a1.1.2.1, fun _ => ⟨by rw [a10, b10, x4, x5], by rw [a11, b11]⟩⟩⟩) h2 g2
    rw [a6] at hi
    rw [a7, b7]
    exact hd.2.2 i hi
theorem D_house {x : Int} {V U V' U' : mm_M} {e e' r r' : Int} (hS : SE V U) (h : C_house x V V' e r) (g : C_house x U U' e' r') : DR V' U' e e' r r' :=
  ok1_det hS h g Iff.rfl (fun _ h g => ⟨by rw [h.1, g.1, hS.2.2.2.1, hS.2.2.2.2.1, hS.2.2.2.2.2], hS.ends h.2 g.2⟩)
theorem D_knock {V U V' U' : mm_M} {e e' r r' : Int} (hS : SE V U) (h : C_knock V V' e r) (g : C_knock U U' e' r') : DR V' U' e e' r r' := by
  obtain ⟨n1, n2, n3⟩ := hS.2.2.2
  refine e0_det h.1 g.1 ⟨by rw [h.2.1, g.2.1, n3], SE.ends ?_ h.2.2 g.2.2⟩
  refine ⟨(TE.of (mm_up_o _ (by omega)) (mm_up_o _ (by omega)) (mm_up_o _ (by omega))).sy.tr (hS.t.tr (.of (mm_up_o _ (by omega)) (mm_up_o _ (by omega)) (mm_up_o _ (by omega)))), fun w hw => ?_, hS.2.2.1.e (mm_up_o _ (by omega)) (mm_up_o _ (by omega)), ?_⟩
  · have hl := isK_le hw.k
    exact (SW.of (mm_up_o _ (by omega)) (mm_up_o _ (by omega))).sy.tr ((hS.w hw).tr (.of (mm_up_o _ (by omega)) (mm_up_o _ (by omega))))
  · exact ⟨by rw [mm_up_ob2 (by omega), mm_up_ob2 (by omega)]; exact n1, by rw [mm_up_ob2 (by omega), mm_up_ob2 (by omega)]; exact n2, by rw [mm_up_sm, mm_up_sm, n3]⟩
/-! a TOWN OF WORDS has no street more than there are words -/
def WT (V V' : mm_M) : Prop := WI V → WI V'
theorem WI_0 {V : mm_M} (h : V 2 6 = 0) : WI V := fun h2 => by omega
theorem WI_2 {V V' : mm_M} (h4 : V' 2 4 = V 2 4) (h6 : V' 2 6 = V 2 6) (h7 : V' 2 7 = V 2 7) (h : WI V) : WI V' := by
  unfold WI
  rw [h4, h6, h7]
  exact h
theorem WT_s {A B : mm_M} (h : SE A B) : WT A B := (WI_te h.t).mp
theorem WT_cn {A V' : mm_M} {r : Int} (h : SE (cnF A r) V') (hA : WI A) : WI V' := WT_s h (WI_2 (by rw [cnF_o (by omega)]) (by rw [cnF_o (by omega)]) (by rw [cnF_o (by omega)]) hA)
theorem ok1_W {P : Prop} {V V' : mm_M} {e : Int} {R : Prop} (h : ok1 P V V' e R) (k : P → R → WT V V') : WT V V' := by
  rcases h with ⟨_, _, c⟩ | ⟨a, _, c⟩
  · exact WT_s c
  · exact k a c
theorem ok2_W {P O : Prop} {V V' : mm_M} {e : Int} {R : Prop} (h : ok2 P O V V' e R) (k : R → WT V V') : WT V V' := by
  rcases h with ⟨_, _, c⟩ | ⟨_, _, _, c⟩ | ⟨_, _, _, c⟩
  · exact WT_s c
  · exact WT_s c
  · exact k c
theorem no9_W {P : Prop} {V V' : mm_M} {r : Int} {R : Prop} (h : no9 P V V' r R) (k : P → R → WT V V') : WT V V' := by
  rcases h with ⟨_, _, c⟩ | ⟨a, c⟩
  · exact WT_cn c
  · exact k a c
theorem WT_f {S : List Nat} {V A V' : mm_M} {r : Int} (hf : fr S V A) (h2 : 2 ∉ S) (h : SE (cnF A r) V') : WT V V' := fun hV => WT_cn h (WI_2 (by rw [hf 2 h2]) (by rw [hf 2 h2]) (by rw [hf 2 h2]) hV)
theorem WT_2 {V A V' : mm_M} {r : Int} (h2 : A 2 = V 2) (h : SE (cnF A r) V') : WT V V' := fun hV => WT_cn h (WI_2 (by rw [h2]) (by rw [h2]) (by rw [h2]) hV)
end
section
/-! is all so, and the checksum: one answer -/
theorem comL_wV {up : Int} {w : Nat} (hw : isK w) : ∀ (m : Nat) (p : Int) (A A' : mm_M) (c : Nat), wV A w → comL up w m p A A' c → wV A' w
  | 0, p, A, A', c, hv, h => by
    obtain ⟨_, e, _⟩ := h
    rw [e]
    exact hv
  | m + 1, p, A, A', c, hv, h => by
    obtain ⟨_, r, V1, c', g, h2, _⟩ := h
    exact comL_wV hw m (p + 1) V1 A' c' (goR_wV hw r p A V1 hv g) h2
theorem comR_wV {up : Int} {w : Nat} {A A' : mm_M} {c : Nat} (hw : isK w) (hv : wV A w) (h : comR up w A A' c) : wV A' w := by
  obtain ⟨r, V1, m, c', g, h2, _⟩ := h
  exact comL_wV hw m 0 V1 A' c' (goR_wV hw r _ A V1 hv g) h2
theorem TW_se {V U : mm_M} {w : Nat} (hV : wA V) (hS : SE V U) (hw : isW3 w) (h : TWk V w) : TWk U w := fun i hi => by
  have hW := hS.w hw
  have hi2 : (i : Int) < V w 2 := by rw [hW.1]; exact hi
  have e := hW.2.2 i hi2
  have h2 := (hV.2.1 w hw).1.2.2 i hi2
  have h3 := h i hi2
  rw [← e, ← cr_te hV hS hw]
  exact (lv_te (s := V (w + 1) i / 2) hS.t (by omega)).symm.trans h3
theorem aTW_se {V U : mm_M} (hV : wA V) (hU : wA U) (hS : SE V U) : aTW V ↔ aTW U := ⟨fun h w hw => TW_se hV hS hw (h w hw), fun h w hw => TW_se hU hS.sy hw (h w hw)⟩
theorem ls_no {V U : mm_M} {c : Int} (hT : TE V U) (h0 : 0 ≤ c) (h : STV V (al V) c) (g : ¬ STV U (al U) (c.toNat : Nat)) : False := g (by
  rw [show ((c.toNat : Nat) : Int) = c by omega]
  exact (ST_te2 hT).mp h)
theorem ls_det {V U : mm_M} {r r' : Int} (hT : TE V U) (h : lsR V r) (g : lsR U r') : r = r' := by
  rcases h with ⟨a, b⟩ | ⟨a1, a2, a3, a4⟩ <;> rcases g with ⟨c, d⟩ | ⟨c1, c2, c3, c4⟩
  · omega
  · exact (ls_no hT.sy c1 c3 (b r'.toNat (by omega))).elim
  · exact (ls_no hT a1 a3 (d r.toNat (by omega))).elim
  · rcases Int.lt_trichotomy r r' with h | h | h
    · exact (ls_no hT a1 a3 (c4 r.toNat (by omega))).elim
    · exact h
    · exact (ls_no hT.sy c1 c3 (a4 r'.toNat (by omega))).elim
theorem wdR_te {A B : mm_M} {w : Nat} {x f r : Int} (hT : TE A B) (h : SW A B w) (h1 : wdR A w x f r) : wdR B w x f r := by
  unfold wdR at h1 ⊢
  rw [← hT.2.2.1, ← hT.1, ← hT.2.2.2.1, ← h.1]
  rcases h1 with h1 | ⟨a, h1⟩
  · exact Or.inl h1
  · refine Or.inr ⟨a, ?_⟩
    rcases h1 with ⟨b, c⟩ | ⟨p, b, c, d, e, g⟩
    · exact Or.inl ⟨b, fun p hp hp2 => by
        rw [← rdw_te hT h (by omega)]
        exact c p hp hp2⟩
    · exact Or.inr ⟨p, b, c, d, by
        rw [← rdw_te hT h (by omega)]
        exact e, fun p' hp hp2 => by
        rw [← rdw_te hT h (by omega)]
        exact g p' hp hp2⟩
theorem ew_te {A B : mm_M} {w : Nat} (hT : TE A B) (h : SW A B w) (he : ewO A w) : ewO B w := fun hc x hx => by
  obtain ⟨p, p1, p2, p3⟩ := he ⟨by rw [hT.2.2.1]; exact hc.1, by rw [hT.2.1]; exact hc.2⟩ x (by rw [hT.1]; exact hx)
  exact ⟨p, wdR_te hT h p1, p2, wdR_te hT h p3⟩
theorem hm_te {A B : mm_M} {w : Nat} (hT : TE A B) (h : SW A B w) (hv : wV A w) : hmP A w ↔ hmP B w := by
  unfold hmP
  rw [← h.1, ← h.2.1, cor_te hT h hv]
theorem gd_te {V U V1 U1 : mm_M} {kd : Int} (e : V 2 4 = U 2 4) (hT : TE V1 U1) (h : SW V1 U1 14) (hv : wV V1 14) (g : gdR V V1 kd) : gdR U U1 kd := ⟨by rw [← h.1, ← e]; exact g.1, (hm_te hT h hv).symm.trans g.2.1, ew_te hT h g.2.2⟩
theorem bg14_wV {V : mm_M} {ls : Int} (h : 0 ≤ ls ∧ ls < 10) : wV (bgM V 14 ls) 14 := ⟨by simp [bgM, mm_up], by simp [bgM, mm_up]; omega, fun j hj => by simp [bgM, mm_up] at hj; omega⟩
theorem ls_b {V : mm_M} {r : Int} (h : lsR V r) (h0 : 0 ≤ r) : 0 ≤ r ∧ r < 10 := by
  rcases h with h | h <;> omega
theorem cmp_det {V U : mm_M} {r r' : Int} (hV : wA V) (hU : wA U) (hS : SE V U) (h : cmpR V r) (g : cmpR U r') : r = r' := by
  obtain ⟨kd, ls, h1, h2, h3⟩ := h
  obtain ⟨kd', ls', g1, g2, g3⟩ := g
  have e1 := kd_det hV hS.t h1 g1
  have e2 := ls_det hS.t h2 g2
  subst e1 e2
  rcases h3 with ⟨a, b⟩ | ⟨a, h3⟩
  · rcases g3 with ⟨a', b'⟩ | ⟨a', g3⟩
    · omega
    · exact absurd a' a
  · rcases g3 with ⟨a', b'⟩ | ⟨a', g3⟩
    · exact absurd a a'
    · rcases h3 with ⟨b, c⟩ | ⟨b, V0, V1, c, f1, f2, f3, f4⟩
      · rcases g3 with ⟨b', c'⟩ | ⟨b', _⟩
        · omega
        · omega
      · rcases g3 with ⟨b', c'⟩ | ⟨b', U0, U1, c', q1, q2, q3, q4⟩
        · omega
        · have k14 : isK 14 := Or.inr (Or.inr (Or.inr rfl))
          have hT0 : TE V0 U0 := (TE.fr5 f1).sy.tr (hS.t.tr (.fr5 q1))
          have hT : TE (bgM V0 14 ls) (bgM U0 14 ls) := (TE.frk k14 bg_fr).sy.tr (hT0.tr (.frk k14 bg_fr))
          have hl := ls_b h2 b
          have hd := comR_det (Or.inr rfl) k14 hT bg_SW (bg14_wV hl) f2 q2
          have hT1 : TE V1 U1 := (TE.ofr f3 (by simp) (by simp) (by simp)).sy.tr (hT.tr (.ofr q3 (by simp) (by simp) (by simp)))
          have v1 := comR_wV k14 (bg14_wV hl) f2
          have v2 := comR_wV k14 (bg14_wV hl) q2
          exact b01_det f4 q4 ⟨gd_te hS.t.1 hT1 hd.2 v1, gd_te hS.t.1.symm hT1.sy hd.2.sy v2⟩
theorem snd_det {V U : mm_M} {r r' : Int} (hV : wA V) (hU : wA U) (hS : SE V U) (h : sndR V r) (g : sndR U r') : r = r' := by
  rcases h with ⟨a, b⟩ | ⟨a, b⟩ <;> rcases g with ⟨c, d⟩ | ⟨c, d⟩
  · omega
  · exact absurd ((aTW_se hV hU hS).mpr c) a
  · exact absurd ((aTW_se hV hU hS).mp a) c
  · exact cmp_det hV hU hS b d
theorem dgF_te {V U : mm_M} {s : Int} (hT : TE V U) : ∀ i : Nat, (i : Int) ≤ V 2 4 → dgF V s i = dgF U s i
  | 0, _ => rfl
  | i + 1, h => by
    have e := hT.2.2.2.2 i (by omega)
    simp only [dgF]
    rw [dgF_te hT i (by omega), e.1, e.2]
theorem dgC_te {V U : mm_M} {s : Int} (hV : wA V) (hT : TE V U) : ∀ c : Nat, dgC V s c = dgC U s c
  | 0 => rfl
  | c + 1 => by
    have e := te_n hT hV.1.1.1
    have ea : al V = al U := by unfold al; rw [hT.1]
    simp only [dgC]
    rw [dgC_te hV hT c, ind1_i (ST_te2 hT), oc_te _ e.1, oc_te _ e.2, ea, hT.1]
theorem dgT_te {V U : mm_M} {s kd : Int} (hV : wA V) (hT : TE V U) : dgT V s kd = dgT U s kd := by
  have e := te_n hT hV.1.1.1
  have t1 := hV.1.1
  have ea : al V = al U := by unfold al; rw [hT.1]
  unfold dgT
  rw [dgF_te hT (V 2 4).toNat (by omega), dgC_te hV hT, odn_te e.1 e.2, ind1_i (HG_te2 hV hT), hT.1, hT.2.1, hT.2.2.1, hT.2.2.2.1, ea]
theorem dgS_te {V U : mm_M} {w : Nat} {s : Int} (h : SW V U w) : ∀ i : Nat, (i : Int) ≤ V w 2 → dgS V w s i = dgS U w s i
  | 0, _ => rfl
  | i + 1, hi => by
    have e := h.2.2 i (by omega)
    simp only [dgS]
    rw [dgS_te h i (by omega), e]
theorem dgW_te {V U : mm_M} {s t : Int} {w : Nat} (hV : wA V) (hS : SE V U) (hw : isW3 w) : dgW V s w t = dgW U s w t := by
  have hW := hS.w hw
  have hv := (hV.2.1 w hw).1.1
  have e : (V w 2 = V 2 4) ↔ (U w 2 = U 2 4) := by rw [hW.1, hS.t.1]
  unfold dgW
  rw [dgS_te hW (V w 2).toNat (by omega), ind1_i e, cr_te hV hS hw, hW.1, hW.2.1]
theorem dgE_te {V U : mm_M} {s sd : Int} (hV : wA V) (hU : wA U) (hS : SE V U) : dgE V s sd = dgE U s sd := by
  obtain ⟨n1, n2, n3⟩ := hS.2.2.2
  unfold dgE
  rw [pa_te (f := 1) hV hS, pa_te (f := 0) hV hS, ind1_i (hs_te (f := 1) hV hU hS), ind1_i (hs_te (f := 0) hV hU hS), n1, n2, n3]
theorem dg_det {V U : mm_M} {r r' : Int} (hV : wA V) (hU : wA U) (hS : SE V U) (h : dgR V r) (g : dgR U r') : r = r' := by
  obtain ⟨V1, kd, t8, t10, t12, sd, f, h1, h2, h3, h4, h5, h6⟩ := h
  obtain ⟨U1, kd', u8, u10, u12, sd', f', g1, g2, g3, g4, g5, g6⟩ := g
  have hS1 : SE V1 U1 := hS.ends (.scr5 f) (.scr5 f')
  have hV1 := (hV.s f).1
  have hU1 := (hU.s f').1
  have w8 : isW3 8 := Or.inl rfl
  have w10 : isW3 10 := Or.inr (Or.inl rfl)
  have w12 : isW3 12 := Or.inr (Or.inr rfl)
  have e1 := kd_det hV hS.t h1 g1
  have e2 := tuR_det hS1.t (hS1.w w8) (hS1.w w10) (hV1.2.1 8 w8).1 h2 g2
  have e3 := tuR_det hS1.t (hS1.w w10) (hS1.w w12) (hV1.2.1 10 w10).1 h3 g3
  have e4 := tuR_det hS1.t (hS1.w w12) (hS1.w w8) (hV1.2.1 12 w12).1 h4 g4
  have e5 := snd_det hV1 hU1 hS1 h5 g5
  rw [h6, g6, e1, e2, e3, e4, e5, dgT_te hV hS.t, dgW_te hV1 hS1 w8, dgW_te hV1 hS1 w10, dgW_te hV1 hS1 w12, dgE_te hV1 hU1 hS1]
end
section
/-! methods that catch: a row of the table by the kind of what is thrown -/
def mm_hk (k : Nat) : Nat := if k = 0 then 19 else 24
def mm_hn : List (Nat × Nat × Nat × Nat) → Nat → Nat → Option Nat
  | [], _, _ => none
  | x :: r, pc, k => bif (Nat.ble x.1 pc && Nat.blt pc x.2.1 && Nat.beq x.2.2.2 (mm_hk k)) then some x.2.2.1 else mm_hn r pc k
def mm_no (x : Nat × Nat × Nat × Nat) (pc k : Nat) : Prop := ¬ (x.1 ≤ pc ∧ pc < x.2.1) ∨ x.2.2.2 ≠ mm_hk k
theorem mm_hn_none {pc k : Nat} : ∀ hh : List (Nat × Nat × Nat × Nat), mm_hn hh pc k = none → ∀ x ∈ hh, mm_no x pc k
  | [], _, x, hx => nomatch hx
  | y :: r, h, x, hx => by
    simp only [mm_hn] at h
    cases e : (Nat.ble y.1 pc && Nat.blt pc y.2.1 && Nat.beq y.2.2.2 (mm_hk k))
    · rw [e] at h
      rcases List.mem_cons.mp hx with rfl | hx
      · unfold mm_no
        by_cases h1 : x.1 ≤ pc ∧ pc < x.2.1
        · refine Or.inr (fun h2 => ?_)
          have a : Nat.ble x.1 pc = true := Nat.ble_eq.mpr h1.1
          have b : Nat.blt pc x.2.1 = true := Nat.ble_eq.mpr h1.2
          rw [a, b, h2, Nat.beq_refl] at e
          exact absurd e (by decide)
        · exact Or.inl h1
      · exact mm_hn_none r h x hx
    · rw [e] at h
      exact nomatch h
theorem mm_hn_some {pc k hpc : Nat} : ∀ hh : List (Nat × Nat × Nat × Nat), mm_hn hh pc k = some hpc → ∃ pre x suf, hh = pre ++ x :: suf ∧ (∀ z ∈ pre, mm_no z pc k) ∧ (x.1 ≤ pc ∧ pc < x.2.1) ∧ x.2.2.2 = mm_hk k ∧ x.2.2.1 = hpc
  | [], h => nomatch h
  | y :: r, h => by
    simp only [mm_hn] at h
    cases e : (Nat.ble y.1 pc && Nat.blt pc y.2.1 && Nat.beq y.2.2.2 (mm_hk k))
    · rw [e] at h
      obtain ⟨pre, x, suf, h1, h2, h3⟩ := mm_hn_some r h
      refine ⟨y :: pre, x, suf, by rw [h1]; rfl, fun z hz => ?_, h3⟩
      rcases List.mem_cons.mp hz with rfl | hz
      · unfold mm_no
        by_cases h1 : z.1 ≤ pc ∧ pc < z.2.1
        · refine Or.inr (fun h2 => ?_)
          have a : Nat.ble z.1 pc = true := Nat.ble_eq.mpr h1.1
          have b : Nat.blt pc z.2.1 = true := Nat.ble_eq.mpr h1.2
          rw [a, b, h2, Nat.beq_refl] at e
          exact absurd e (by decide)
        · exact Or.inl h1
      · exact h2 z hz
    · rw [e] at h
      simp only [Bool.and_eq_true] at e
      refine ⟨[], y, r, rfl, (fun z hz => nomatch hz), ⟨Nat.ble_eq.mp e.1.1, Nat.ble_eq.mp e.1.2⟩, Nat.eq_of_beq_eq_true e.2, ?_⟩
      simpa using h
/-- the words that a catching method needs -/
theorem mm_lk19 : Jvm.Cond.classLink RL 19 "java/lang/IndexOutOfBoundsException" ∈ mm_U := mm_T_U _ (mm_t3 75 rfl rfl)
theorem mm_lk24 : Jvm.Cond.classLink RL 24 "java/lang/IllegalArgumentException" ∈ mm_U := mm_T_U _ (mm_t3 97 rfl rfl)
theorem mm_cst0 : Jvm.Cond.castable "java/lang/IndexOutOfBoundsException" "java/lang/IndexOutOfBoundsException" ∈ mm_U := List.mem_append_right _ (List.mem_append_right _ List.mem_cons_self)
theorem mm_cst1 : Jvm.Cond.castable "java/lang/IllegalArgumentException" "java/lang/IllegalArgumentException" ∈ mm_U := List.mem_append_right _ (List.mem_append_right _ (List.mem_cons_of_mem _ List.mem_cons_self))
section HT
variable {p : Program} {l : Launch} {e : Env} {R : Room} {s : State} {m : MethodId} {args : Array Value} {below : List Frame} {meth : Method} {c : Code}
variable {cc : ByteArray} {nL : Nat} {D : va_G} {E : mm_En} {Ad : Nat → Nat} {A : Nat → Prop} {mu : Nat} {Qr : mm_Q} {hh : List (Nat × Nat × Nat × Nat)}
theorem mm_pass (X : mm_Cx p s m args c cc RL nL mm_U D E A) (hG : mm_G A D E Ad s) (hct : ∀ x ∈ hh, x.2.2.2 = 19 ∨ x.2.2.2 = 24) {pc k : Nat} {rows : List (Nat × Nat × Nat × Nat)} (hr : ∀ x ∈ rows, x ∈ hh ∧ mm_no x pc k) :
    ∀ z ∈ tableOf rows, covers z pc = false ∨ (z.catchType ≠ 0 ∧ ∃ nm : String, (Cond.classLink RL z.catchType nm).before args s = true ∧ va_Nc (mm_xn k) nm s) := by
  intro z hz
  obtain ⟨x, hx, rfl⟩ := List.mem_map.mp hz
  obtain ⟨h1, h2⟩ := hr x hx
  rcases h2 with h2 | h2
  · left
    show (decide (x.1 ≤ pc) && decide (pc < x.2.1)) = false
    by_cases a : x.1 ≤ pc
    · have b : ¬ pc < x.2.1 := fun b => h2 ⟨a, b⟩
      simp [b]
    · simp [a]
  · right
    have hn := And.intro hG.2.2.2.2.2.1 hG.2.2.2.2.2.2.1
    rcases hct x h1 with h3 | h3
    · have hk : k ≠ 0 := fun e => h2 (by rw [h3, e]; rfl)
      refine ⟨by show x.2.2.2 ≠ 0; omega, "java/lang/IndexOutOfBoundsException", ?_, ?_⟩
      · show (Cond.classLink RL x.2.2.2 _).before args s = true
        rw [h3]
        exact X.2.2.2.2.1 _ mm_lk19
      · unfold mm_xn
        rw [if_neg hk]
        exact hn.1
    · have hk : k = 0 := by
        by_cases e : k = 0
        · exact e
        · exact absurd h3 (by rw [show mm_hk k = 24 by unfold mm_hk; rw [if_neg e]] at h2; exact h2)
      refine ⟨by show x.2.2.2 ≠ 0; omega, "java/lang/IllegalArgumentException", ?_, ?_⟩
      · show (Cond.classLink RL x.2.2.2 _).before args s = true
        rw [h3]
        exact X.2.2.2.2.1 _ mm_lk24
      · unfold mm_xn
        rw [if_pos hk]
        exact hn.2
theorem mz_hT (X : mm_Cx p s m args c cc RL nL mm_U D E A) (hG : mm_G A D E Ad s) (htab : c.exceptionTable.toList = tableOf hh) (hlocks : meth.locks = false) (hct : ∀ x ∈ hh, x.2.2.2 = 19 ∨ x.2.2.2 = 24) :
    mm_hT p l e R s m args below meth c (vx_MQ below (mm_Qc D E Ad A Qr) (mm_XC D E Ad A Qr) args s mu (12 * mu) A) nL D E Ad A mu (mm_hn hh) Qr := by
  intro k pc ls M d u H locs L rest q ce h1 h2 hL hP hD hS hu hce hcv hcl
  cases hx : mm_hn hh pc k with
  | none =>
    refine vx_outP X.2.2.2.1 hlocks ?_ hce hcv hcl (fun t ht _ => ⟨⟨k, M, d, h1 hx, rfl, by rw [ht]; exact hP, hD⟩, hS.F ht⟩) hS.2.2 hu (by omega)
    rw [htab]
    exact mm_pass X hG hct (fun x hx2 => ⟨hx2, mm_hn_none hh hx x hx2⟩)
  | some hpc =>
    obtain ⟨pre, x, suf, e1, e2, e3, e4, e5⟩ := mm_hn_some hh hx
    have hk := h2 hpc hx H locs L hL hP hD hS
    have e6 : tableOf hh = tableOf pre ++ ⟨x.1, x.2.1, x.2.2.1, x.2.2.2⟩ :: tableOf suf := by rw [e1]; simp [tableOf]
    refine vx_catch (name := mm_xn k) X.2.2.2.1 (tableOf pre) ⟨x.1, x.2.1, x.2.2.1, x.2.2.2⟩ (tableOf suf) (by rw [htab, e6]) (mm_pass X hG hct (fun z hz => ⟨by rw [e1]; exact List.mem_append_left _ hz, e2 z hz⟩)) ?_ ?_ ?_ ?_ hce hcv hcl ?_
    · show (decide (x.1 ≤ pc) && decide (pc < x.2.1)) = true
      simp [e3.1, e3.2]
    · show x.2.2.2 ≠ 0
      rw [e4]
      unfold mm_hk
      split <;> decide
    · show (Cond.classLink RL x.2.2.2 _).before args s = true
      rw [e4]
      unfold mm_hk mm_xn
      split
      · exact X.2.2.2.2.1 _ mm_lk19
      · exact X.2.2.2.2.1 _ mm_lk24
    · unfold mm_xn
      split
      · exact X.2.2.2.2.1 _ mm_cst0
      · exact X.2.2.2.2.1 _ mm_cst1
    · show W p l e R s m args below meth c H locs u (12 * u) _ (F0 m x.2.2.1 L [.ref q])
      rw [e5]
      exact hk
end HT
/-- a catching method's contract out of its runs -/
theorem mm_methH {l : Launch} {y : MethodName} {b : ByteArray} {maxL : Nat} {ret : Option FieldType} {h0 : Nat × Nat × Nat × Nat} {hr : List (Nat × Nat × Nat × Nat)} {fr lo mu rt : Nat} {sp : mm_S} {cd : List mm_E}
    {F : Nat → Option (Nat × Nat)} {C : Nat → Option mm_Ca} {LC : Nat → Option Int}
    (hy : plainName y.cls = true) (hown : y.cls = RL) (hk : mm_chk b cd = true) (hrt : mm_rtOK rt ret = true) (hct : ∀ x ∈ h0 :: hr, x.2.2.2 = 19 ∨ x.2.2.2 = 24)
    (hPo : mm_Po RL mm_U F LC) (hPE : ∀ idx ca, C idx = some ca → mm_PE l RL mm_U (mm_rm fr lo mu) idx ca) (hfl : 5 < fr ∧ 82 ≤ lo) (h91 : ∀ k rc, F k ≠ some (rc, 91))
    (h : ∀ av M d Q, sp av M d Q → (mm_fl av).length ≤ maxL ∧ mm_run F C mm_x0 LC (fun _ => none) rt mu (mm_hn (h0 :: hr)) Q cd 0 (mm_ent maxL av) [] M d 0) : mm_Met l y b maxL ret (h0 :: hr) fr lo mu sp := by
  intro D E Ad sz av M d Q hsp
  obtain ⟨hw, hrun⟩ := h av M d Q hsp
  refine vx_ofWH (cc := b) (maxL := maxL) (ret := ret) (hh := h0 :: hr) hy rfl ?_
  intro p e s m args below meth c s₁ B hml hPc
  obtain ⟨rfl, hsz, hP, hD0, hG⟩ := hPc
  have hts := atoms_spec (ws := mm_cw y b maxL ret (h0 :: hr) :: mm_T) B.pre
  have htab : c.exceptionTable.toList = tableOf (h0 :: hr) := vx_table (x := y) B (hts _ List.mem_cons_self)
  have hts' : ∀ w ∈ mm_U, w.before (av.map (mm_cc Ad)).toArray s = true := fun w hw => (List.mem_append.mp hw).elim (fun hw => hts w (List.mem_cons_of_mem _ hw)) (fun hw => va_Nw.use (mm_nw_ot w hw) (hG.2.2.2.2.1 w hw))
  have X : mm_Cx p s m (av.map (mm_cc Ad)).toArray c b RL maxL mm_U D E (va_A (mm_ws E Ad M d) sz) := ⟨B.exec, B.bytes, hml, hown ▸ findClass_of_methodNamed B.named, hts', hG.1, fun q hq => Or.inr (by rw [← hsz]; exact hq), fun q hq w hw => mm_T_U w (mm_T_cls q hq w hw)⟩
  have hlocks := B.notSynchronized
  rw [lg_entry_eq]
  refine hrun (mm_Z p l e (mm_rm fr lo mu) s m (av.map (mm_cc Ad)).toArray below meth c (vx_MQ below (mm_Qc D E Ad (va_A (mm_ws E Ad M d) sz) Q) (mm_XC D E Ad (va_A (mm_ws E Ad M d) sz) Q) (av.map (mm_cc Ad)).toArray s mu (12 * mu) (va_A (mm_ws E Ad M d) sz)) maxL D E Ad (va_A (mm_ws E Ad M d) sz)) ?_ s.heap [] _ (mm_entry hw) hP hD0.self va_S.rf
  intro pc i t rest ls st M' d' u Kn Kj hat hop kn kj
  obtain ⟨pre, hpre⟩ := mm_at_suf pc cd
  have hk' : mm_chk b ((pc, i, t) :: rest) = true := by
    rw [hpre, hat] at hk
    exact mm_chk_app pre _ hk
  refine mm_sound X hPo (SC := fun _ => none) (fun q n xs hq => by cases hq) ⟨hG.2.2.2.2.2.2.2, hG.2.2.2.2.1 _ (by simp [mm_nw]), ⟨⟨Nat.le_refl _, Nat.le_refl _⟩, hfl⟩, mm_T_U _ mm_T_ab, fun k rc e => absurd e (h91 k rc)⟩ ?_ ?_ ?_ hk' hop kn kj
  · exact mz_call X hG ⟨rfl, rfl⟩ hPE (mz_hT X hG htab hlocks hct)
  · intro idx pc rest ls st M d u _ _ _ h9
    exfalso
    revert h9
    unfold mm_thr
    split
    · exact fun h => h
    · exact fun h => h
  · exact mz_ret X B.returns hrt hlocks
def mm_RNH (fl : List (Nat × Nat × Nat)) (ct : List (Nat × mm_Ca)) (lc : List (Nat × Int)) (hh : List (Nat × Nat × Nat × Nat)) (rt mu maxL : Nat) (cd : List mm_E) (sp : mm_S) : Prop :=
  ∀ av M d Q, sp av M d Q → (mm_fl av).length ≤ maxL ∧ mm_run (mm_look fl) (mm_look ct) mm_x0 (mm_look lc) (fun _ => none) rt mu (mm_hn hh) Q cd 0 (mm_ent maxL av) [] M d 0
theorem flL90 : ∀ q ∈ flL, q.2.2 < 90 := by decide
theorem mm_mtH {l : Launch} {y : MethodName} {b : ByteArray} {maxL : Nat} {ret : Option FieldType} {h0 : Nat × Nat × Nat × Nat} {hr : List (Nat × Nat × Nat × Nat)} {fr lo mu rt : Nat} {sp : mm_S} {cd : List mm_E} {ct : List (Nat × mm_Ca)}
    (h : mm_RNH flL ct [] (h0 :: hr) rt mu maxL cd sp) (hy : plainName y.cls = true ∧ y.cls = RL) (hk : mm_chk b cd = true) (hrt : mm_rtOK rt ret = true) (hct : ∀ x ∈ h0 :: hr, x.2.2.2 = 19 ∨ x.2.2.2 = 24) (hPE : mm_PEs l RL (mm_rm fr lo mu) ct) (hfl : 5 < fr ∧ 82 ≤ lo := by decide) : mm_Met l y b maxL ret (h0 :: hr) fr lo mu sp :=
  mm_methH (F := mm_look flL) (C := mm_look ct) (LC := mm_look []) hy.1 hy.2 hk hrt hct ⟨fun k rc n e => Or.inl ⟨flL90 _ (mm_look_mem flL e), flkL (k, rc, n) (mm_look_mem flL e)⟩, fun k x e => nomatch e⟩ (fun idx ca e => mm_PEs_look ct hPE e) hfl (fun k rc e => absurd (flL90 _ (mm_look_mem flL e)) (by simp)) (fun av M d Q hs => h av M d Q hs)
/-- what the law's helper leaves of the class's side: the order, all else but the answer's box -/
def lP (M M' : mm_M) : Prop := wA M' ∧ (∀ o, (o = 0 ∨ 16 < o) → o ≠ 23 → M' o = M o) ∧ M' 1 6 = M 1 6
theorem lP.of {M M' : mm_M} (h : cP M M') : lP M M' := ⟨h.1, fun o ho _ => h.2.1 o ho, h.2.2⟩
theorem lP.up {M M' : mm_M} {k : Nat} {x : Int} (h : cP M M') : lP M (mm_up M' 23 k x) := by
  refine ⟨⟨?_, fun w hw => ?_, ?_⟩, fun o ho h3 => by rw [mm_up_o _ h3]; exact h.2.1 o ho, by rw [mm_up_o _ (by omega)]; exact h.2.2⟩
  · have ht := h.1.1
    unfold tW at *
    rw [mm_up_o 2 (by omega), mm_up_o 3 (by omega), mm_up_o 4 (by omega)]
    exact ht
  · have := isK_le hw.k
    exact wV.me (h.1.2.1 w hw) (mm_up_o _ (by omega)) (mm_up_o _ (by omega)) (mm_up_o _ (by omega))
  · refine h.1.2.2.to (mm_up_o _ (by omega)) (fun h1 _ => ?_)
    have := isK_le (h.1.2.2.1.resolve_left h1).k
    rw [mm_up_o _ (by omega)]
    exact Int.le_refl _
end
section
/-! the law: its helpers (a row of the class each, with what it throws caught) -/
theorem mm_k0 {P : Nat → Prop} {C : Prop} (h : C → P 0) : ∀ k, k = 0 ∧ C → P k := fun k e => by rw [e.1]; exact h e.2
theorem mm_k1 {P : Nat → Prop} {C : Prop} (h : C → P 1) : ∀ k, k = 1 ∧ C → P k := fun k e => by rw [e.1]; exact h e.2
theorem mm_k2 {P : Nat → Prop} {C D : Prop} (h : (C → P 0) ∧ (D → P 1)) : ∀ k, (k = 0 ∧ C) ∨ (k = 1 ∧ D) → P k := fun k e => by
  rcases e with e | e
  · rw [e.1]; exact h.1 e.2
  · rw [e.1]; exact h.2 e.2
theorem mm_k3 {P : Nat → Prop} (h : P 0 ∧ P 1) : ∀ k, k = 0 ∨ k = 1 → P k := fun k e => by
  rcases e with e | e
  · rw [e]; exact h.1
  · rw [e]; exact h.2
theorem mm_w_id {x : Int} (h : InI x) : mm_w x = x := by
  unfold mm_w
  exact Int32.toInt_ofInt_of_le h.1 h.2
theorem mm_w0 : mm_w 0 = 0 := mm_w_id ⟨by decide, by decide⟩
theorem mm_w1 : mm_w 1 = 1 := mm_w_id ⟨by decide, by decide⟩
/-- what a helper leaves: what was thrown, the answer in its box -/
def hlP (M M1 M' : mm_M) (e r : Int) : Prop := cP M M1 ∧ (e = 0 ∨ e = 1 ∨ e = 2) ∧ (∀ o, o ≠ 23 → M' o = M1 o) ∧ (e = 0 → M' 23 0 = mm_w r)
theorem hlP_0 {M M1 : mm_M} {r : Int} (h : cP M M1) : hlP M M1 (mm_up M1 23 0 (mm_w r)) 0 r := ⟨h, Or.inl rfl, fun o ho => mm_up_o _ ho, fun _ => mm_up_sm⟩
theorem hlP_1 {M : mm_M} {e : Int} (h : wA M) (he : e = 1 ∨ e = 2) : hlP M M M e 0 := ⟨h.rf, by omega, fun _ _ => rfl, fun h => by omega⟩
def sp_L_lay : mm_S := fun av M d Q => match av with
  | [.inr (.inr (.inl x)), .inl p0, .inl p1, .inr (.inr (.inl o))] =>  x = 1 ∧ o = 23 ∧ wA M ∧ InI p0 ∧ InI p1 ∧ ∀ M1 M' e r, hlP M M1 M' e r → C_lay p0 p1 M M1 e r → Q (.inl (some (mm_I e))) M' d
  | _ => False
def ct_L_lay : List (Nat × mm_Ca) := [(7, (0, 3, 10, sp_X3_lay, 2))]
abbrev rr_L_lay (Q : mm_Q) := mm_run (mm_look flL) (mm_look ct_L_lay) mm_x0 (mm_look ([] : List (Nat × Int))) (fun _ => none) 1 2 (mm_hn [(0, 11, 14, 19)]) Q kdL_lay
set_option maxRecDepth 20000 in
theorem rn_L_lay : mm_RNH flL ct_L_lay [] [(0, 11, 14, 19)] 1 2 5 kdL_lay sp_L_lay := by
  intro av M d Q h
  unfold sp_L_lay at h
  split at h
  · rename_i x p0 p1 o
    obtain ⟨rfl, rfl, ha, h0, h1, hq⟩ := h
    have q1 : C_lay p0 p1 M M 1 0 → Q (.inl (some (mm_I 1))) M d := fun hc => hq M M 1 0 (hlP_1 ha (by omega)) hc
    have q2 : C_lay p0 p1 M M 2 0 → Q (.inl (some (mm_I 2))) M d := fun hc => hq M M 2 0 (hlP_1 ha (by omega)) hc
    have qa := fun M' (r : Int) (h : cP M M' ∧ InI r ∧ C_lay p0 p1 M M' 0 r) => hq M' _ 0 r (hlP_0 (r := r) h.1) h.2.2
    clear hq
    obtain ⟨K, hK, hK2⟩ : ∃ K : Nat → mm_K, (∀ t ls st M d u, K t ls st M d u → rr_L_lay Q t ls st M d u) ∧ (∀ t ls st M d u, rr_L_lay Q t ls st M d u → K t ls st M d u) := ⟨rr_L_lay Q, fun _ _ _ _ _ _ h => h, fun _ _ _ _ _ _ h => h⟩
    refine ⟨Nat.le_of_ble_eq_true rfl, mm_run_at (stop := []) (S := K) kkL_lay 90 ?_ (fun _ _ _ _ _ _ _ h => hK _ _ _ _ _ _ h)⟩
    repeat' (first | with_reducible assumption | with_reducible exact mm_i1 | with_reducible exact mm_i17 | with_reducible exact mm_i23 | ((with_reducible show mm_rv _ _ _ _ _); first | exact True.intro | exact mm_i1 | exact mm_i17 | exact mm_i23 | refine mm_k0 ?_) | refine mm_k0 ?_ | ((with_reducible show mm_bool _ _); first | exact True.intro | exact Or.inl rfl | exact Or.inr rfl | (show (_ : Int) = 0 ∨ _ = 1)) | refine And.intro ?_ ?_ | intro _ | with_reducible exact True.intro | exact rfl | with_reducible exact Or.inl rfl | with_reducible exact Or.inr rfl | exact Nat.le_of_ble_eq_true rfl)
    all_goals (try simp (disch := omega) only [InI, Int.toNat_natCast, Int.tmod_eq_emod_of_nonneg, Int.tdiv_eq_ediv_of_nonneg, true_implies, true_or, or_true, mm_l18, mm_l19, mm_l20, mm_l21, mm_l22] at *)
    all_goals first | omega | exact qa _ _ (by assumption) | exact q1 (by assumption) | exact q2 (by assumption) | skip
  · exact h.elim
theorem me_L_lay {l : Launch} (hl : l.stackTraces = false) : mm_Met l yL_lay cL_lay 5 (some .int) [(0, 11, 14, 19)] 9 164 2 sp_L_lay := mm_mtH rn_L_lay ⟨by decide, rfl⟩ kkL_lay rfl (by decide) (⟨mm_pe (me_X3_lay hl) mwX3_lay (mm_t3 76 rfl rfl) (Nat.le_of_ble_eq_true rfl) (Nat.le_of_ble_eq_true rfl), trivial⟩)
def sp_L_layRing : mm_S := fun av M d Q => match av with
  | [.inr (.inr (.inl x)), .inl p0, .inl p1, .inr (.inr (.inl o))] =>  x = 1 ∧ o = 23 ∧ wA M ∧ InI p0 ∧ InI p1 ∧ ∀ M1 M' e r, hlP M M1 M' e r → C_layRing p0 p1 M M1 e r → Q (.inl (some (mm_I e))) M' d
  | _ => False
def ct_L_layRing : List (Nat × mm_Ca) := [(21, (0, 3, 10, sp_X3_layRing, 2))]
abbrev rr_L_layRing (Q : mm_Q) := mm_run (mm_look flL) (mm_look ct_L_layRing) mm_x0 (mm_look ([] : List (Nat × Int))) (fun _ => none) 1 2 (mm_hn [(0, 11, 14, 24)]) Q kdL_layRing
set_option maxRecDepth 20000 in
theorem rn_L_layRing : mm_RNH flL ct_L_layRing [] [(0, 11, 14, 24)] 1 2 5 kdL_layRing sp_L_layRing := by
  intro av M d Q h
  unfold sp_L_layRing at h
  split at h
  · rename_i x p0 p1 o
    obtain ⟨rfl, rfl, ha, h0, h1, hq⟩ := h
    have q1 : C_layRing p0 p1 M M 1 0 → Q (.inl (some (mm_I 1))) M d := fun hc => hq M M 1 0 (hlP_1 ha (by omega)) hc
    have q2 : C_layRing p0 p1 M M 2 0 → Q (.inl (some (mm_I 2))) M d := fun hc => hq M M 2 0 (hlP_1 ha (by omega)) hc
    have qa := fun M' (r : Int) (h : cP M M' ∧ InI r ∧ C_layRing p0 p1 M M' 0 r) => hq M' _ 0 r (hlP_0 (r := r) h.1) h.2.2
    clear hq
    obtain ⟨K, hK, hK2⟩ : ∃ K : Nat → mm_K, (∀ t ls st M d u, K t ls st M d u → rr_L_layRing Q t ls st M d u) ∧ (∀ t ls st M d u, rr_L_layRing Q t ls st M d u → K t ls st M d u) := ⟨rr_L_layRing Q, fun _ _ _ _ _ _ h => h, fun _ _ _ _ _ _ h => h⟩
    refine ⟨Nat.le_of_ble_eq_true rfl, mm_run_at (stop := []) (S := K) kkL_layRing 90 ?_ (fun _ _ _ _ _ _ _ h => hK _ _ _ _ _ _ h)⟩
    repeat' (first | with_reducible assumption | with_reducible exact mm_i1 | with_reducible exact mm_i17 | with_reducible exact mm_i23 | ((with_reducible show mm_rv _ _ _ _ _); first | exact True.intro | exact mm_i1 | exact mm_i17 | exact mm_i23 | refine mm_k1 ?_) | refine mm_k1 ?_ | ((with_reducible show mm_bool _ _); first | exact True.intro | exact Or.inl rfl | exact Or.inr rfl | (show (_ : Int) = 0 ∨ _ = 1)) | refine And.intro ?_ ?_ | intro _ | with_reducible exact True.intro | exact rfl | with_reducible exact Or.inl rfl | with_reducible exact Or.inr rfl | exact Nat.le_of_ble_eq_true rfl)
    all_goals (try simp (disch := omega) only [InI, Int.toNat_natCast, Int.tmod_eq_emod_of_nonneg, Int.tdiv_eq_ediv_of_nonneg, true_implies, true_or, or_true, mm_l18, mm_l19, mm_l20, mm_l21, mm_l22] at *)
    all_goals first | omega | exact qa _ _ (by assumption) | exact q1 (by assumption) | exact q2 (by assumption) | skip
  · exact h.elim
theorem me_L_layRing {l : Launch} (hl : l.stackTraces = false) : mm_Met l yL_layRing cL_layRing 5 (some .int) [(0, 11, 14, 24)] 10 187 2 sp_L_layRing := mm_mtH rn_L_layRing ⟨by decide, rfl⟩ kkL_layRing rfl (by decide) (⟨mm_pe (me_X3_layRing hl) mwX3_layRing (mm_t3 98 rfl rfl) (Nat.le_of_ble_eq_true rfl) (Nat.le_of_ble_eq_true rfl), trivial⟩)
def sp_L_words : mm_S := fun av M d Q => match av with
  | [.inr (.inr (.inl x)), .inl p0, .inl p1, .inr (.inr (.inl o))] =>  x = 1 ∧ o = 23 ∧ wA M ∧ InI p0 ∧ InI p1 ∧ ∀ M1 M' e r, hlP M M1 M' e r → C_words p0 p1 M M1 e r → Q (.inl (some (mm_I e))) M' d
  | _ => False
def ct_L_words : List (Nat × mm_Ca) := [(26, (0, 3, 10, sp_X3_words, 2))]
abbrev rr_L_words (Q : mm_Q) := mm_run (mm_look flL) (mm_look ct_L_words) mm_x0 (mm_look ([] : List (Nat × Int))) (fun _ => none) 1 2 (mm_hn [(0, 11, 14, 24)]) Q kdL_words
set_option maxRecDepth 20000 in
theorem rn_L_words : mm_RNH flL ct_L_words [] [(0, 11, 14, 24)] 1 2 5 kdL_words sp_L_words := by
  intro av M d Q h
  unfold sp_L_words at h
  split at h
  · rename_i x p0 p1 o
    obtain ⟨rfl, rfl, ha, h0, h1, hq⟩ := h
    have q1 : C_words p0 p1 M M 1 0 → Q (.inl (some (mm_I 1))) M d := fun hc => hq M M 1 0 (hlP_1 ha (by omega)) hc
    have q2 : C_words p0 p1 M M 2 0 → Q (.inl (some (mm_I 2))) M d := fun hc => hq M M 2 0 (hlP_1 ha (by omega)) hc
    have qa := fun M' (r : Int) (h : cP M M' ∧ InI r ∧ C_words p0 p1 M M' 0 r) => hq M' _ 0 r (hlP_0 (r := r) h.1) h.2.2
    clear hq
    obtain ⟨K, hK, hK2⟩ : ∃ K : Nat → mm_K, (∀ t ls st M d u, K t ls st M d u → rr_L_words Q t ls st M d u) ∧ (∀ t ls st M d u, rr_L_words Q t ls st M d u → K t ls st M d u) := ⟨rr_L_words Q, fun _ _ _ _ _ _ h => h, fun _ _ _ _ _ _ h => h⟩
    refine ⟨Nat.le_of_ble_eq_true rfl, mm_run_at (stop := []) (S := K) kkL_words 90 ?_ (fun _ _ _ _ _ _ _ h => hK _ _ _ _ _ _ h)⟩
    repeat' (first | with_reducible assumption | with_reducible exact mm_i1 | with_reducible exact mm_i17 | with_reducible exact mm_i23 | ((with_reducible show mm_rv _ _ _ _ _); first | exact True.intro | exact mm_i1 | exact mm_i17 | exact mm_i23 | refine mm_k1 ?_) | refine mm_k1 ?_ | ((with_reducible show mm_bool _ _); first | exact True.intro | exact Or.inl rfl | exact Or.inr rfl | (show (_ : Int) = 0 ∨ _ = 1)) | refine And.intro ?_ ?_ | intro _ | with_reducible exact True.intro | exact rfl | with_reducible exact Or.inl rfl | with_reducible exact Or.inr rfl | exact Nat.le_of_ble_eq_true rfl)
    all_goals (try simp (disch := omega) only [InI, Int.toNat_natCast, Int.tmod_eq_emod_of_nonneg, Int.tdiv_eq_ediv_of_nonneg, true_implies, true_or, or_true, mm_l18, mm_l19, mm_l20, mm_l21, mm_l22] at *)
    all_goals first | omega | exact qa _ _ (by assumption) | exact q1 (by assumption) | exact q2 (by assumption) | skip
  · exact h.elim
theorem me_L_words {l : Launch} (hl : l.stackTraces = false) : mm_Met l yL_words cL_words 5 (some .int) [(0, 11, 14, 24)] 10 188 2 sp_L_words := mm_mtH rn_L_words ⟨by decide, rfl⟩ kkL_words rfl (by decide) (⟨mm_pe (me_X3_words hl) mwX3_words (mm_t3 129 rfl rfl) (Nat.le_of_ble_eq_true rfl) (Nat.le_of_ble_eq_true rfl), trivial⟩)
def sp_L_close : mm_S := fun av M d Q => match av with
  | [.inr (.inr (.inl x)), .inl p0, .inr (.inr (.inl o))] =>  x = 1 ∧ o = 23 ∧ wA M ∧ InI p0 ∧ ∀ M1 M' e r, hlP M M1 M' e r → C_close p0 M M1 e r → Q (.inl (some (mm_I e))) M' d
  | _ => False
def ct_L_close : List (Nat × mm_Ca) := [(29, (0, 2, 10, sp_X3_close, 1))]
abbrev rr_L_close (Q : mm_Q) := mm_run (mm_look flL) (mm_look ct_L_close) mm_x0 (mm_look ([] : List (Nat × Int))) (fun _ => none) 1 1 (mm_hn [(0, 10, 13, 19)]) Q kdL_close
set_option maxRecDepth 20000 in
theorem rn_L_close : mm_RNH flL ct_L_close [] [(0, 10, 13, 19)] 1 1 4 kdL_close sp_L_close := by
  intro av M d Q h
  unfold sp_L_close at h
  split at h
  · rename_i x p0 o
    obtain ⟨rfl, rfl, ha, h0, hq⟩ := h
    have q1 : C_close p0 M M 1 0 → Q (.inl (some (mm_I 1))) M d := fun hc => hq M M 1 0 (hlP_1 ha (by omega)) hc
    have q2 : C_close p0 M M 2 0 → Q (.inl (some (mm_I 2))) M d := fun hc => hq M M 2 0 (hlP_1 ha (by omega)) hc
    have qa := fun M' (r : Int) (h : cP M M' ∧ InI r ∧ C_close p0 M M' 0 r) => hq M' _ 0 r (hlP_0 (r := r) h.1) h.2.2
    clear hq
    obtain ⟨K, hK, hK2⟩ : ∃ K : Nat → mm_K, (∀ t ls st M d u, K t ls st M d u → rr_L_close Q t ls st M d u) ∧ (∀ t ls st M d u, rr_L_close Q t ls st M d u → K t ls st M d u) := ⟨rr_L_close Q, fun _ _ _ _ _ _ h => h, fun _ _ _ _ _ _ h => h⟩
    refine ⟨Nat.le_of_ble_eq_true rfl, mm_run_at (stop := []) (S := K) kkL_close 90 ?_ (fun _ _ _ _ _ _ _ h => hK _ _ _ _ _ _ h)⟩
    repeat' (first | with_reducible assumption | with_reducible exact mm_i1 | with_reducible exact mm_i17 | with_reducible exact mm_i23 | ((with_reducible show mm_rv _ _ _ _ _); first | exact True.intro | exact mm_i1 | exact mm_i17 | exact mm_i23 | refine mm_k0 ?_) | refine mm_k0 ?_ | ((with_reducible show mm_bool _ _); first | exact True.intro | exact Or.inl rfl | exact Or.inr rfl | (show (_ : Int) = 0 ∨ _ = 1)) | refine And.intro ?_ ?_ | intro _ | with_reducible exact True.intro | exact rfl | with_reducible exact Or.inl rfl | with_reducible exact Or.inr rfl | exact Nat.le_of_ble_eq_true rfl)
    all_goals (try simp (disch := omega) only [InI, Int.toNat_natCast, Int.tmod_eq_emod_of_nonneg, Int.tdiv_eq_ediv_of_nonneg, true_implies, true_or, or_true, mm_l18, mm_l19, mm_l20, mm_l21, mm_l22] at *)
    all_goals first | omega | exact qa _ _ (by assumption) | exact q1 (by assumption) | exact q2 (by assumption) | skip
  · exact h.elim
theorem me_L_close {l : Launch} (hl : l.stackTraces = false) : mm_Met l yL_close cL_close 4 (some .int) [(0, 10, 13, 19)] 9 163 1 sp_L_close := mm_mtH rn_L_close ⟨by decide, rfl⟩ kkL_close rfl (by decide) (⟨mm_pe (me_X3_close hl) mwX3_close (mm_t3 144 rfl rfl) (Nat.le_of_ble_eq_true rfl) (Nat.le_of_ble_eq_true rfl), trivial⟩)
def sp_L_end : mm_S := fun av M d Q => match av with
  | [.inr (.inr (.inl x)), .inl p0, .inl p1, .inr (.inr (.inl o))] =>  x = 1 ∧ o = 23 ∧ wA M ∧ InI p0 ∧ (p1 = 0 ∨ p1 = 1) ∧ ∀ M1 M' e r, hlP M M1 M' e r → C_end p0 p1 M M1 e r → Q (.inl (some (mm_I e))) M' d
  | _ => False
def ct_L_end : List (Nat × mm_Ca) := [(33, (0, 3, 10, sp_X3_end, 1))]
abbrev rr_L_end (Q : mm_Q) := mm_run (mm_look flL) (mm_look ct_L_end) mm_x0 (mm_look ([] : List (Nat × Int))) (fun _ => none) 1 1 (mm_hn [(0, 11, 14, 19)]) Q kdL_end
set_option maxRecDepth 20000 in
theorem rn_L_end : mm_RNH flL ct_L_end [] [(0, 11, 14, 19)] 1 1 5 kdL_end sp_L_end := by
  intro av M d Q h
  unfold sp_L_end at h
  split at h
  · rename_i x p0 p1 o
    obtain ⟨rfl, rfl, ha, h0, h1, hq⟩ := h
    have q1 : C_end p0 p1 M M 1 0 → Q (.inl (some (mm_I 1))) M d := fun hc => hq M M 1 0 (hlP_1 ha (by omega)) hc
    have q2 : C_end p0 p1 M M 2 0 → Q (.inl (some (mm_I 2))) M d := fun hc => hq M M 2 0 (hlP_1 ha (by omega)) hc
    have qa := fun (r : Int) (h : InI r ∧ C_end p0 p1 M M 0 r) => hq M _ 0 r (hlP_0 (r := r) ha.rf) h.2
    clear hq
    obtain ⟨K, hK, hK2⟩ : ∃ K : Nat → mm_K, (∀ t ls st M d u, K t ls st M d u → rr_L_end Q t ls st M d u) ∧ (∀ t ls st M d u, rr_L_end Q t ls st M d u → K t ls st M d u) := ⟨rr_L_end Q, fun _ _ _ _ _ _ h => h, fun _ _ _ _ _ _ h => h⟩
    refine ⟨Nat.le_of_ble_eq_true rfl, mm_run_at (stop := []) (S := K) kkL_end 90 ?_ (fun _ _ _ _ _ _ _ h => hK _ _ _ _ _ _ h)⟩
    repeat' (first | with_reducible assumption | with_reducible exact mm_i1 | with_reducible exact mm_i17 | with_reducible exact mm_i23 | ((with_reducible show mm_rv _ _ _ _ _); first | exact True.intro | exact mm_i1 | exact mm_i17 | exact mm_i23 | refine mm_k0 ?_) | refine mm_k0 ?_ | ((with_reducible show mm_bool _ _); first | exact True.intro | exact Or.inl rfl | exact Or.inr rfl | (show (_ : Int) = 0 ∨ _ = 1)) | refine And.intro ?_ ?_ | intro _ | with_reducible exact True.intro | exact rfl | with_reducible exact Or.inl rfl | with_reducible exact Or.inr rfl | exact Nat.le_of_ble_eq_true rfl)
    all_goals (try simp (disch := omega) only [InI, Int.toNat_natCast, Int.tmod_eq_emod_of_nonneg, Int.tdiv_eq_ediv_of_nonneg, true_implies, true_or, or_true, mm_l18, mm_l19, mm_l20, mm_l21, mm_l22] at *)
    all_goals first | omega | exact qa _ (by assumption) | exact q1 (by assumption) | exact q2 (by assumption) | skip
  · exact h.elim
theorem me_L_end {l : Launch} (hl : l.stackTraces = false) : mm_Met l yL_end cL_end 5 (some .int) [(0, 11, 14, 19)] 9 163 1 sp_L_end := mm_mtH rn_L_end ⟨by decide, rfl⟩ kkL_end rfl (by decide) (⟨mm_pe (me_X3_end hl) mwX3_end (mm_t3 168 rfl rfl) (Nat.le_of_ble_eq_true rfl) (Nat.le_of_ble_eq_true rfl), trivial⟩)
def sp_L_ways : mm_S := fun av M d Q => match av with
  | [.inr (.inr (.inl x)), .inl p0, .inl p1, .inr (.inr (.inl o))] =>  x = 1 ∧ o = 23 ∧ wA M ∧ InI p0 ∧ InI p1 ∧ ∀ M1 M' e r, hlP M M1 M' e r → C_ways p0 p1 M M1 e r → Q (.inl (some (mm_I e))) M' d
  | _ => False
def ct_L_ways : List (Nat × mm_Ca) := [(37, (0, 3, 10, sp_X3_ways, 2))]
abbrev rr_L_ways (Q : mm_Q) := mm_run (mm_look flL) (mm_look ct_L_ways) mm_x0 (mm_look ([] : List (Nat × Int))) (fun _ => none) 1 2 (mm_hn [(0, 11, 14, 19), (0, 11, 18, 24)]) Q kdL_ways
set_option maxRecDepth 20000 in
theorem rn_L_ways : mm_RNH flL ct_L_ways [] [(0, 11, 14, 19), (0, 11, 18, 24)] 1 2 5 kdL_ways sp_L_ways := by
  intro av M d Q h
  unfold sp_L_ways at h
  split at h
  · rename_i x p0 p1 o
    obtain ⟨rfl, rfl, ha, h0, h1, hq⟩ := h
    have q1 : C_ways p0 p1 M M 1 0 → Q (.inl (some (mm_I 1))) M d := fun hc => hq M M 1 0 (hlP_1 ha (by omega)) hc
    have q2 : C_ways p0 p1 M M 2 0 → Q (.inl (some (mm_I 2))) M d := fun hc => hq M M 2 0 (hlP_1 ha (by omega)) hc
    have qa := fun M' (r : Int) (h : cP M M' ∧ InI r ∧ C_ways p0 p1 M M' 0 r) => hq M' _ 0 r (hlP_0 (r := r) h.1) h.2.2
    clear hq
    obtain ⟨K, hK, hK2⟩ : ∃ K : Nat → mm_K, (∀ t ls st M d u, K t ls st M d u → rr_L_ways Q t ls st M d u) ∧ (∀ t ls st M d u, rr_L_ways Q t ls st M d u → K t ls st M d u) := ⟨rr_L_ways Q, fun _ _ _ _ _ _ h => h, fun _ _ _ _ _ _ h => h⟩
    refine ⟨Nat.le_of_ble_eq_true rfl, mm_run_at (stop := []) (S := K) kkL_ways 90 ?_ (fun _ _ _ _ _ _ _ h => hK _ _ _ _ _ _ h)⟩
    repeat' (first | with_reducible assumption | with_reducible exact mm_i1 | with_reducible exact mm_i17 | with_reducible exact mm_i23 | ((with_reducible show mm_rv _ _ _ _ _); first | exact True.intro | exact mm_i1 | exact mm_i17 | exact mm_i23 | refine mm_k2 ?_) | refine mm_k2 ?_ | ((with_reducible show mm_bool _ _); first | exact True.intro | exact Or.inl rfl | exact Or.inr rfl | (show (_ : Int) = 0 ∨ _ = 1)) | refine And.intro ?_ ?_ | intro _ | with_reducible exact True.intro | exact rfl | with_reducible exact Or.inl rfl | with_reducible exact Or.inr rfl | exact Nat.le_of_ble_eq_true rfl)
    all_goals (try simp (disch := omega) only [InI, Int.toNat_natCast, Int.tmod_eq_emod_of_nonneg, Int.tdiv_eq_ediv_of_nonneg, true_implies, true_or, or_true, mm_l18, mm_l19, mm_l20, mm_l21, mm_l22] at *)
    all_goals first | omega | exact qa _ _ (by assumption) | exact q1 (by assumption) | exact q2 (by assumption) | skip
  · exact h.elim
theorem me_L_ways {l : Launch} (hl : l.stackTraces = false) : mm_Met l yL_ways cL_ways 5 (some .int) [(0, 11, 14, 19), (0, 11, 18, 24)] 9 166 2 sp_L_ways := mm_mtH rn_L_ways ⟨by decide, rfl⟩ kkL_ways rfl (by decide) (⟨mm_pe (me_X3_ways hl) mwX3_ways (mm_t3 175 rfl rfl) (Nat.le_of_ble_eq_true rfl) (Nat.le_of_ble_eq_true rfl), trivial⟩)
def sp_L_isStart : mm_S := fun av M d Q => match av with
  | [.inr (.inr (.inl x)), .inl p0, .inr (.inr (.inl o))] =>  x = 1 ∧ o = 23 ∧ wA M ∧ InI p0 ∧ ∀ M1 M' e r, hlP M M1 M' e r → C_isStart p0 M M1 e r → Q (.inl (some (mm_I e))) M' d
  | _ => False
def ct_L_isStart : List (Nat × mm_Ca) := [(40, (0, 2, 10, sp_X3_isStart, 1))]
abbrev rr_L_isStart (Q : mm_Q) := mm_run (mm_look flL) (mm_look ct_L_isStart) mm_x0 (mm_look ([] : List (Nat × Int))) (fun _ => none) 1 1 (mm_hn [(0, 17, 20, 19)]) Q kdL_isStart
set_option maxRecDepth 20000 in
theorem rn_L_isStart : mm_RNH flL ct_L_isStart [] [(0, 17, 20, 19)] 1 1 4 kdL_isStart sp_L_isStart := by
  intro av M d Q h
  unfold sp_L_isStart at h
  split at h
  · rename_i x p0 o
    obtain ⟨rfl, rfl, ha, h0, hq⟩ := h
    have q1 : C_isStart p0 M M 1 0 → Q (.inl (some (mm_I 1))) M d := fun hc => hq M M 1 0 (hlP_1 ha (by omega)) hc
    have q2 : C_isStart p0 M M 2 0 → Q (.inl (some (mm_I 2))) M d := fun hc => hq M M 2 0 (hlP_1 ha (by omega)) hc
    have qa : ∀ M' (r : Int), (cP M M' ∧ (r = 0 ∨ r = 1) ∧ C_isStart p0 M M' 0 r) → r ≠ 0 → Q (.inl (some (mm_I 0))) (mm_up M' 23 0 1) d := fun M' r h hr => by
      have e : r = 1 := by have := h.2.1; omega
      subst e
      have := hq M' _ 0 1 (hlP_0 h.1) h.2.2
      rw [mm_w1] at this
      exact this
    have qb : ∀ M' (r : Int), (cP M M' ∧ (r = 0 ∨ r = 1) ∧ C_isStart p0 M M' 0 r) → r = 0 → Q (.inl (some (mm_I 0))) (mm_up M' 23 0 0) d := fun M' r h hr => by
      subst hr
      have := hq M' _ 0 0 (hlP_0 h.1) h.2.2
      rw [mm_w0] at this
      exact this
    clear hq
    obtain ⟨K, hK, hK2⟩ : ∃ K : Nat → mm_K, (∀ t ls st M d u, K t ls st M d u → rr_L_isStart Q t ls st M d u) ∧ (∀ t ls st M d u, rr_L_isStart Q t ls st M d u → K t ls st M d u) := ⟨rr_L_isStart Q, fun _ _ _ _ _ _ h => h, fun _ _ _ _ _ _ h => h⟩
    refine ⟨Nat.le_of_ble_eq_true rfl, mm_run_at (stop := []) (S := K) kkL_isStart 90 ?_ (fun _ _ _ _ _ _ _ h => hK _ _ _ _ _ _ h)⟩
    repeat' (first | with_reducible assumption | with_reducible exact mm_i1 | with_reducible exact mm_i17 | with_reducible exact mm_i23 | ((with_reducible show mm_rv _ _ _ _ _); first | exact True.intro | exact mm_i1 | exact mm_i17 | exact mm_i23 | refine mm_k0 ?_) | refine mm_k0 ?_ | ((with_reducible show mm_bool _ _); first | exact True.intro | exact Or.inl rfl | exact Or.inr rfl | (show (_ : Int) = 0 ∨ _ = 1)) | refine And.intro ?_ ?_ | intro _ | with_reducible exact True.intro | exact rfl | with_reducible exact Or.inl rfl | with_reducible exact Or.inr rfl | exact Nat.le_of_ble_eq_true rfl)
    all_goals (try simp (disch := omega) only [InI, Int.toNat_natCast, Int.tmod_eq_emod_of_nonneg, Int.tdiv_eq_ediv_of_nonneg, true_implies, true_or, or_true, mm_l18, mm_l19, mm_l20, mm_l21, mm_l22] at *)
    all_goals first | omega | exact qa _ _ (by assumption) (by omega) | exact qb _ _ (by assumption) (by omega) | exact q1 (by assumption) | exact q2 (by assumption) | skip
  · exact h.elim
theorem me_L_isStart {l : Launch} (hl : l.stackTraces = false) : mm_Met l yL_isStart cL_isStart 4 (some .int) [(0, 17, 20, 19)] 11 208 1 sp_L_isStart := mm_mtH rn_L_isStart ⟨by decide, rfl⟩ kkL_isStart rfl (by decide) (⟨mm_pe (me_X3_isStart hl) mwX3_isStart (mm_t3 182 rfl rfl) (Nat.le_of_ble_eq_true rfl) (Nat.le_of_ble_eq_true rfl), trivial⟩)
def sp_L_rule : mm_S := fun av M d Q => match av with
  | [.inr (.inr (.inl x)), .inl p0, .inr (.inr (.inl o))] =>  x = 1 ∧ o = 23 ∧ wA M ∧ InI p0 ∧ ∀ M1 M' e r, hlP M M1 M' e r → C_rule p0 M M1 e r → Q (.inl (some (mm_I e))) M' d
  | _ => False
def ct_L_rule : List (Nat × mm_Ca) := [(44, (0, 2, 10, sp_X3_rule, 1))]
abbrev rr_L_rule (Q : mm_Q) := mm_run (mm_look flL) (mm_look ct_L_rule) mm_x0 (mm_look ([] : List (Nat × Int))) (fun _ => none) 1 1 (mm_hn [(0, 10, 13, 24)]) Q kdL_rule
set_option maxRecDepth 20000 in
theorem rn_L_rule : mm_RNH flL ct_L_rule [] [(0, 10, 13, 24)] 1 1 4 kdL_rule sp_L_rule := by
  intro av M d Q h
  unfold sp_L_rule at h
  split at h
  · rename_i x p0 o
    obtain ⟨rfl, rfl, ha, h0, hq⟩ := h
    have q1 : C_rule p0 M M 1 0 → Q (.inl (some (mm_I 1))) M d := fun hc => hq M M 1 0 (hlP_1 ha (by omega)) hc
    have q2 : C_rule p0 M M 2 0 → Q (.inl (some (mm_I 2))) M d := fun hc => hq M M 2 0 (hlP_1 ha (by omega)) hc
    have qa := fun (r : Int) (h : InI r ∧ C_rule p0 M M 0 r) => hq M _ 0 r (hlP_0 (r := r) ha.rf) h.2
    clear hq
    obtain ⟨K, hK, hK2⟩ : ∃ K : Nat → mm_K, (∀ t ls st M d u, K t ls st M d u → rr_L_rule Q t ls st M d u) ∧ (∀ t ls st M d u, rr_L_rule Q t ls st M d u → K t ls st M d u) := ⟨rr_L_rule Q, fun _ _ _ _ _ _ h => h, fun _ _ _ _ _ _ h => h⟩
    refine ⟨Nat.le_of_ble_eq_true rfl, mm_run_at (stop := []) (S := K) kkL_rule 90 ?_ (fun _ _ _ _ _ _ _ h => hK _ _ _ _ _ _ h)⟩
    repeat' (first | with_reducible assumption | with_reducible exact mm_i1 | with_reducible exact mm_i17 | with_reducible exact mm_i23 | ((with_reducible show mm_rv _ _ _ _ _); first | exact True.intro | exact mm_i1 | exact mm_i17 | exact mm_i23 | refine mm_k1 ?_) | refine mm_k1 ?_ | ((with_reducible show mm_bool _ _); first | exact True.intro | exact Or.inl rfl | exact Or.inr rfl | (show (_ : Int) = 0 ∨ _ = 1)) | refine And.intro ?_ ?_ | intro _ | with_reducible exact True.intro | exact rfl | with_reducible exact Or.inl rfl | with_reducible exact Or.inr rfl | exact Nat.le_of_ble_eq_true rfl)
    all_goals (try simp (disch := omega) only [InI, Int.toNat_natCast, Int.tmod_eq_emod_of_nonneg, Int.tdiv_eq_ediv_of_nonneg, true_implies, true_or, or_true, mm_l18, mm_l19, mm_l20, mm_l21, mm_l22] at *)
    all_goals first | omega | exact qa _ (by assumption) | exact q1 (by assumption) | exact q2 (by assumption) | skip
  · exact h.elim
theorem me_L_rule {l : Launch} (hl : l.stackTraces = false) : mm_Met l yL_rule cL_rule 4 (some .int) [(0, 10, 13, 24)] 8 143 1 sp_L_rule := mm_mtH rn_L_rule ⟨by decide, rfl⟩ kkL_rule rfl (by decide) (⟨mm_pe (me_X3_rule hl) mwX3_rule (mm_t3 189 rfl rfl) (Nat.le_of_ble_eq_true rfl) (Nat.le_of_ble_eq_true rfl), trivial⟩)
def sp_L_begin : mm_S := fun av M d Q => match av with
  | [.inr (.inr (.inl x)), .inl p0, .inl p1, .inr (.inr (.inl o))] =>  x = 1 ∧ o = 23 ∧ wA M ∧ InI p0 ∧ InI p1 ∧ ∀ M1 M' e r, hlP M M1 M' e r → C_begin p0 p1 M M1 e r → Q (.inl (some (mm_I e))) M' d
  | _ => False
def ct_L_begin : List (Nat × mm_Ca) := [(47, (0, 3, 10, sp_X3_begin, 2))]
abbrev rr_L_begin (Q : mm_Q) := mm_run (mm_look flL) (mm_look ct_L_begin) mm_x0 (mm_look ([] : List (Nat × Int))) (fun _ => none) 1 2 (mm_hn [(0, 11, 14, 19)]) Q kdL_begin
set_option maxRecDepth 20000 in
theorem rn_L_begin : mm_RNH flL ct_L_begin [] [(0, 11, 14, 19)] 1 2 5 kdL_begin sp_L_begin := by
  intro av M d Q h
  unfold sp_L_begin at h
  split at h
  · rename_i x p0 p1 o
    obtain ⟨rfl, rfl, ha, h0, h1, hq⟩ := h
    have q1 : C_begin p0 p1 M M 1 0 → Q (.inl (some (mm_I 1))) M d := fun hc => hq M M 1 0 (hlP_1 ha (by omega)) hc
    have q2 : C_begin p0 p1 M M 2 0 → Q (.inl (some (mm_I 2))) M d := fun hc => hq M M 2 0 (hlP_1 ha (by omega)) hc
    have qa := fun M' (r : Int) (h : cP M M' ∧ InI r ∧ C_begin p0 p1 M M' 0 r) => hq M' _ 0 r (hlP_0 (r := r) h.1) h.2.2
    clear hq
    obtain ⟨K, hK, hK2⟩ : ∃ K : Nat → mm_K, (∀ t ls st M d u, K t ls st M d u → rr_L_begin Q t ls st M d u) ∧ (∀ t ls st M d u, rr_L_begin Q t ls st M d u → K t ls st M d u) := ⟨rr_L_begin Q, fun _ _ _ _ _ _ h => h, fun _ _ _ _ _ _ h => h⟩
    refine ⟨Nat.le_of_ble_eq_true rfl, mm_run_at (stop := []) (S := K) kkL_begin 90 ?_ (fun _ _ _ _ _ _ _ h => hK _ _ _ _ _ _ h)⟩
    repeat' (first | with_reducible assumption | with_reducible exact mm_i1 | with_reducible exact mm_i17 | with_reducible exact mm_i23 | ((with_reducible show mm_rv _ _ _ _ _); first | exact True.intro | exact mm_i1 | exact mm_i17 | exact mm_i23 | refine mm_k0 ?_) | refine mm_k0 ?_ | ((with_reducible show mm_bool _ _); first | exact True.intro | exact Or.inl rfl | exact Or.inr rfl | (show (_ : Int) = 0 ∨ _ = 1)) | refine And.intro ?_ ?_ | intro _ | with_reducible exact True.intro | exact rfl | with_reducible exact Or.inl rfl | with_reducible exact Or.inr rfl | exact Nat.le_of_ble_eq_true rfl)
    all_goals (try simp (disch := omega) only [InI, Int.toNat_natCast, Int.tmod_eq_emod_of_nonneg, Int.tdiv_eq_ediv_of_nonneg, true_implies, true_or, or_true, mm_l18, mm_l19, mm_l20, mm_l21, mm_l22] at *)
    all_goals first | omega | exact qa _ _ (by assumption) | exact q1 (by assumption) | exact q2 (by assumption) | skip
  · exact h.elim
theorem me_L_begin {l : Launch} (hl : l.stackTraces = false) : mm_Met l yL_begin cL_begin 5 (some .int) [(0, 11, 14, 19)] 9 165 2 sp_L_begin := mm_mtH rn_L_begin ⟨by decide, rfl⟩ kkL_begin rfl (by decide) (⟨mm_pe (me_X3_begin hl) mwX3_begin (mm_t3 196 rfl rfl) (Nat.le_of_ble_eq_true rfl) (Nat.le_of_ble_eq_true rfl), trivial⟩)
def sp_L_step : mm_S := fun av M d Q => match av with
  | [.inr (.inr (.inl x)), .inl p0, .inl p1, .inl p2, .inr (.inr (.inl o))] =>  x = 1 ∧ o = 23 ∧ wA M ∧ InI p0 ∧ InI p1 ∧ (p2 = 0 ∨ p2 = 1) ∧ ∀ M1 M' e r, hlP M M1 M' e r → C_step p0 p1 p2 M M1 e r → Q (.inl (some (mm_I e))) M' d
  | _ => False
def ct_L_step : List (Nat × mm_Ca) := [(50, (0, 4, 10, sp_X3_step, 2))]
abbrev rr_L_step (Q : mm_Q) := mm_run (mm_look flL) (mm_look ct_L_step) mm_x0 (mm_look ([] : List (Nat × Int))) (fun _ => none) 1 2 (mm_hn [(0, 13, 16, 19)]) Q kdL_step
set_option maxRecDepth 20000 in
theorem rn_L_step : mm_RNH flL ct_L_step [] [(0, 13, 16, 19)] 1 2 6 kdL_step sp_L_step := by
  intro av M d Q h
  unfold sp_L_step at h
  split at h
  · rename_i x p0 p1 p2 o
    obtain ⟨rfl, rfl, ha, h0, h1, h2, hq⟩ := h
    have q1 : C_step p0 p1 p2 M M 1 0 → Q (.inl (some (mm_I 1))) M d := fun hc => hq M M 1 0 (hlP_1 ha (by omega)) hc
    have q2 : C_step p0 p1 p2 M M 2 0 → Q (.inl (some (mm_I 2))) M d := fun hc => hq M M 2 0 (hlP_1 ha (by omega)) hc
    have qa := fun M' (r : Int) (h : cP M M' ∧ InI r ∧ C_step p0 p1 p2 M M' 0 r) => hq M' _ 0 r (hlP_0 (r := r) h.1) h.2.2
    clear hq
    obtain ⟨K, hK, hK2⟩ : ∃ K : Nat → mm_K, (∀ t ls st M d u, K t ls st M d u → rr_L_step Q t ls st M d u) ∧ (∀ t ls st M d u, rr_L_step Q t ls st M d u → K t ls st M d u) := ⟨rr_L_step Q, fun _ _ _ _ _ _ h => h, fun _ _ _ _ _ _ h => h⟩
    refine ⟨Nat.le_of_ble_eq_true rfl, mm_run_at (stop := []) (S := K) kkL_step 90 ?_ (fun _ _ _ _ _ _ _ h => hK _ _ _ _ _ _ h)⟩
    repeat' (first | with_reducible assumption | with_reducible exact mm_i1 | with_reducible exact mm_i17 | with_reducible exact mm_i23 | ((with_reducible show mm_rv _ _ _ _ _); first | exact True.intro | exact mm_i1 | exact mm_i17 | exact mm_i23 | refine mm_k0 ?_) | refine mm_k0 ?_ | ((with_reducible show mm_bool _ _); first | exact True.intro | exact Or.inl rfl | exact Or.inr rfl | (show (_ : Int) = 0 ∨ _ = 1)) | refine And.intro ?_ ?_ | intro _ | with_reducible exact True.intro | exact rfl | with_reducible exact Or.inl rfl | with_reducible exact Or.inr rfl | exact Nat.le_of_ble_eq_true rfl)
    all_goals (try simp (disch := omega) only [InI, Int.toNat_natCast, Int.tmod_eq_emod_of_nonneg, Int.tdiv_eq_ediv_of_nonneg, true_implies, true_or, or_true, mm_l18, mm_l19, mm_l20, mm_l21, mm_l22] at *)
    all_goals first | omega | exact qa _ _ (by assumption) | exact q1 (by assumption) | exact q2 (by assumption) | skip
  · exact h.elim
theorem me_L_step {l : Launch} (hl : l.stackTraces = false) : mm_Met l yL_step cL_step 6 (some .int) [(0, 13, 16, 19)] 12 232 2 sp_L_step := mm_mtH rn_L_step ⟨by decide, rfl⟩ kkL_step rfl (by decide) (⟨mm_pe (me_X3_step hl) mwX3_step (mm_t3 207 rfl rfl) (Nat.le_of_ble_eq_true rfl) (Nat.le_of_ble_eq_true rfl), trivial⟩)
def sp_L_back : mm_S := fun av M d Q => match av with
  | [.inr (.inr (.inl x)), .inl p0, .inl p1, .inr (.inr (.inl o))] =>  x = 1 ∧ o = 23 ∧ wA M ∧ InI p0 ∧ (p1 = 0 ∨ p1 = 1) ∧ ∀ M1 M' e r, hlP M M1 M' e r → C_back p0 p1 M M1 e r → Q (.inl (some (mm_I e))) M' d
  | _ => False
def ct_L_back : List (Nat × mm_Ca) := [(54, (0, 3, 10, sp_X3_back, 1))]
abbrev rr_L_back (Q : mm_Q) := mm_run (mm_look flL) (mm_look ct_L_back) mm_x0 (mm_look ([] : List (Nat × Int))) (fun _ => none) 1 1 (mm_hn [(0, 11, 14, 19)]) Q kdL_back
set_option maxRecDepth 20000 in
theorem rn_L_back : mm_RNH flL ct_L_back [] [(0, 11, 14, 19)] 1 1 5 kdL_back sp_L_back := by
  intro av M d Q h
  unfold sp_L_back at h
  split at h
  · rename_i x p0 p1 o
    obtain ⟨rfl, rfl, ha, h0, h1, hq⟩ := h
    have q1 : C_back p0 p1 M M 1 0 → Q (.inl (some (mm_I 1))) M d := fun hc => hq M M 1 0 (hlP_1 ha (by omega)) hc
    have q2 : C_back p0 p1 M M 2 0 → Q (.inl (some (mm_I 2))) M d := fun hc => hq M M 2 0 (hlP_1 ha (by omega)) hc
    have qa := fun M' (r : Int) (h : cP M M' ∧ InI r ∧ C_back p0 p1 M M' 0 r) => hq M' _ 0 r (hlP_0 (r := r) h.1) h.2.2
    clear hq
    obtain ⟨K, hK, hK2⟩ : ∃ K : Nat → mm_K, (∀ t ls st M d u, K t ls st M d u → rr_L_back Q t ls st M d u) ∧ (∀ t ls st M d u, rr_L_back Q t ls st M d u → K t ls st M d u) := ⟨rr_L_back Q, fun _ _ _ _ _ _ h => h, fun _ _ _ _ _ _ h => h⟩
    refine ⟨Nat.le_of_ble_eq_true rfl, mm_run_at (stop := []) (S := K) kkL_back 90 ?_ (fun _ _ _ _ _ _ _ h => hK _ _ _ _ _ _ h)⟩
    repeat' (first | with_reducible assumption | with_reducible exact mm_i1 | with_reducible exact mm_i17 | with_reducible exact mm_i23 | ((with_reducible show mm_rv _ _ _ _ _); first | exact True.intro | exact mm_i1 | exact mm_i17 | exact mm_i23 | refine mm_k0 ?_) | refine mm_k0 ?_ | ((with_reducible show mm_bool _ _); first | exact True.intro | exact Or.inl rfl | exact Or.inr rfl | (show (_ : Int) = 0 ∨ _ = 1)) | refine And.intro ?_ ?_ | intro _ | with_reducible exact True.intro | exact rfl | with_reducible exact Or.inl rfl | with_reducible exact Or.inr rfl | exact Nat.le_of_ble_eq_true rfl)
    all_goals (try simp (disch := omega) only [InI, Int.toNat_natCast, Int.tmod_eq_emod_of_nonneg, Int.tdiv_eq_ediv_of_nonneg, true_implies, true_or, or_true, mm_l18, mm_l19, mm_l20, mm_l21, mm_l22] at *)
    all_goals first | omega | exact qa _ _ (by assumption) | exact q1 (by assumption) | exact q2 (by assumption) | skip
  · exact h.elim
theorem me_L_back {l : Launch} (hl : l.stackTraces = false) : mm_Met l yL_back cL_back 5 (some .int) [(0, 11, 14, 19)] 12 229 1 sp_L_back := mm_mtH rn_L_back ⟨by decide, rfl⟩ kkL_back rfl (by decide) (⟨mm_pe (me_X3_back hl) mwX3_back (mm_t3 231 rfl rfl) (Nat.le_of_ble_eq_true rfl) (Nat.le_of_ble_eq_true rfl), trivial⟩)
def sp_L_on : mm_S := fun av M d Q => match av with
  | [.inr (.inr (.inl x)), .inl p0, .inl p1, .inr (.inr (.inl o))] =>  x = 1 ∧ o = 23 ∧ wA M ∧ InI p0 ∧ (p1 = 0 ∨ p1 = 1) ∧ ∀ M1 M' e r, hlP M M1 M' e r → C_on p0 p1 M M1 e r → Q (.inl (some (mm_I e))) M' d
  | _ => False
def ct_L_on : List (Nat × mm_Ca) := [(57, (0, 3, 10, sp_X3_on, 1))]
abbrev rr_L_on (Q : mm_Q) := mm_run (mm_look flL) (mm_look ct_L_on) mm_x0 (mm_look ([] : List (Nat × Int))) (fun _ => none) 1 1 (mm_hn [(0, 11, 14, 19)]) Q kdL_on
set_option maxRecDepth 20000 in
theorem rn_L_on : mm_RNH flL ct_L_on [] [(0, 11, 14, 19)] 1 1 5 kdL_on sp_L_on := by
  intro av M d Q h
  unfold sp_L_on at h
  split at h
  · rename_i x p0 p1 o
    obtain ⟨rfl, rfl, ha, h0, h1, hq⟩ := h
    have q1 : C_on p0 p1 M M 1 0 → Q (.inl (some (mm_I 1))) M d := fun hc => hq M M 1 0 (hlP_1 ha (by omega)) hc
    have q2 : C_on p0 p1 M M 2 0 → Q (.inl (some (mm_I 2))) M d := fun hc => hq M M 2 0 (hlP_1 ha (by omega)) hc
    have qa := fun M' (r : Int) (h : cP M M' ∧ InI r ∧ C_on p0 p1 M M' 0 r) => hq M' _ 0 r (hlP_0 (r := r) h.1) h.2.2
    clear hq
    obtain ⟨K, hK, hK2⟩ : ∃ K : Nat → mm_K, (∀ t ls st M d u, K t ls st M d u → rr_L_on Q t ls st M d u) ∧ (∀ t ls st M d u, rr_L_on Q t ls st M d u → K t ls st M d u) := ⟨rr_L_on Q, fun _ _ _ _ _ _ h => h, fun _ _ _ _ _ _ h => h⟩
    refine ⟨Nat.le_of_ble_eq_true rfl, mm_run_at (stop := []) (S := K) kkL_on 90 ?_ (fun _ _ _ _ _ _ _ h => hK _ _ _ _ _ _ h)⟩
    repeat' (first | with_reducible assumption | with_reducible exact mm_i1 | with_reducible exact mm_i17 | with_reducible exact mm_i23 | ((with_reducible show mm_rv _ _ _ _ _); first | exact True.intro | exact mm_i1 | exact mm_i17 | exact mm_i23 | refine mm_k0 ?_) | refine mm_k0 ?_ | ((with_reducible show mm_bool _ _); first | exact True.intro | exact Or.inl rfl | exact Or.inr rfl | (show (_ : Int) = 0 ∨ _ = 1)) | refine And.intro ?_ ?_ | intro _ | with_reducible exact True.intro | exact rfl | with_reducible exact Or.inl rfl | with_reducible exact Or.inr rfl | exact Nat.le_of_ble_eq_true rfl)
    all_goals (try simp (disch := omega) only [InI, Int.toNat_natCast, Int.tmod_eq_emod_of_nonneg, Int.tdiv_eq_ediv_of_nonneg, true_implies, true_or, or_true, mm_l18, mm_l19, mm_l20, mm_l21, mm_l22] at *)
    all_goals first | omega | exact qa _ _ (by assumption) | exact q1 (by assumption) | exact q2 (by assumption) | skip
  · exact h.elim
theorem me_L_on {l : Launch} (hl : l.stackTraces = false) : mm_Met l yL_on cL_on 5 (some .int) [(0, 11, 14, 19)] 11 219 1 sp_L_on := mm_mtH rn_L_on ⟨by decide, rfl⟩ kkL_on rfl (by decide) (⟨mm_pe (me_X3_on hl) mwX3_on (mm_t4 4 rfl rfl) (Nat.le_of_ble_eq_true rfl) (Nat.le_of_ble_eq_true rfl), trivial⟩)
def sp_L_complete : mm_S := fun av M d Q => match av with
  | [.inr (.inr (.inl x)), .inl p0, .inl p1, .inr (.inr (.inl o))] =>  x = 1 ∧ o = 23 ∧ wA M ∧ InI p0 ∧ (p1 = 0 ∨ p1 = 1) ∧ ∀ M1 M' e r, hlP M M1 M' e r → C_complete p0 p1 M M1 e r → Q (.inl (some (mm_I e))) M' d
  | _ => False
def ct_L_complete : List (Nat × mm_Ca) := [(60, (0, 3, 10, sp_X3_complete, 1))]
abbrev rr_L_complete (Q : mm_Q) := mm_run (mm_look flL) (mm_look ct_L_complete) mm_x0 (mm_look ([] : List (Nat × Int))) (fun _ => none) 1 1 (mm_hn [(0, 11, 14, 19)]) Q kdL_complete
set_option maxRecDepth 20000 in
theorem rn_L_complete : mm_RNH flL ct_L_complete [] [(0, 11, 14, 19)] 1 1 5 kdL_complete sp_L_complete := by
  intro av M d Q h
  unfold sp_L_complete at h
  split at h
  · rename_i x p0 p1 o
    obtain ⟨rfl, rfl, ha, h0, h1, hq⟩ := h
    have q1 : C_complete p0 p1 M M 1 0 → Q (.inl (some (mm_I 1))) M d := fun hc => hq M M 1 0 (hlP_1 ha (by omega)) hc
    have q2 : C_complete p0 p1 M M 2 0 → Q (.inl (some (mm_I 2))) M d := fun hc => hq M M 2 0 (hlP_1 ha (by omega)) hc
    have qa := fun M' (r : Int) (h : cP M M' ∧ InI r ∧ C_complete p0 p1 M M' 0 r) => hq M' _ 0 r (hlP_0 (r := r) h.1) h.2.2
    clear hq
    obtain ⟨K, hK, hK2⟩ : ∃ K : Nat → mm_K, (∀ t ls st M d u, K t ls st M d u → rr_L_complete Q t ls st M d u) ∧ (∀ t ls st M d u, rr_L_complete Q t ls st M d u → K t ls st M d u) := ⟨rr_L_complete Q, fun _ _ _ _ _ _ h => h, fun _ _ _ _ _ _ h => h⟩
    refine ⟨Nat.le_of_ble_eq_true rfl, mm_run_at (stop := []) (S := K) kkL_complete 90 ?_ (fun _ _ _ _ _ _ _ h => hK _ _ _ _ _ _ h)⟩
    repeat' (first | with_reducible assumption | with_reducible exact mm_i1 | with_reducible exact mm_i17 | with_reducible exact mm_i23 | ((with_reducible show mm_rv _ _ _ _ _); first | exact True.intro | exact mm_i1 | exact mm_i17 | exact mm_i23 | refine mm_k0 ?_) | refine mm_k0 ?_ | ((with_reducible show mm_bool _ _); first | exact True.intro | exact Or.inl rfl | exact Or.inr rfl | (show (_ : Int) = 0 ∨ _ = 1)) | refine And.intro ?_ ?_ | intro _ | with_reducible exact True.intro | exact rfl | with_reducible exact Or.inl rfl | with_reducible exact Or.inr rfl | exact Nat.le_of_ble_eq_true rfl)
    all_goals (try simp (disch := omega) only [InI, Int.toNat_natCast, Int.tmod_eq_emod_of_nonneg, Int.tdiv_eq_ediv_of_nonneg, true_implies, true_or, or_true, mm_l18, mm_l19, mm_l20, mm_l21, mm_l22] at *)
    all_goals first | omega | exact qa _ _ (by assumption) | exact q1 (by assumption) | exact q2 (by assumption) | skip
  · exact h.elim
theorem me_L_complete {l : Launch} (hl : l.stackTraces = false) : mm_Met l yL_complete cL_complete 5 (some .int) [(0, 11, 14, 19)] 12 242 1 sp_L_complete := mm_mtH rn_L_complete ⟨by decide, rfl⟩ kkL_complete rfl (by decide) (⟨mm_pe (me_X3_complete hl) mwX3_complete (mm_t4 16 rfl rfl) (Nat.le_of_ble_eq_true rfl) (Nat.le_of_ble_eq_true rfl), trivial⟩)
def sp_L_splice : mm_S := fun av M d Q => match av with
  | [.inr (.inr (.inl x)), .inl p0, .inl p1, .inl p2, .inr (.inr (.inl o))] =>  x = 1 ∧ o = 23 ∧ wA M ∧ InI p0 ∧ InI p1 ∧ InI p2 ∧ ∀ M1 M' e r, hlP M M1 M' e r → C_splice p0 p1 p2 M M1 e r → Q (.inl (some (mm_I e))) M' d
  | _ => False
def ct_L_splice : List (Nat × mm_Ca) := [(63, (0, 4, 10, sp_X3_splice, 3))]
abbrev rr_L_splice (Q : mm_Q) := mm_run (mm_look flL) (mm_look ct_L_splice) mm_x0 (mm_look ([] : List (Nat × Int))) (fun _ => none) 1 3 (mm_hn [(0, 13, 16, 19)]) Q kdL_splice
set_option maxRecDepth 20000 in
theorem rn_L_splice : mm_RNH flL ct_L_splice [] [(0, 13, 16, 19)] 1 3 6 kdL_splice sp_L_splice := by
  intro av M d Q h
  unfold sp_L_splice at h
  split at h
  · rename_i x p0 p1 p2 o
    obtain ⟨rfl, rfl, ha, h0, h1, h2, hq⟩ := h
    have q1 : C_splice p0 p1 p2 M M 1 0 → Q (.inl (some (mm_I 1))) M d := fun hc => hq M M 1 0 (hlP_1 ha (by omega)) hc
    have q2 : C_splice p0 p1 p2 M M 2 0 → Q (.inl (some (mm_I 2))) M d := fun hc => hq M M 2 0 (hlP_1 ha (by omega)) hc
    have qa := fun M' (r : Int) (h : cP M M' ∧ InI r ∧ C_splice p0 p1 p2 M M' 0 r) => hq M' _ 0 r (hlP_0 (r := r) h.1) h.2.2
    clear hq
    obtain ⟨K, hK, hK2⟩ : ∃ K : Nat → mm_K, (∀ t ls st M d u, K t ls st M d u → rr_L_splice Q t ls st M d u) ∧ (∀ t ls st M d u, rr_L_splice Q t ls st M d u → K t ls st M d u) := ⟨rr_L_splice Q, fun _ _ _ _ _ _ h => h, fun _ _ _ _ _ _ h => h⟩
    refine ⟨Nat.le_of_ble_eq_true rfl, mm_run_at (stop := []) (S := K) kkL_splice 90 ?_ (fun _ _ _ _ _ _ _ h => hK _ _ _ _ _ _ h)⟩
    repeat' (first | with_reducible assumption | with_reducible exact mm_i1 | with_reducible exact mm_i17 | with_reducible exact mm_i23 | ((with_reducible show mm_rv _ _ _ _ _); first | exact True.intro | exact mm_i1 | exact mm_i17 | exact mm_i23 | refine mm_k0 ?_) | refine mm_k0 ?_ | ((with_reducible show mm_bool _ _); first | exact True.intro | exact Or.inl rfl | exact Or.inr rfl | (show (_ : Int) = 0 ∨ _ = 1)) | refine And.intro ?_ ?_ | intro _ | with_reducible exact True.intro | exact rfl | with_reducible exact Or.inl rfl | with_reducible exact Or.inr rfl | exact Nat.le_of_ble_eq_true rfl)
    all_goals (try simp (disch := omega) only [InI, Int.toNat_natCast, Int.tmod_eq_emod_of_nonneg, Int.tdiv_eq_ediv_of_nonneg, true_implies, true_or, or_true, mm_l18, mm_l19, mm_l20, mm_l21, mm_l22] at *)
    all_goals first | omega | exact qa _ _ (by assumption) | exact q1 (by assumption) | exact q2 (by assumption) | skip
  · exact h.elim
theorem me_L_splice {l : Launch} (hl : l.stackTraces = false) : mm_Met l yL_splice cL_splice 6 (some .int) [(0, 13, 16, 19)] 12 230 3 sp_L_splice := mm_mtH rn_L_splice ⟨by decide, rfl⟩ kkL_splice rfl (by decide) (⟨mm_pe (me_X3_splice hl) mwX3_splice (mm_t4 23 rfl rfl) (Nat.le_of_ble_eq_true rfl) (Nat.le_of_ble_eq_true rfl), trivial⟩)
def sp_L_join : mm_S := fun av M d Q => match av with
  | [.inr (.inr (.inl x)), .inl p0, .inl p1, .inr (.inr (.inl o))] =>  x = 1 ∧ o = 23 ∧ wA M ∧ InI p0 ∧ InI p1 ∧ ∀ M1 M' e r, hlP M M1 M' e r → C_join p0 p1 M M1 e r → Q (.inl (some (mm_I e))) M' d
  | _ => False
def ct_L_join : List (Nat × mm_Ca) := [(67, (0, 3, 10, sp_X3_join, 2))]
abbrev rr_L_join (Q : mm_Q) := mm_run (mm_look flL) (mm_look ct_L_join) mm_x0 (mm_look ([] : List (Nat × Int))) (fun _ => none) 1 2 (mm_hn [(0, 11, 14, 19)]) Q kdL_join
set_option maxRecDepth 20000 in
theorem rn_L_join : mm_RNH flL ct_L_join [] [(0, 11, 14, 19)] 1 2 5 kdL_join sp_L_join := by
  intro av M d Q h
  unfold sp_L_join at h
  split at h
  · rename_i x p0 p1 o
    obtain ⟨rfl, rfl, ha, h0, h1, hq⟩ := h
    have q1 : C_join p0 p1 M M 1 0 → Q (.inl (some (mm_I 1))) M d := fun hc => hq M M 1 0 (hlP_1 ha (by omega)) hc
    have q2 : C_join p0 p1 M M 2 0 → Q (.inl (some (mm_I 2))) M d := fun hc => hq M M 2 0 (hlP_1 ha (by omega)) hc
    have qa := fun M' (r : Int) (h : cP M M' ∧ InI r ∧ C_join p0 p1 M M' 0 r) => hq M' _ 0 r (hlP_0 (r := r) h.1) h.2.2
    clear hq
    obtain ⟨K, hK, hK2⟩ : ∃ K : Nat → mm_K, (∀ t ls st M d u, K t ls st M d u → rr_L_join Q t ls st M d u) ∧ (∀ t ls st M d u, rr_L_join Q t ls st M d u → K t ls st M d u) := ⟨rr_L_join Q, fun _ _ _ _ _ _ h => h, fun _ _ _ _ _ _ h => h⟩
    refine ⟨Nat.le_of_ble_eq_true rfl, mm_run_at (stop := []) (S := K) kkL_join 90 ?_ (fun _ _ _ _ _ _ _ h => hK _ _ _ _ _ _ h)⟩
    repeat' (first | with_reducible assumption | with_reducible exact mm_i1 | with_reducible exact mm_i17 | with_reducible exact mm_i23 | ((with_reducible show mm_rv _ _ _ _ _); first | exact True.intro | exact mm_i1 | exact mm_i17 | exact mm_i23 | refine mm_k0 ?_) | refine mm_k0 ?_ | ((with_reducible show mm_bool _ _); first | exact True.intro | exact Or.inl rfl | exact Or.inr rfl | (show (_ : Int) = 0 ∨ _ = 1)) | refine And.intro ?_ ?_ | intro _ | with_reducible exact True.intro | exact rfl | with_reducible exact Or.inl rfl | with_reducible exact Or.inr rfl | exact Nat.le_of_ble_eq_true rfl)
    all_goals (try simp (disch := omega) only [InI, Int.toNat_natCast, Int.tmod_eq_emod_of_nonneg, Int.tdiv_eq_ediv_of_nonneg, true_implies, true_or, or_true, mm_l18, mm_l19, mm_l20, mm_l21, mm_l22] at *)
    all_goals first | omega | exact qa _ _ (by assumption) | exact q1 (by assumption) | exact q2 (by assumption) | skip
  · exact h.elim
theorem me_L_join {l : Launch} (hl : l.stackTraces = false) : mm_Met l yL_join cL_join 5 (some .int) [(0, 11, 14, 19)] 12 233 2 sp_L_join := mm_mtH rn_L_join ⟨by decide, rfl⟩ kkL_join rfl (by decide) (⟨mm_pe (me_X3_join hl) mwX3_join (mm_t4 43 rfl rfl) (Nat.le_of_ble_eq_true rfl) (Nat.le_of_ble_eq_true rfl), trivial⟩)
def sp_L_cut : mm_S := fun av M d Q => match av with
  | [.inr (.inr (.inl x)), .inl p0, .inl p1, .inl p2, .inl p3, .inr (.inr (.inl o))] =>  x = 1 ∧ o = 23 ∧ wA M ∧ InI p0 ∧ InI p1 ∧ InI p2 ∧ InI p3 ∧ ∀ M1 M' e r, hlP M M1 M' e r → C_cut p0 p1 p2 p3 M M1 e r → Q (.inl (some (mm_I e))) M' d
  | _ => False
def ct_L_cut : List (Nat × mm_Ca) := [(70, (0, 5, 10, sp_X3_cut, 4))]
abbrev rr_L_cut (Q : mm_Q) := mm_run (mm_look flL) (mm_look ct_L_cut) mm_x0 (mm_look ([] : List (Nat × Int))) (fun _ => none) 1 4 (mm_hn [(0, 15, 18, 19)]) Q kdL_cut
set_option maxRecDepth 20000 in
theorem rn_L_cut : mm_RNH flL ct_L_cut [] [(0, 15, 18, 19)] 1 4 7 kdL_cut sp_L_cut := by
  intro av M d Q h
  unfold sp_L_cut at h
  split at h
  · rename_i x p0 p1 p2 p3 o
    obtain ⟨rfl, rfl, ha, h0, h1, h2, h3, hq⟩ := h
    have q1 : C_cut p0 p1 p2 p3 M M 1 0 → Q (.inl (some (mm_I 1))) M d := fun hc => hq M M 1 0 (hlP_1 ha (by omega)) hc
    have q2 : C_cut p0 p1 p2 p3 M M 2 0 → Q (.inl (some (mm_I 2))) M d := fun hc => hq M M 2 0 (hlP_1 ha (by omega)) hc
    have qa := fun M' (r : Int) (h : cP M M' ∧ InI r ∧ C_cut p0 p1 p2 p3 M M' 0 r) => hq M' _ 0 r (hlP_0 (r := r) h.1) h.2.2
    clear hq
    obtain ⟨K, hK, hK2⟩ : ∃ K : Nat → mm_K, (∀ t ls st M d u, K t ls st M d u → rr_L_cut Q t ls st M d u) ∧ (∀ t ls st M d u, rr_L_cut Q t ls st M d u → K t ls st M d u) := ⟨rr_L_cut Q, fun _ _ _ _ _ _ h => h, fun _ _ _ _ _ _ h => h⟩
    refine ⟨Nat.le_of_ble_eq_true rfl, mm_run_at (stop := []) (S := K) kkL_cut 90 ?_ (fun _ _ _ _ _ _ _ h => hK _ _ _ _ _ _ h)⟩
    repeat' (first | with_reducible assumption | with_reducible exact mm_i1 | with_reducible exact mm_i17 | with_reducible exact mm_i23 | ((with_reducible show mm_rv _ _ _ _ _); first | exact True.intro | exact mm_i1 | exact mm_i17 | exact mm_i23 | refine mm_k0 ?_) | refine mm_k0 ?_ | ((with_reducible show mm_bool _ _); first | exact True.intro | exact Or.inl rfl | exact Or.inr rfl | (show (_ : Int) = 0 ∨ _ = 1)) | refine And.intro ?_ ?_ | intro _ | with_reducible exact True.intro | exact rfl | with_reducible exact Or.inl rfl | with_reducible exact Or.inr rfl | exact Nat.le_of_ble_eq_true rfl)
    all_goals (try simp (disch := omega) only [InI, Int.toNat_natCast, Int.tmod_eq_emod_of_nonneg, Int.tdiv_eq_ediv_of_nonneg, true_implies, true_or, or_true, mm_l18, mm_l19, mm_l20, mm_l21, mm_l22] at *)
    all_goals first | omega | exact qa _ _ (by assumption) | exact q1 (by assumption) | exact q2 (by assumption) | skip
  · exact h.elim
theorem me_L_cut {l : Launch} (hl : l.stackTraces = false) : mm_Met l yL_cut cL_cut 7 (some .int) [(0, 15, 18, 19)] 11 214 4 sp_L_cut := mm_mtH rn_L_cut ⟨by decide, rfl⟩ kkL_cut rfl (by decide) (⟨mm_pe (me_X3_cut hl) mwX3_cut (mm_t4 63 rfl rfl) (Nat.le_of_ble_eq_true rfl) (Nat.le_of_ble_eq_true rfl), trivial⟩)
def sp_L_turnRound : mm_S := fun av M d Q => match av with
  | [.inr (.inr (.inl x)), .inl p0, .inr (.inr (.inl o))] =>  x = 1 ∧ o = 23 ∧ wA M ∧ InI p0 ∧ ∀ M1 M' e r, hlP M M1 M' e r → C_turnRound p0 M M1 e r → Q (.inl (some (mm_I e))) M' d
  | _ => False
def ct_L_turnRound : List (Nat × mm_Ca) := [(74, (0, 2, 10, sp_X3_turnRound, 1))]
abbrev rr_L_turnRound (Q : mm_Q) := mm_run (mm_look flL) (mm_look ct_L_turnRound) mm_x0 (mm_look ([] : List (Nat × Int))) (fun _ => none) 1 1 (mm_hn [(0, 10, 13, 19)]) Q kdL_turnRound
set_option maxRecDepth 20000 in
theorem rn_L_turnRound : mm_RNH flL ct_L_turnRound [] [(0, 10, 13, 19)] 1 1 4 kdL_turnRound sp_L_turnRound := by
  intro av M d Q h
  unfold sp_L_turnRound at h
  split at h
  · rename_i x p0 o
    obtain ⟨rfl, rfl, ha, h0, hq⟩ := h
    have q1 : C_turnRound p0 M M 1 0 → Q (.inl (some (mm_I 1))) M d := fun hc => hq M M 1 0 (hlP_1 ha (by omega)) hc
    have q2 : C_turnRound p0 M M 2 0 → Q (.inl (some (mm_I 2))) M d := fun hc => hq M M 2 0 (hlP_1 ha (by omega)) hc
    have qa := fun M' (r : Int) (h : cP M M' ∧ InI r ∧ C_turnRound p0 M M' 0 r) => hq M' _ 0 r (hlP_0 (r := r) h.1) h.2.2
    clear hq
    obtain ⟨K, hK, hK2⟩ : ∃ K : Nat → mm_K, (∀ t ls st M d u, K t ls st M d u → rr_L_turnRound Q t ls st M d u) ∧ (∀ t ls st M d u, rr_L_turnRound Q t ls st M d u → K t ls st M d u) := ⟨rr_L_turnRound Q, fun _ _ _ _ _ _ h => h, fun _ _ _ _ _ _ h => h⟩
    refine ⟨Nat.le_of_ble_eq_true rfl, mm_run_at (stop := []) (S := K) kkL_turnRound 90 ?_ (fun _ _ _ _ _ _ _ h => hK _ _ _ _ _ _ h)⟩
    repeat' (first | with_reducible assumption | with_reducible exact mm_i1 | with_reducible exact mm_i17 | with_reducible exact mm_i23 | ((with_reducible show mm_rv _ _ _ _ _); first | exact True.intro | exact mm_i1 | exact mm_i17 | exact mm_i23 | refine mm_k0 ?_) | refine mm_k0 ?_ | ((with_reducible show mm_bool _ _); first | exact True.intro | exact Or.inl rfl | exact Or.inr rfl | (show (_ : Int) = 0 ∨ _ = 1)) | refine And.intro ?_ ?_ | intro _ | with_reducible exact True.intro | exact rfl | with_reducible exact Or.inl rfl | with_reducible exact Or.inr rfl | exact Nat.le_of_ble_eq_true rfl)
    all_goals (try simp (disch := omega) only [InI, Int.toNat_natCast, Int.tmod_eq_emod_of_nonneg, Int.tdiv_eq_ediv_of_nonneg, true_implies, true_or, or_true, mm_l18, mm_l19, mm_l20, mm_l21, mm_l22] at *)
    all_goals first | omega | exact qa _ _ (by assumption) | exact q1 (by assumption) | exact q2 (by assumption) | skip
  · exact h.elim
theorem me_L_turnRound {l : Launch} (hl : l.stackTraces = false) : mm_Met l yL_turnRound cL_turnRound 4 (some .int) [(0, 10, 13, 19)] 12 229 1 sp_L_turnRound := mm_mtH rn_L_turnRound ⟨by decide, rfl⟩ kkL_turnRound rfl (by decide) (⟨mm_pe (me_X3_turnRound hl) mwX3_turnRound (mm_t4 75 rfl rfl) (Nat.le_of_ble_eq_true rfl) (Nat.le_of_ble_eq_true rfl), trivial⟩)
def sp_L_rotate : mm_S := fun av M d Q => match av with
  | [.inr (.inr (.inl x)), .inl p0, .inl p1, .inr (.inr (.inl o))] =>  x = 1 ∧ o = 23 ∧ wA M ∧ InI p0 ∧ InI p1 ∧ ∀ M1 M' e r, hlP M M1 M' e r → C_rotate p0 p1 M M1 e r → Q (.inl (some (mm_I e))) M' d
  | _ => False
def ct_L_rotate : List (Nat × mm_Ca) := [(77, (0, 3, 10, sp_X3_rotate, 2))]
abbrev rr_L_rotate (Q : mm_Q) := mm_run (mm_look flL) (mm_look ct_L_rotate) mm_x0 (mm_look ([] : List (Nat × Int))) (fun _ => none) 1 2 (mm_hn [(0, 11, 14, 19), (0, 11, 18, 24)]) Q kdL_rotate
set_option maxRecDepth 20000 in
theorem rn_L_rotate : mm_RNH flL ct_L_rotate [] [(0, 11, 14, 19), (0, 11, 18, 24)] 1 2 5 kdL_rotate sp_L_rotate := by
  intro av M d Q h
  unfold sp_L_rotate at h
  split at h
  · rename_i x p0 p1 o
    obtain ⟨rfl, rfl, ha, h0, h1, hq⟩ := h
    have q1 : C_rotate p0 p1 M M 1 0 → Q (.inl (some (mm_I 1))) M d := fun hc => hq M M 1 0 (hlP_1 ha (by omega)) hc
    have q2 : C_rotate p0 p1 M M 2 0 → Q (.inl (some (mm_I 2))) M d := fun hc => hq M M 2 0 (hlP_1 ha (by omega)) hc
    have qa := fun M' (r : Int) (h : cP M M' ∧ InI r ∧ C_rotate p0 p1 M M' 0 r) => hq M' _ 0 r (hlP_0 (r := r) h.1) h.2.2
    clear hq
    obtain ⟨K, hK, hK2⟩ : ∃ K : Nat → mm_K, (∀ t ls st M d u, K t ls st M d u → rr_L_rotate Q t ls st M d u) ∧ (∀ t ls st M d u, rr_L_rotate Q t ls st M d u → K t ls st M d u) := ⟨rr_L_rotate Q, fun _ _ _ _ _ _ h => h, fun _ _ _ _ _ _ h => h⟩
    refine ⟨Nat.le_of_ble_eq_true rfl, mm_run_at (stop := []) (S := K) kkL_rotate 90 ?_ (fun _ _ _ _ _ _ _ h => hK _ _ _ _ _ _ h)⟩
    repeat' (first | with_reducible assumption | with_reducible exact mm_i1 | with_reducible exact mm_i17 | with_reducible exact mm_i23 | ((with_reducible show mm_rv _ _ _ _ _); first | exact True.intro | exact mm_i1 | exact mm_i17 | exact mm_i23 | refine mm_k2 ?_) | refine mm_k2 ?_ | ((with_reducible show mm_bool _ _); first | exact True.intro | exact Or.inl rfl | exact Or.inr rfl | (show (_ : Int) = 0 ∨ _ = 1)) | refine And.intro ?_ ?_ | intro _ | with_reducible exact True.intro | exact rfl | with_reducible exact Or.inl rfl | with_reducible exact Or.inr rfl | exact Nat.le_of_ble_eq_true rfl)
    all_goals (try simp (disch := omega) only [InI, Int.toNat_natCast, Int.tmod_eq_emod_of_nonneg, Int.tdiv_eq_ediv_of_nonneg, true_implies, true_or, or_true, mm_l18, mm_l19, mm_l20, mm_l21, mm_l22] at *)
    all_goals first | omega | exact qa _ _ (by assumption) | exact q1 (by assumption) | exact q2 (by assumption) | skip
  · exact h.elim
theorem me_L_rotate {l : Launch} (hl : l.stackTraces = false) : mm_Met l yL_rotate cL_rotate 5 (some .int) [(0, 11, 14, 19), (0, 11, 18, 24)] 12 231 2 sp_L_rotate := mm_mtH rn_L_rotate ⟨by decide, rfl⟩ kkL_rotate rfl (by decide) (⟨mm_pe (me_X3_rotate hl) mwX3_rotate (mm_t4 87 rfl rfl) (Nat.le_of_ble_eq_true rfl) (Nat.le_of_ble_eq_true rfl), trivial⟩)
def sp_L_first : mm_S := fun av M d Q => match av with
  | [.inr (.inr (.inl x)), .inl p0, .inl p1, .inl p2, .inr (.inr (.inl o))] =>  x = 1 ∧ o = 23 ∧ wA M ∧ InI p0 ∧ InI p1 ∧ (p2 = 0 ∨ p2 = 1) ∧ ∀ M1 M' e r, hlP M M1 M' e r → C_first p0 p1 p2 M M1 e r → Q (.inl (some (mm_I e))) M' d
  | _ => False
def ct_L_first : List (Nat × mm_Ca) := [(80, (0, 4, 10, sp_X3_first, 2))]
abbrev rr_L_first (Q : mm_Q) := mm_run (mm_look flL) (mm_look ct_L_first) mm_x0 (mm_look ([] : List (Nat × Int))) (fun _ => none) 1 2 (mm_hn [(0, 13, 16, 19)]) Q kdL_first
set_option maxRecDepth 20000 in
theorem rn_L_first : mm_RNH flL ct_L_first [] [(0, 13, 16, 19)] 1 2 6 kdL_first sp_L_first := by
  intro av M d Q h
  unfold sp_L_first at h
  split at h
  · rename_i x p0 p1 p2 o
    obtain ⟨rfl, rfl, ha, h0, h1, h2, hq⟩ := h
    have q1 : C_first p0 p1 p2 M M 1 0 → Q (.inl (some (mm_I 1))) M d := fun hc => hq M M 1 0 (hlP_1 ha (by omega)) hc
    have q2 : C_first p0 p1 p2 M M 2 0 → Q (.inl (some (mm_I 2))) M d := fun hc => hq M M 2 0 (hlP_1 ha (by omega)) hc
    have qa := fun M' (r : Int) (h : cP M M' ∧ InI r ∧ C_first p0 p1 p2 M M' 0 r) => hq M' _ 0 r (hlP_0 (r := r) h.1) h.2.2
    clear hq
    obtain ⟨K, hK, hK2⟩ : ∃ K : Nat → mm_K, (∀ t ls st M d u, K t ls st M d u → rr_L_first Q t ls st M d u) ∧ (∀ t ls st M d u, rr_L_first Q t ls st M d u → K t ls st M d u) := ⟨rr_L_first Q, fun _ _ _ _ _ _ h => h, fun _ _ _ _ _ _ h => h⟩
    refine ⟨Nat.le_of_ble_eq_true rfl, mm_run_at (stop := []) (S := K) kkL_first 90 ?_ (fun _ _ _ _ _ _ _ h => hK _ _ _ _ _ _ h)⟩
    repeat' (first | with_reducible assumption | with_reducible exact mm_i1 | with_reducible exact mm_i17 | with_reducible exact mm_i23 | ((with_reducible show mm_rv _ _ _ _ _); first | exact True.intro | exact mm_i1 | exact mm_i17 | exact mm_i23 | refine mm_k0 ?_) | refine mm_k0 ?_ | ((with_reducible show mm_bool _ _); first | exact True.intro | exact Or.inl rfl | exact Or.inr rfl | (show (_ : Int) = 0 ∨ _ = 1)) | refine And.intro ?_ ?_ | intro _ | with_reducible exact True.intro | exact rfl | with_reducible exact Or.inl rfl | with_reducible exact Or.inr rfl | exact Nat.le_of_ble_eq_true rfl)
    all_goals (try simp (disch := omega) only [InI, Int.toNat_natCast, Int.tmod_eq_emod_of_nonneg, Int.tdiv_eq_ediv_of_nonneg, true_implies, true_or, or_true, mm_l18, mm_l19, mm_l20, mm_l21, mm_l22] at *)
    all_goals first | omega | exact qa _ _ (by assumption) | exact q1 (by assumption) | exact q2 (by assumption) | skip
  · exact h.elim
theorem me_L_first {l : Launch} (hl : l.stackTraces = false) : mm_Met l yL_first cL_first 6 (some .int) [(0, 13, 16, 19)] 13 263 2 sp_L_first := mm_mtH rn_L_first ⟨by decide, rfl⟩ kkL_first rfl (by decide) (⟨mm_pe (me_X3_first hl) mwX3_first (mm_t4 94 rfl rfl) (Nat.le_of_ble_eq_true rfl) (Nat.le_of_ble_eq_true rfl), trivial⟩)
def sp_L_next : mm_S := fun av M d Q => match av with
  | [.inr (.inr (.inl x)), .inl p0, .inl p1, .inr (.inr (.inl o))] =>  x = 1 ∧ o = 23 ∧ wA M ∧ InI p0 ∧ (p1 = 0 ∨ p1 = 1) ∧ ∀ M1 M' e r, hlP M M1 M' e r → C_next p0 p1 M M1 e r → Q (.inl (some (mm_I e))) M' d
  | _ => False
def ct_L_next : List (Nat × mm_Ca) := [(83, (0, 3, 10, sp_X3_next, 1))]
abbrev rr_L_next (Q : mm_Q) := mm_run (mm_look flL) (mm_look ct_L_next) mm_x0 (mm_look ([] : List (Nat × Int))) (fun _ => none) 1 1 (mm_hn [(0, 11, 14, 19)]) Q kdL_next
set_option maxRecDepth 20000 in
theorem rn_L_next : mm_RNH flL ct_L_next [] [(0, 11, 14, 19)] 1 1 5 kdL_next sp_L_next := by
  intro av M d Q h
  unfold sp_L_next at h
  split at h
  · rename_i x p0 p1 o
    obtain ⟨rfl, rfl, ha, h0, h1, hq⟩ := h
    have q1 : C_next p0 p1 M M 1 0 → Q (.inl (some (mm_I 1))) M d := fun hc => hq M M 1 0 (hlP_1 ha (by omega)) hc
    have q2 : C_next p0 p1 M M 2 0 → Q (.inl (some (mm_I 2))) M d := fun hc => hq M M 2 0 (hlP_1 ha (by omega)) hc
    have qa := fun M' (r : Int) (h : cP M M' ∧ InI r ∧ C_next p0 p1 M M' 0 r) => hq M' _ 0 r (hlP_0 (r := r) h.1) h.2.2
    clear hq
    obtain ⟨K, hK, hK2⟩ : ∃ K : Nat → mm_K, (∀ t ls st M d u, K t ls st M d u → rr_L_next Q t ls st M d u) ∧ (∀ t ls st M d u, rr_L_next Q t ls st M d u → K t ls st M d u) := ⟨rr_L_next Q, fun _ _ _ _ _ _ h => h, fun _ _ _ _ _ _ h => h⟩
    refine ⟨Nat.le_of_ble_eq_true rfl, mm_run_at (stop := []) (S := K) kkL_next 90 ?_ (fun _ _ _ _ _ _ _ h => hK _ _ _ _ _ _ h)⟩
    repeat' (first | with_reducible assumption | with_reducible exact mm_i1 | with_reducible exact mm_i17 | with_reducible exact mm_i23 | ((with_reducible show mm_rv _ _ _ _ _); first | exact True.intro | exact mm_i1 | exact mm_i17 | exact mm_i23 | refine mm_k0 ?_) | refine mm_k0 ?_ | ((with_reducible show mm_bool _ _); first | exact True.intro | exact Or.inl rfl | exact Or.inr rfl | (show (_ : Int) = 0 ∨ _ = 1)) | refine And.intro ?_ ?_ | intro _ | with_reducible exact True.intro | exact rfl | with_reducible exact Or.inl rfl | with_reducible exact Or.inr rfl | exact Nat.le_of_ble_eq_true rfl)
    all_goals (try simp (disch := omega) only [InI, Int.toNat_natCast, Int.tmod_eq_emod_of_nonneg, Int.tdiv_eq_ediv_of_nonneg, true_implies, true_or, or_true, mm_l18, mm_l19, mm_l20, mm_l21, mm_l22] at *)
    all_goals first | omega | exact qa _ _ (by assumption) | exact q1 (by assumption) | exact q2 (by assumption) | skip
  · exact h.elim
theorem me_L_next {l : Launch} (hl : l.stackTraces = false) : mm_Met l yL_next cL_next 5 (some .int) [(0, 11, 14, 19)] 14 286 1 sp_L_next := mm_mtH rn_L_next ⟨by decide, rfl⟩ kkL_next rfl (by decide) (⟨mm_pe (me_X3_next hl) mwX3_next (mm_t4 109 rfl rfl) (Nat.le_of_ble_eq_true rfl) (Nat.le_of_ble_eq_true rfl), trivial⟩)
def sp_L_copy : mm_S := fun av M d Q => match av with
  | [.inr (.inr (.inl x)), .inl p0, .inl p1, .inr (.inr (.inl o))] =>  x = 1 ∧ o = 23 ∧ wA M ∧ InI p0 ∧ InI p1 ∧ ∀ M1 M' e r, hlP M M1 M' e r → C_copy p0 p1 M M1 e r → Q (.inl (some (mm_I e))) M' d
  | _ => False
def ct_L_copy : List (Nat × mm_Ca) := [(86, (0, 3, 10, sp_X3_copy, 2))]
abbrev rr_L_copy (Q : mm_Q) := mm_run (mm_look flL) (mm_look ct_L_copy) mm_x0 (mm_look ([] : List (Nat × Int))) (fun _ => none) 1 2 (mm_hn [(0, 11, 14, 19)]) Q kdL_copy
set_option maxRecDepth 20000 in
theorem rn_L_copy : mm_RNH flL ct_L_copy [] [(0, 11, 14, 19)] 1 2 5 kdL_copy sp_L_copy := by
  intro av M d Q h
  unfold sp_L_copy at h
  split at h
  · rename_i x p0 p1 o
    obtain ⟨rfl, rfl, ha, h0, h1, hq⟩ := h
    have q1 : C_copy p0 p1 M M 1 0 → Q (.inl (some (mm_I 1))) M d := fun hc => hq M M 1 0 (hlP_1 ha (by omega)) hc
    have q2 : C_copy p0 p1 M M 2 0 → Q (.inl (some (mm_I 2))) M d := fun hc => hq M M 2 0 (hlP_1 ha (by omega)) hc
    have qa := fun M' (r : Int) (h : cP M M' ∧ InI r ∧ C_copy p0 p1 M M' 0 r) => hq M' _ 0 r (hlP_0 (r := r) h.1) h.2.2
    clear hq
    obtain ⟨K, hK, hK2⟩ : ∃ K : Nat → mm_K, (∀ t ls st M d u, K t ls st M d u → rr_L_copy Q t ls st M d u) ∧ (∀ t ls st M d u, rr_L_copy Q t ls st M d u → K t ls st M d u) := ⟨rr_L_copy Q, fun _ _ _ _ _ _ h => h, fun _ _ _ _ _ _ h => h⟩
    refine ⟨Nat.le_of_ble_eq_true rfl, mm_run_at (stop := []) (S := K) kkL_copy 90 ?_ (fun _ _ _ _ _ _ _ h => hK _ _ _ _ _ _ h)⟩
    repeat' (first | with_reducible assumption | with_reducible exact mm_i1 | with_reducible exact mm_i17 | with_reducible exact mm_i23 | ((with_reducible show mm_rv _ _ _ _ _); first | exact True.intro | exact mm_i1 | exact mm_i17 | exact mm_i23 | refine mm_k0 ?_) | refine mm_k0 ?_ | ((with_reducible show mm_bool _ _); first | exact True.intro | exact Or.inl rfl | exact Or.inr rfl | (show (_ : Int) = 0 ∨ _ = 1)) | refine And.intro ?_ ?_ | intro _ | with_reducible exact True.intro | exact rfl | with_reducible exact Or.inl rfl | with_reducible exact Or.inr rfl | exact Nat.le_of_ble_eq_true rfl)
    all_goals (try simp (disch := omega) only [InI, Int.toNat_natCast, Int.tmod_eq_emod_of_nonneg, Int.tdiv_eq_ediv_of_nonneg, true_implies, true_or, or_true, mm_l18, mm_l19, mm_l20, mm_l21, mm_l22] at *)
    all_goals first | omega | exact qa _ _ (by assumption) | exact q1 (by assumption) | exact q2 (by assumption) | skip
  · exact h.elim
theorem me_L_copy {l : Launch} (hl : l.stackTraces = false) : mm_Met l yL_copy cL_copy 5 (some .int) [(0, 11, 14, 19)] 9 170 2 sp_L_copy := mm_mtH rn_L_copy ⟨by decide, rfl⟩ kkL_copy rfl (by decide) (⟨mm_pe (me_X3_copy hl) mwX3_copy (mm_t4 126 rfl rfl) (Nat.le_of_ble_eq_true rfl) (Nat.le_of_ble_eq_true rfl), trivial⟩)
def sp_L_length : mm_S := fun av M d Q => match av with
  | [.inr (.inr (.inl x)), .inl p0, .inr (.inr (.inl o))] =>  x = 1 ∧ o = 23 ∧ wA M ∧ InI p0 ∧ ∀ M1 M' e r, hlP M M1 M' e r → C_length p0 M M1 e r → Q (.inl (some (mm_I e))) M' d
  | _ => False
def ct_L_length : List (Nat × mm_Ca) := [(89, (0, 2, 10, sp_X3_length, 1))]
abbrev rr_L_length (Q : mm_Q) := mm_run (mm_look flL) (mm_look ct_L_length) mm_x0 (mm_look ([] : List (Nat × Int))) (fun _ => none) 1 1 (mm_hn [(0, 10, 13, 19)]) Q kdL_length
set_option maxRecDepth 20000 in
theorem rn_L_length : mm_RNH flL ct_L_length [] [(0, 10, 13, 19)] 1 1 4 kdL_length sp_L_length := by
  intro av M d Q h
  unfold sp_L_length at h
  split at h
  · rename_i x p0 o
    obtain ⟨rfl, rfl, ha, h0, hq⟩ := h
    have q1 : C_length p0 M M 1 0 → Q (.inl (some (mm_I 1))) M d := fun hc => hq M M 1 0 (hlP_1 ha (by omega)) hc
    have q2 : C_length p0 M M 2 0 → Q (.inl (some (mm_I 2))) M d := fun hc => hq M M 2 0 (hlP_1 ha (by omega)) hc
    have qa := fun (r : Int) (h : InI r ∧ C_length p0 M M 0 r) => hq M _ 0 r (hlP_0 (r := r) ha.rf) h.2
    clear hq
    obtain ⟨K, hK, hK2⟩ : ∃ K : Nat → mm_K, (∀ t ls st M d u, K t ls st M d u → rr_L_length Q t ls st M d u) ∧ (∀ t ls st M d u, rr_L_length Q t ls st M d u → K t ls st M d u) := ⟨rr_L_length Q, fun _ _ _ _ _ _ h => h, fun _ _ _ _ _ _ h => h⟩
    refine ⟨Nat.le_of_ble_eq_true rfl, mm_run_at (stop := []) (S := K) kkL_length 90 ?_ (fun _ _ _ _ _ _ _ h => hK _ _ _ _ _ _ h)⟩
    repeat' (first | with_reducible assumption | with_reducible exact mm_i1 | with_reducible exact mm_i17 | with_reducible exact mm_i23 | ((with_reducible show mm_rv _ _ _ _ _); first | exact True.intro | exact mm_i1 | exact mm_i17 | exact mm_i23 | refine mm_k0 ?_) | refine mm_k0 ?_ | ((with_reducible show mm_bool _ _); first | exact True.intro | exact Or.inl rfl | exact Or.inr rfl | (show (_ : Int) = 0 ∨ _ = 1)) | refine And.intro ?_ ?_ | intro _ | with_reducible exact True.intro | exact rfl | with_reducible exact Or.inl rfl | with_reducible exact Or.inr rfl | exact Nat.le_of_ble_eq_true rfl)
    all_goals (try simp (disch := omega) only [InI, Int.toNat_natCast, Int.tmod_eq_emod_of_nonneg, Int.tdiv_eq_ediv_of_nonneg, true_implies, true_or, or_true, mm_l18, mm_l19, mm_l20, mm_l21, mm_l22] at *)
    all_goals first | omega | exact qa _ (by assumption) | exact q1 (by assumption) | exact q2 (by assumption) | skip
  · exact h.elim
theorem me_L_length {l : Launch} (hl : l.stackTraces = false) : mm_Met l yL_length cL_length 4 (some .int) [(0, 10, 13, 19)] 8 142 1 sp_L_length := mm_mtH rn_L_length ⟨by decide, rfl⟩ kkL_length rfl (by decide) (⟨mm_pe (me_X3_length hl) mwX3_length (mm_t4 133 rfl rfl) (Nat.le_of_ble_eq_true rfl) (Nat.le_of_ble_eq_true rfl), trivial⟩)
def sp_L_cornerAt : mm_S := fun av M d Q => match av with
  | [.inr (.inr (.inl x)), .inl p0, .inl p1, .inr (.inr (.inl o))] =>  x = 1 ∧ o = 23 ∧ wA M ∧ InI p0 ∧ InI p1 ∧ ∀ M1 M' e r, hlP M M1 M' e r → C_cornerAt p0 p1 M M1 e r → Q (.inl (some (mm_I e))) M' d
  | _ => False
def ct_L_cornerAt : List (Nat × mm_Ca) := [(92, (0, 3, 10, sp_X3_cornerAt, 2))]
abbrev rr_L_cornerAt (Q : mm_Q) := mm_run (mm_look flL) (mm_look ct_L_cornerAt) mm_x0 (mm_look ([] : List (Nat × Int))) (fun _ => none) 1 2 (mm_hn [(0, 11, 14, 19)]) Q kdL_cornerAt
set_option maxRecDepth 20000 in
theorem rn_L_cornerAt : mm_RNH flL ct_L_cornerAt [] [(0, 11, 14, 19)] 1 2 5 kdL_cornerAt sp_L_cornerAt := by
  intro av M d Q h
  unfold sp_L_cornerAt at h
  split at h
  · rename_i x p0 p1 o
    obtain ⟨rfl, rfl, ha, h0, h1, hq⟩ := h
    have q1 : C_cornerAt p0 p1 M M 1 0 → Q (.inl (some (mm_I 1))) M d := fun hc => hq M M 1 0 (hlP_1 ha (by omega)) hc
    have q2 : C_cornerAt p0 p1 M M 2 0 → Q (.inl (some (mm_I 2))) M d := fun hc => hq M M 2 0 (hlP_1 ha (by omega)) hc
    have qa := fun (r : Int) (h : InI r ∧ C_cornerAt p0 p1 M M 0 r) => hq M _ 0 r (hlP_0 (r := r) ha.rf) h.2
    clear hq
    obtain ⟨K, hK, hK2⟩ : ∃ K : Nat → mm_K, (∀ t ls st M d u, K t ls st M d u → rr_L_cornerAt Q t ls st M d u) ∧ (∀ t ls st M d u, rr_L_cornerAt Q t ls st M d u → K t ls st M d u) := ⟨rr_L_cornerAt Q, fun _ _ _ _ _ _ h => h, fun _ _ _ _ _ _ h => h⟩
    refine ⟨Nat.le_of_ble_eq_true rfl, mm_run_at (stop := []) (S := K) kkL_cornerAt 90 ?_ (fun _ _ _ _ _ _ _ h => hK _ _ _ _ _ _ h)⟩
    repeat' (first | with_reducible assumption | with_reducible exact mm_i1 | with_reducible exact mm_i17 | with_reducible exact mm_i23 | ((with_reducible show mm_rv _ _ _ _ _); first | exact True.intro | exact mm_i1 | exact mm_i17 | exact mm_i23 | refine mm_k0 ?_) | refine mm_k0 ?_ | ((with_reducible show mm_bool _ _); first | exact True.intro | exact Or.inl rfl | exact Or.inr rfl | (show (_ : Int) = 0 ∨ _ = 1)) | refine And.intro ?_ ?_ | intro _ | with_reducible exact True.intro | exact rfl | with_reducible exact Or.inl rfl | with_reducible exact Or.inr rfl | exact Nat.le_of_ble_eq_true rfl)
    all_goals (try simp (disch := omega) only [InI, Int.toNat_natCast, Int.tmod_eq_emod_of_nonneg, Int.tdiv_eq_ediv_of_nonneg, true_implies, true_or, or_true, mm_l18, mm_l19, mm_l20, mm_l21, mm_l22] at *)
    all_goals first | omega | exact qa _ (by assumption) | exact q1 (by assumption) | exact q2 (by assumption) | skip
  · exact h.elim
theorem me_L_cornerAt {l : Launch} (hl : l.stackTraces = false) : mm_Met l yL_cornerAt cL_cornerAt 5 (some .int) [(0, 11, 14, 19)] 10 187 2 sp_L_cornerAt := mm_mtH rn_L_cornerAt ⟨by decide, rfl⟩ kkL_cornerAt rfl (by decide) (⟨mm_pe (me_X3_cornerAt hl) mwX3_cornerAt (mm_t4 140 rfl rfl) (Nat.le_of_ble_eq_true rfl) (Nat.le_of_ble_eq_true rfl), trivial⟩)
def sp_L_stepAt : mm_S := fun av M d Q => match av with
  | [.inr (.inr (.inl x)), .inl p0, .inl p1, .inr (.inr (.inl o))] =>  x = 1 ∧ o = 23 ∧ wA M ∧ InI p0 ∧ InI p1 ∧ ∀ M1 M' e r, hlP M M1 M' e r → C_stepAt p0 p1 M M1 e r → Q (.inl (some (mm_I e))) M' d
  | _ => False
def ct_L_stepAt : List (Nat × mm_Ca) := [(95, (0, 3, 10, sp_X3_stepAt, 2))]
abbrev rr_L_stepAt (Q : mm_Q) := mm_run (mm_look flL) (mm_look ct_L_stepAt) mm_x0 (mm_look ([] : List (Nat × Int))) (fun _ => none) 1 2 (mm_hn [(0, 11, 14, 19)]) Q kdL_stepAt
set_option maxRecDepth 20000 in
theorem rn_L_stepAt : mm_RNH flL ct_L_stepAt [] [(0, 11, 14, 19)] 1 2 5 kdL_stepAt sp_L_stepAt := by
  intro av M d Q h
  unfold sp_L_stepAt at h
  split at h
  · rename_i x p0 p1 o
    obtain ⟨rfl, rfl, ha, h0, h1, hq⟩ := h
    have q1 : C_stepAt p0 p1 M M 1 0 → Q (.inl (some (mm_I 1))) M d := fun hc => hq M M 1 0 (hlP_1 ha (by omega)) hc
    have q2 : C_stepAt p0 p1 M M 2 0 → Q (.inl (some (mm_I 2))) M d := fun hc => hq M M 2 0 (hlP_1 ha (by omega)) hc
    have qa := fun (r : Int) (h : InI r ∧ C_stepAt p0 p1 M M 0 r) => hq M _ 0 r (hlP_0 (r := r) ha.rf) h.2
    clear hq
    obtain ⟨K, hK, hK2⟩ : ∃ K : Nat → mm_K, (∀ t ls st M d u, K t ls st M d u → rr_L_stepAt Q t ls st M d u) ∧ (∀ t ls st M d u, rr_L_stepAt Q t ls st M d u → K t ls st M d u) := ⟨rr_L_stepAt Q, fun _ _ _ _ _ _ h => h, fun _ _ _ _ _ _ h => h⟩
    refine ⟨Nat.le_of_ble_eq_true rfl, mm_run_at (stop := []) (S := K) kkL_stepAt 90 ?_ (fun _ _ _ _ _ _ _ h => hK _ _ _ _ _ _ h)⟩
    repeat' (first | with_reducible assumption | with_reducible exact mm_i1 | with_reducible exact mm_i17 | with_reducible exact mm_i23 | ((with_reducible show mm_rv _ _ _ _ _); first | exact True.intro | exact mm_i1 | exact mm_i17 | exact mm_i23 | refine mm_k0 ?_) | refine mm_k0 ?_ | ((with_reducible show mm_bool _ _); first | exact True.intro | exact Or.inl rfl | exact Or.inr rfl | (show (_ : Int) = 0 ∨ _ = 1)) | refine And.intro ?_ ?_ | intro _ | with_reducible exact True.intro | exact rfl | with_reducible exact Or.inl rfl | with_reducible exact Or.inr rfl | exact Nat.le_of_ble_eq_true rfl)
    all_goals (try simp (disch := omega) only [InI, Int.toNat_natCast, Int.tmod_eq_emod_of_nonneg, Int.tdiv_eq_ediv_of_nonneg, true_implies, true_or, or_true, mm_l18, mm_l19, mm_l20, mm_l21, mm_l22] at *)
    all_goals first | omega | exact qa _ (by assumption) | exact q1 (by assumption) | exact q2 (by assumption) | skip
  · exact h.elim
theorem me_L_stepAt {l : Launch} (hl : l.stackTraces = false) : mm_Met l yL_stepAt cL_stepAt 5 (some .int) [(0, 11, 14, 19)] 8 144 2 sp_L_stepAt := mm_mtH rn_L_stepAt ⟨by decide, rfl⟩ kkL_stepAt rfl (by decide) (⟨mm_pe (me_X3_stepAt hl) mwX3_stepAt (mm_t4 147 rfl rfl) (Nat.le_of_ble_eq_true rfl) (Nat.le_of_ble_eq_true rfl), trivial⟩)
def sp_L_find : mm_S := fun av M d Q => match av with
  | [.inr (.inr (.inl x)), .inl p0, .inl p1, .inr (.inr (.inl o))] =>  x = 1 ∧ o = 23 ∧ wA M ∧ InI p0 ∧ InI p1 ∧ ∀ M1 M' e r, hlP M M1 M' e r → C_find p0 p1 M M1 e r → Q (.inl (some (mm_I e))) M' d
  | _ => False
def ct_L_find : List (Nat × mm_Ca) := [(98, (0, 3, 10, sp_X3_find, 2))]
abbrev rr_L_find (Q : mm_Q) := mm_run (mm_look flL) (mm_look ct_L_find) mm_x0 (mm_look ([] : List (Nat × Int))) (fun _ => none) 1 2 (mm_hn [(0, 11, 14, 19)]) Q kdL_find
set_option maxRecDepth 20000 in
theorem rn_L_find : mm_RNH flL ct_L_find [] [(0, 11, 14, 19)] 1 2 5 kdL_find sp_L_find := by
  intro av M d Q h
  unfold sp_L_find at h
  split at h
  · rename_i x p0 p1 o
    obtain ⟨rfl, rfl, ha, h0, h1, hq⟩ := h
    have q1 : C_find p0 p1 M M 1 0 → Q (.inl (some (mm_I 1))) M d := fun hc => hq M M 1 0 (hlP_1 ha (by omega)) hc
    have q2 : C_find p0 p1 M M 2 0 → Q (.inl (some (mm_I 2))) M d := fun hc => hq M M 2 0 (hlP_1 ha (by omega)) hc
    have qa := fun (r : Int) (h : InI r ∧ C_find p0 p1 M M 0 r) => hq M _ 0 r (hlP_0 (r := r) ha.rf) h.2
    clear hq
    obtain ⟨K, hK, hK2⟩ : ∃ K : Nat → mm_K, (∀ t ls st M d u, K t ls st M d u → rr_L_find Q t ls st M d u) ∧ (∀ t ls st M d u, rr_L_find Q t ls st M d u → K t ls st M d u) := ⟨rr_L_find Q, fun _ _ _ _ _ _ h => h, fun _ _ _ _ _ _ h => h⟩
    refine ⟨Nat.le_of_ble_eq_true rfl, mm_run_at (stop := []) (S := K) kkL_find 90 ?_ (fun _ _ _ _ _ _ _ h => hK _ _ _ _ _ _ h)⟩
    repeat' (first | with_reducible assumption | with_reducible exact mm_i1 | with_reducible exact mm_i17 | with_reducible exact mm_i23 | ((with_reducible show mm_rv _ _ _ _ _); first | exact True.intro | exact mm_i1 | exact mm_i17 | exact mm_i23 | refine mm_k0 ?_) | refine mm_k0 ?_ | ((with_reducible show mm_bool _ _); first | exact True.intro | exact Or.inl rfl | exact Or.inr rfl | (show (_ : Int) = 0 ∨ _ = 1)) | refine And.intro ?_ ?_ | intro _ | with_reducible exact True.intro | exact rfl | with_reducible exact Or.inl rfl | with_reducible exact Or.inr rfl | exact Nat.le_of_ble_eq_true rfl)
    all_goals (try simp (disch := omega) only [InI, Int.toNat_natCast, Int.tmod_eq_emod_of_nonneg, Int.tdiv_eq_ediv_of_nonneg, true_implies, true_or, or_true, mm_l18, mm_l19, mm_l20, mm_l21, mm_l22] at *)
    all_goals first | omega | exact qa _ (by assumption) | exact q1 (by assumption) | exact q2 (by assumption) | skip
  · exact h.elim
theorem me_L_find {l : Launch} (hl : l.stackTraces = false) : mm_Met l yL_find cL_find 5 (some .int) [(0, 11, 14, 19)] 9 164 2 sp_L_find := mm_mtH rn_L_find ⟨by decide, rfl⟩ kkL_find rfl (by decide) (⟨mm_pe (me_X3_find hl) mwX3_find (mm_t4 154 rfl rfl) (Nat.le_of_ble_eq_true rfl) (Nat.le_of_ble_eq_true rfl), trivial⟩)
def sp_L_is : mm_S := fun av M d Q => match av with
  | [.inr (.inr (.inl x)), .inl p0, .inl p1, .inr (.inr (.inl o))] =>  x = 1 ∧ o = 23 ∧ wA M ∧ InI p0 ∧ (p1 = 0 ∨ p1 = 1) ∧ ∀ M1 M' e r, hlP M M1 M' e r → C_is p0 p1 M M1 e r → Q (.inl (some (mm_I e))) M' d
  | _ => False
def ct_L_is : List (Nat × mm_Ca) := [(101, (0, 3, 10, sp_X3_is, 1))]
abbrev rr_L_is (Q : mm_Q) := mm_run (mm_look flL) (mm_look ct_L_is) mm_x0 (mm_look ([] : List (Nat × Int))) (fun _ => none) 1 1 (mm_hn [(0, 18, 21, 19)]) Q kdL_is
set_option maxRecDepth 20000 in
theorem rn_L_is : mm_RNH flL ct_L_is [] [(0, 18, 21, 19)] 1 1 5 kdL_is sp_L_is := by
  intro av M d Q h
  unfold sp_L_is at h
  split at h
  · rename_i x p0 p1 o
    obtain ⟨rfl, rfl, ha, h0, h1, hq⟩ := h
    have q1 : C_is p0 p1 M M 1 0 → Q (.inl (some (mm_I 1))) M d := fun hc => hq M M 1 0 (hlP_1 ha (by omega)) hc
    have q2 : C_is p0 p1 M M 2 0 → Q (.inl (some (mm_I 2))) M d := fun hc => hq M M 2 0 (hlP_1 ha (by omega)) hc
    have qa : ∀ (r : Int), ((r = 0 ∨ r = 1) ∧ C_is p0 p1 M M 0 r) → r ≠ 0 → Q (.inl (some (mm_I 0))) (mm_up M 23 0 1) d := fun r h hr => by
      have e : r = 1 := by have := h.1; omega
      subst e
      have := hq M _ 0 1 (hlP_0 ha.rf) h.2
      rw [mm_w1] at this
      exact this
    have qb : ∀ (r : Int), ((r = 0 ∨ r = 1) ∧ C_is p0 p1 M M 0 r) → r = 0 → Q (.inl (some (mm_I 0))) (mm_up M 23 0 0) d := fun r h hr => by
      subst hr
      have := hq M _ 0 0 (hlP_0 ha.rf) h.2
      rw [mm_w0] at this
      exact this
    clear hq
    obtain ⟨K, hK, hK2⟩ : ∃ K : Nat → mm_K, (∀ t ls st M d u, K t ls st M d u → rr_L_is Q t ls st M d u) ∧ (∀ t ls st M d u, rr_L_is Q t ls st M d u → K t ls st M d u) := ⟨rr_L_is Q, fun _ _ _ _ _ _ h => h, fun _ _ _ _ _ _ h => h⟩
    refine ⟨Nat.le_of_ble_eq_true rfl, mm_run_at (stop := []) (S := K) kkL_is 90 ?_ (fun _ _ _ _ _ _ _ h => hK _ _ _ _ _ _ h)⟩
    repeat' (first | with_reducible assumption | with_reducible exact mm_i1 | with_reducible exact mm_i17 | with_reducible exact mm_i23 | ((with_reducible show mm_rv _ _ _ _ _); first | exact True.intro | exact mm_i1 | exact mm_i17 | exact mm_i23 | refine mm_k0 ?_) | refine mm_k0 ?_ | ((with_reducible show mm_bool _ _); first | exact True.intro | exact Or.inl rfl | exact Or.inr rfl | (show (_ : Int) = 0 ∨ _ = 1)) | refine And.intro ?_ ?_ | intro _ | with_reducible exact True.intro | exact rfl | with_reducible exact Or.inl rfl | with_reducible exact Or.inr rfl | exact Nat.le_of_ble_eq_true rfl)
    all_goals (try simp (disch := omega) only [InI, Int.toNat_natCast, Int.tmod_eq_emod_of_nonneg, Int.tdiv_eq_ediv_of_nonneg, true_implies, true_or, or_true, mm_l18, mm_l19, mm_l20, mm_l21, mm_l22] at *)
    all_goals first | omega | exact qa _ (by assumption) (by omega) | exact qb _ (by assumption) (by omega) | exact q1 (by assumption) | exact q2 (by assumption) | skip
  · exact h.elim
theorem me_L_is {l : Launch} (hl : l.stackTraces = false) : mm_Met l yL_is cL_is 5 (some .int) [(0, 18, 21, 19)] 11 207 1 sp_L_is := mm_mtH rn_L_is ⟨by decide, rfl⟩ kkL_is rfl (by decide) (⟨mm_pe (me_X3_is hl) mwX3_is (mm_t4 161 rfl rfl) (Nat.le_of_ble_eq_true rfl) (Nat.le_of_ble_eq_true rfl), trivial⟩)
def sp_L_same : mm_S := fun av M d Q => match av with
  | [.inr (.inr (.inl x)), .inl p0, .inl p1, .inr (.inr (.inl o))] =>  x = 1 ∧ o = 23 ∧ wA M ∧ InI p0 ∧ InI p1 ∧ ∀ M1 M' e r, hlP M M1 M' e r → C_same p0 p1 M M1 e r → Q (.inl (some (mm_I e))) M' d
  | _ => False
def ct_L_same : List (Nat × mm_Ca) := [(105, (0, 3, 10, sp_X3_same, 2))]
abbrev rr_L_same (Q : mm_Q) := mm_run (mm_look flL) (mm_look ct_L_same) mm_x0 (mm_look ([] : List (Nat × Int))) (fun _ => none) 1 2 (mm_hn [(0, 18, 21, 19)]) Q kdL_same
set_option maxRecDepth 20000 in
theorem rn_L_same : mm_RNH flL ct_L_same [] [(0, 18, 21, 19)] 1 2 5 kdL_same sp_L_same := by
  intro av M d Q h
  unfold sp_L_same at h
  split at h
  · rename_i x p0 p1 o
    obtain ⟨rfl, rfl, ha, h0, h1, hq⟩ := h
    have q1 : C_same p0 p1 M M 1 0 → Q (.inl (some (mm_I 1))) M d := fun hc => hq M M 1 0 (hlP_1 ha (by omega)) hc
    have q2 : C_same p0 p1 M M 2 0 → Q (.inl (some (mm_I 2))) M d := fun hc => hq M M 2 0 (hlP_1 ha (by omega)) hc
    have qa : ∀ (r : Int), ((r = 0 ∨ r = 1) ∧ C_same p0 p1 M M 0 r) → r ≠ 0 → Q (.inl (some (mm_I 0))) (mm_up M 23 0 1) d := fun r h hr => by
      have e : r = 1 := by have := h.1; omega
      subst e
      have := hq M _ 0 1 (hlP_0 ha.rf) h.2
      rw [mm_w1] at this
      exact this
    have qb : ∀ (r : Int), ((r = 0 ∨ r = 1) ∧ C_same p0 p1 M M 0 r) → r = 0 → Q (.inl (some (mm_I 0))) (mm_up M 23 0 0) d := fun r h hr => by
      subst hr
      have := hq M _ 0 0 (hlP_0 ha.rf) h.2
      rw [mm_w0] at this
      exact this
    clear hq
    obtain ⟨K, hK, hK2⟩ : ∃ K : Nat → mm_K, (∀ t ls st M d u, K t ls st M d u → rr_L_same Q t ls st M d u) ∧ (∀ t ls st M d u, rr_L_same Q t ls st M d u → K t ls st M d u) := ⟨rr_L_same Q, fun _ _ _ _ _ _ h => h, fun _ _ _ _ _ _ h => h⟩
    refine ⟨Nat.le_of_ble_eq_true rfl, mm_run_at (stop := []) (S := K) kkL_same 90 ?_ (fun _ _ _ _ _ _ _ h => hK _ _ _ _ _ _ h)⟩
    repeat' (first | with_reducible assumption | with_reducible exact mm_i1 | with_reducible exact mm_i17 | with_reducible exact mm_i23 | ((with_reducible show mm_rv _ _ _ _ _); first | exact True.intro | exact mm_i1 | exact mm_i17 | exact mm_i23 | refine mm_k0 ?_) | refine mm_k0 ?_ | ((with_reducible show mm_bool _ _); first | exact True.intro | exact Or.inl rfl | exact Or.inr rfl | (show (_ : Int) = 0 ∨ _ = 1)) | refine And.intro ?_ ?_ | intro _ | with_reducible exact True.intro | exact rfl | with_reducible exact Or.inl rfl | with_reducible exact Or.inr rfl | exact Nat.le_of_ble_eq_true rfl)
    all_goals (try simp (disch := omega) only [InI, Int.toNat_natCast, Int.tmod_eq_emod_of_nonneg, Int.tdiv_eq_ediv_of_nonneg, true_implies, true_or, or_true, mm_l18, mm_l19, mm_l20, mm_l21, mm_l22] at *)
    all_goals first | omega | exact qa _ (by assumption) (by omega) | exact qb _ (by assumption) (by omega) | exact q1 (by assumption) | exact q2 (by assumption) | skip
  · exact h.elim
theorem me_L_same {l : Launch} (hl : l.stackTraces = false) : mm_Met l yL_same cL_same 5 (some .int) [(0, 18, 21, 19)] 11 211 2 sp_L_same := mm_mtH rn_L_same ⟨by decide, rfl⟩ kkL_same rfl (by decide) (⟨mm_pe (me_X3_same hl) mwX3_same (mm_t4 168 rfl rfl) (Nat.le_of_ble_eq_true rfl) (Nat.le_of_ble_eq_true rfl), trivial⟩)
def sp_L_turnOf : mm_S := fun av M d Q => match av with
  | [.inr (.inr (.inl x)), .inl p0, .inl p1, .inr (.inr (.inl o))] =>  x = 1 ∧ o = 23 ∧ wA M ∧ InI p0 ∧ InI p1 ∧ ∀ M1 M' e r, hlP M M1 M' e r → C_turnOf p0 p1 M M1 e r → Q (.inl (some (mm_I e))) M' d
  | _ => False
def ct_L_turnOf : List (Nat × mm_Ca) := [(109, (0, 3, 10, sp_X3_turnOf, 2))]
abbrev rr_L_turnOf (Q : mm_Q) := mm_run (mm_look flL) (mm_look ct_L_turnOf) mm_x0 (mm_look ([] : List (Nat × Int))) (fun _ => none) 1 2 (mm_hn [(0, 11, 14, 19)]) Q kdL_turnOf
set_option maxRecDepth 20000 in
theorem rn_L_turnOf : mm_RNH flL ct_L_turnOf [] [(0, 11, 14, 19)] 1 2 5 kdL_turnOf sp_L_turnOf := by
  intro av M d Q h
  unfold sp_L_turnOf at h
  split at h
  · rename_i x p0 p1 o
    obtain ⟨rfl, rfl, ha, h0, h1, hq⟩ := h
    have q1 : C_turnOf p0 p1 M M 1 0 → Q (.inl (some (mm_I 1))) M d := fun hc => hq M M 1 0 (hlP_1 ha (by omega)) hc
    have q2 : C_turnOf p0 p1 M M 2 0 → Q (.inl (some (mm_I 2))) M d := fun hc => hq M M 2 0 (hlP_1 ha (by omega)) hc
    have qa := fun (r : Int) (h : InI r ∧ C_turnOf p0 p1 M M 0 r) => hq M _ 0 r (hlP_0 (r := r) ha.rf) h.2
    clear hq
    obtain ⟨K, hK, hK2⟩ : ∃ K : Nat → mm_K, (∀ t ls st M d u, K t ls st M d u → rr_L_turnOf Q t ls st M d u) ∧ (∀ t ls st M d u, rr_L_turnOf Q t ls st M d u → K t ls st M d u) := ⟨rr_L_turnOf Q, fun _ _ _ _ _ _ h => h, fun _ _ _ _ _ _ h => h⟩
    refine ⟨Nat.le_of_ble_eq_true rfl, mm_run_at (stop := []) (S := K) kkL_turnOf 90 ?_ (fun _ _ _ _ _ _ _ h => hK _ _ _ _ _ _ h)⟩
    repeat' (first | with_reducible assumption | with_reducible exact mm_i1 | with_reducible exact mm_i17 | with_reducible exact mm_i23 | ((with_reducible show mm_rv _ _ _ _ _); first | exact True.intro | exact mm_i1 | exact mm_i17 | exact mm_i23 | refine mm_k0 ?_) | refine mm_k0 ?_ | ((with_reducible show mm_bool _ _); first | exact True.intro | exact Or.inl rfl | exact Or.inr rfl | (show (_ : Int) = 0 ∨ _ = 1)) | refine And.intro ?_ ?_ | intro _ | with_reducible exact True.intro | exact rfl | with_reducible exact Or.inl rfl | with_reducible exact Or.inr rfl | exact Nat.le_of_ble_eq_true rfl)
    all_goals (try simp (disch := omega) only [InI, Int.toNat_natCast, Int.tmod_eq_emod_of_nonneg, Int.tdiv_eq_ediv_of_nonneg, true_implies, true_or, or_true, mm_l18, mm_l19, mm_l20, mm_l21, mm_l22] at *)
    all_goals first | omega | exact qa _ (by assumption) | exact q1 (by assumption) | exact q2 (by assumption) | skip
  · exact h.elim
theorem me_L_turnOf {l : Launch} (hl : l.stackTraces = false) : mm_Met l yL_turnOf cL_turnOf 5 (some .int) [(0, 11, 14, 19)] 12 233 2 sp_L_turnOf := mm_mtH rn_L_turnOf ⟨by decide, rfl⟩ kkL_turnOf rfl (by decide) (⟨mm_pe (me_X3_turnOf hl) mwX3_turnOf (mm_t4 176 rfl rfl) (Nat.le_of_ble_eq_true rfl) (Nat.le_of_ble_eq_true rfl), trivial⟩)
def sp_L_wordAt : mm_S := fun av M d Q => match av with
  | [.inr (.inr (.inl x)), .inl p0, .inl p1, .inl p2, .inr (.inr (.inl o))] =>  x = 1 ∧ o = 23 ∧ wA M ∧ InI p0 ∧ InI p1 ∧ InI p2 ∧ ∀ M1 M' e r, hlP M M1 M' e r → C_wordAt p0 p1 p2 M M1 e r → Q (.inl (some (mm_I e))) M' d
  | _ => False
def ct_L_wordAt : List (Nat × mm_Ca) := [(120, (0, 4, 10, sp_X3_wordAt, 3))]
abbrev rr_L_wordAt (Q : mm_Q) := mm_run (mm_look flL) (mm_look ct_L_wordAt) mm_x0 (mm_look ([] : List (Nat × Int))) (fun _ => none) 1 3 (mm_hn [(0, 13, 16, 19), (0, 13, 20, 24)]) Q kdL_wordAt
set_option maxRecDepth 20000 in
theorem rn_L_wordAt : mm_RNH flL ct_L_wordAt [] [(0, 13, 16, 19), (0, 13, 20, 24)] 1 3 6 kdL_wordAt sp_L_wordAt := by
  intro av M d Q h
  unfold sp_L_wordAt at h
  split at h
  · rename_i x p0 p1 p2 o
    obtain ⟨rfl, rfl, ha, h0, h1, h2, hq⟩ := h
    have q1 : C_wordAt p0 p1 p2 M M 1 0 → Q (.inl (some (mm_I 1))) M d := fun hc => hq M M 1 0 (hlP_1 ha (by omega)) hc
    have q2 : C_wordAt p0 p1 p2 M M 2 0 → Q (.inl (some (mm_I 2))) M d := fun hc => hq M M 2 0 (hlP_1 ha (by omega)) hc
    have qa := fun (r : Int) (h : InI r ∧ C_wordAt p0 p1 p2 M M 0 r) => hq M _ 0 r (hlP_0 (r := r) ha.rf) h.2
    clear hq
    obtain ⟨K, hK, hK2⟩ : ∃ K : Nat → mm_K, (∀ t ls st M d u, K t ls st M d u → rr_L_wordAt Q t ls st M d u) ∧ (∀ t ls st M d u, rr_L_wordAt Q t ls st M d u → K t ls st M d u) := ⟨rr_L_wordAt Q, fun _ _ _ _ _ _ h => h, fun _ _ _ _ _ _ h => h⟩
    refine ⟨Nat.le_of_ble_eq_true rfl, mm_run_at (stop := []) (S := K) kkL_wordAt 90 ?_ (fun _ _ _ _ _ _ _ h => hK _ _ _ _ _ _ h)⟩
    repeat' (first | with_reducible assumption | with_reducible exact mm_i1 | with_reducible exact mm_i17 | with_reducible exact mm_i23 | ((with_reducible show mm_rv _ _ _ _ _); first | exact True.intro | exact mm_i1 | exact mm_i17 | exact mm_i23 | refine mm_k2 ?_) | refine mm_k2 ?_ | ((with_reducible show mm_bool _ _); first | exact True.intro | exact Or.inl rfl | exact Or.inr rfl | (show (_ : Int) = 0 ∨ _ = 1)) | refine And.intro ?_ ?_ | intro _ | with_reducible exact True.intro | exact rfl | with_reducible exact Or.inl rfl | with_reducible exact Or.inr rfl | exact Nat.le_of_ble_eq_true rfl)
    all_goals (try simp (disch := omega) only [InI, Int.toNat_natCast, Int.tmod_eq_emod_of_nonneg, Int.tdiv_eq_ediv_of_nonneg, true_implies, true_or, or_true, mm_l18, mm_l19, mm_l20, mm_l21, mm_l22] at *)
    all_goals first | omega | exact qa _ (by assumption) | exact q1 (by assumption) | exact q2 (by assumption) | skip
  · exact h.elim
theorem me_L_wordAt {l : Launch} (hl : l.stackTraces = false) : mm_Met l yL_wordAt cL_wordAt 6 (some .int) [(0, 13, 16, 19), (0, 13, 20, 24)] 10 193 3 sp_L_wordAt := mm_mtH rn_L_wordAt ⟨by decide, rfl⟩ kkL_wordAt rfl (by decide) (⟨mm_pe (me_X3_wordAt hl) mwX3_wordAt (mm_t5 221 rfl rfl) (Nat.le_of_ble_eq_true rfl) (Nat.le_of_ble_eq_true rfl), trivial⟩)
def sp_L_cursor : mm_S := fun av M d Q => match av with
  | [.inr (.inr (.inl x)), .inl p0, .inl p1, .inr (.inr (.inl o))] =>  x = 1 ∧ o = 23 ∧ wA M ∧ InI p0 ∧ InI p1 ∧ ∀ M1 M' e r, hlP M M1 M' e r → C_cursor p0 p1 M M1 e r → Q (.inl (some (mm_I e))) M' d
  | _ => False
def ct_L_cursor : List (Nat × mm_Ca) := [(123, (0, 3, 10, sp_X3_cursor, 2))]
abbrev rr_L_cursor (Q : mm_Q) := mm_run (mm_look flL) (mm_look ct_L_cursor) mm_x0 (mm_look ([] : List (Nat × Int))) (fun _ => none) 1 2 (mm_hn [(0, 11, 14, 19)]) Q kdL_cursor
set_option maxRecDepth 20000 in
theorem rn_L_cursor : mm_RNH flL ct_L_cursor [] [(0, 11, 14, 19)] 1 2 5 kdL_cursor sp_L_cursor := by
  intro av M d Q h
  unfold sp_L_cursor at h
  split at h
  · rename_i x p0 p1 o
    obtain ⟨rfl, rfl, ha, h0, h1, hq⟩ := h
    have q1 : C_cursor p0 p1 M M 1 0 → Q (.inl (some (mm_I 1))) M d := fun hc => hq M M 1 0 (hlP_1 ha (by omega)) hc
    have q2 : C_cursor p0 p1 M M 2 0 → Q (.inl (some (mm_I 2))) M d := fun hc => hq M M 2 0 (hlP_1 ha (by omega)) hc
    have qa := fun M' (r : Int) (h : cP M M' ∧ InI r ∧ C_cursor p0 p1 M M' 0 r) => hq M' _ 0 r (hlP_0 (r := r) h.1) h.2.2
    clear hq
    obtain ⟨K, hK, hK2⟩ : ∃ K : Nat → mm_K, (∀ t ls st M d u, K t ls st M d u → rr_L_cursor Q t ls st M d u) ∧ (∀ t ls st M d u, rr_L_cursor Q t ls st M d u → K t ls st M d u) := ⟨rr_L_cursor Q, fun _ _ _ _ _ _ h => h, fun _ _ _ _ _ _ h => h⟩
    refine ⟨Nat.le_of_ble_eq_true rfl, mm_run_at (stop := []) (S := K) kkL_cursor 90 ?_ (fun _ _ _ _ _ _ _ h => hK _ _ _ _ _ _ h)⟩
    repeat' (first | with_reducible assumption | with_reducible exact mm_i1 | with_reducible exact mm_i17 | with_reducible exact mm_i23 | ((with_reducible show mm_rv _ _ _ _ _); first | exact True.intro | exact mm_i1 | exact mm_i17 | exact mm_i23 | refine mm_k0 ?_) | refine mm_k0 ?_ | ((with_reducible show mm_bool _ _); first | exact True.intro | exact Or.inl rfl | exact Or.inr rfl | (show (_ : Int) = 0 ∨ _ = 1)) | refine And.intro ?_ ?_ | intro _ | with_reducible exact True.intro | exact rfl | with_reducible exact Or.inl rfl | with_reducible exact Or.inr rfl | exact Nat.le_of_ble_eq_true rfl)
    all_goals (try simp (disch := omega) only [InI, Int.toNat_natCast, Int.tmod_eq_emod_of_nonneg, Int.tdiv_eq_ediv_of_nonneg, true_implies, true_or, or_true, mm_l18, mm_l19, mm_l20, mm_l21, mm_l22] at *)
    all_goals first | omega | exact qa _ _ (by assumption) | exact q1 (by assumption) | exact q2 (by assumption) | skip
  · exact h.elim
theorem me_L_cursor {l : Launch} (hl : l.stackTraces = false) : mm_Met l yL_cursor cL_cursor 5 (some .int) [(0, 11, 14, 19)] 10 187 2 sp_L_cursor := mm_mtH rn_L_cursor ⟨by decide, rfl⟩ kkL_cursor rfl (by decide) (⟨mm_pe (me_X3_cursor hl) mwX3_cursor (mm_t5 228 rfl rfl) (Nat.le_of_ble_eq_true rfl) (Nat.le_of_ble_eq_true rfl), trivial⟩)
def sp_L_cursorSet : mm_S := fun av M d Q => match av with
  | [.inr (.inr (.inl x)), .inl p0, .inr (.inr (.inl o))] =>  x = 1 ∧ o = 23 ∧ wA M ∧ InI p0 ∧ ∀ M1 M' e r, hlP M M1 M' e r → C_cursorSet p0 M M1 e r → Q (.inl (some (mm_I e))) M' d
  | _ => False
def ct_L_cursorSet : List (Nat × mm_Ca) := [(126, (0, 2, 10, sp_X3_cursorSet, 1))]
abbrev rr_L_cursorSet (Q : mm_Q) := mm_run (mm_look flL) (mm_look ct_L_cursorSet) mm_x0 (mm_look ([] : List (Nat × Int))) (fun _ => none) 1 1 (mm_hn [(0, 10, 13, 19)]) Q kdL_cursorSet
set_option maxRecDepth 20000 in
theorem rn_L_cursorSet : mm_RNH flL ct_L_cursorSet [] [(0, 10, 13, 19)] 1 1 4 kdL_cursorSet sp_L_cursorSet := by
  intro av M d Q h
  unfold sp_L_cursorSet at h
  split at h
  · rename_i x p0 o
    obtain ⟨rfl, rfl, ha, h0, hq⟩ := h
    have q1 : C_cursorSet p0 M M 1 0 → Q (.inl (some (mm_I 1))) M d := fun hc => hq M M 1 0 (hlP_1 ha (by omega)) hc
    have q2 : C_cursorSet p0 M M 2 0 → Q (.inl (some (mm_I 2))) M d := fun hc => hq M M 2 0 (hlP_1 ha (by omega)) hc
    have qa := fun M' (r : Int) (h : cP M M' ∧ InI r ∧ C_cursorSet p0 M M' 0 r) => hq M' _ 0 r (hlP_0 (r := r) h.1) h.2.2
    clear hq
    obtain ⟨K, hK, hK2⟩ : ∃ K : Nat → mm_K, (∀ t ls st M d u, K t ls st M d u → rr_L_cursorSet Q t ls st M d u) ∧ (∀ t ls st M d u, rr_L_cursorSet Q t ls st M d u → K t ls st M d u) := ⟨rr_L_cursorSet Q, fun _ _ _ _ _ _ h => h, fun _ _ _ _ _ _ h => h⟩
    refine ⟨Nat.le_of_ble_eq_true rfl, mm_run_at (stop := []) (S := K) kkL_cursorSet 90 ?_ (fun _ _ _ _ _ _ _ h => hK _ _ _ _ _ _ h)⟩
    repeat' (first | with_reducible assumption | with_reducible exact mm_i1 | with_reducible exact mm_i17 | with_reducible exact mm_i23 | ((with_reducible show mm_rv _ _ _ _ _); first | exact True.intro | exact mm_i1 | exact mm_i17 | exact mm_i23 | refine mm_k0 ?_) | refine mm_k0 ?_ | ((with_reducible show mm_bool _ _); first | exact True.intro | exact Or.inl rfl | exact Or.inr rfl | (show (_ : Int) = 0 ∨ _ = 1)) | refine And.intro ?_ ?_ | intro _ | with_reducible exact True.intro | exact rfl | with_reducible exact Or.inl rfl | with_reducible exact Or.inr rfl | exact Nat.le_of_ble_eq_true rfl)
    all_goals (try simp (disch := omega) only [InI, Int.toNat_natCast, Int.tmod_eq_emod_of_nonneg, Int.tdiv_eq_ediv_of_nonneg, true_implies, true_or, or_true, mm_l18, mm_l19, mm_l20, mm_l21, mm_l22] at *)
    all_goals first | omega | exact qa _ _ (by assumption) | exact q1 (by assumption) | exact q2 (by assumption) | skip
  · exact h.elim
theorem me_L_cursorSet {l : Launch} (hl : l.stackTraces = false) : mm_Met l yL_cursorSet cL_cursorSet 4 (some .int) [(0, 10, 13, 19)] 11 212 1 sp_L_cursorSet := mm_mtH rn_L_cursorSet ⟨by decide, rfl⟩ kkL_cursorSet rfl (by decide) (⟨mm_pe (me_X3_cursorSet hl) mwX3_cursorSet (mm_t5 239 rfl rfl) (Nat.le_of_ble_eq_true rfl) (Nat.le_of_ble_eq_true rfl), trivial⟩)
def sp_L_cursorAdd : mm_S := fun av M d Q => match av with
  | [.inr (.inr (.inl x)), .inl p0, .inr (.inr (.inl o))] =>  x = 1 ∧ o = 23 ∧ wA M ∧ InI p0 ∧ ∀ M1 M' e r, hlP M M1 M' e r → C_cursorAdd p0 M M1 e r → Q (.inl (some (mm_I e))) M' d
  | _ => False
def ct_L_cursorAdd : List (Nat × mm_Ca) := [(129, (0, 2, 10, sp_X3_cursorAdd, 1))]
abbrev rr_L_cursorAdd (Q : mm_Q) := mm_run (mm_look flL) (mm_look ct_L_cursorAdd) mm_x0 (mm_look ([] : List (Nat × Int))) (fun _ => none) 1 1 (mm_hn [(0, 10, 13, 19)]) Q kdL_cursorAdd
set_option maxRecDepth 20000 in
theorem rn_L_cursorAdd : mm_RNH flL ct_L_cursorAdd [] [(0, 10, 13, 19)] 1 1 4 kdL_cursorAdd sp_L_cursorAdd := by
  intro av M d Q h
  unfold sp_L_cursorAdd at h
  split at h
  · rename_i x p0 o
    obtain ⟨rfl, rfl, ha, h0, hq⟩ := h
    have q1 : C_cursorAdd p0 M M 1 0 → Q (.inl (some (mm_I 1))) M d := fun hc => hq M M 1 0 (hlP_1 ha (by omega)) hc
    have q2 : C_cursorAdd p0 M M 2 0 → Q (.inl (some (mm_I 2))) M d := fun hc => hq M M 2 0 (hlP_1 ha (by omega)) hc
    have qa := fun M' (r : Int) (h : cP M M' ∧ InI r ∧ C_cursorAdd p0 M M' 0 r) => hq M' _ 0 r (hlP_0 (r := r) h.1) h.2.2
    clear hq
    obtain ⟨K, hK, hK2⟩ : ∃ K : Nat → mm_K, (∀ t ls st M d u, K t ls st M d u → rr_L_cursorAdd Q t ls st M d u) ∧ (∀ t ls st M d u, rr_L_cursorAdd Q t ls st M d u → K t ls st M d u) := ⟨rr_L_cursorAdd Q, fun _ _ _ _ _ _ h => h, fun _ _ _ _ _ _ h => h⟩
    refine ⟨Nat.le_of_ble_eq_true rfl, mm_run_at (stop := []) (S := K) kkL_cursorAdd 90 ?_ (fun _ _ _ _ _ _ _ h => hK _ _ _ _ _ _ h)⟩
    repeat' (first | with_reducible assumption | with_reducible exact mm_i1 | with_reducible exact mm_i17 | with_reducible exact mm_i23 | ((with_reducible show mm_rv _ _ _ _ _); first | exact True.intro | exact mm_i1 | exact mm_i17 | exact mm_i23 | refine mm_k0 ?_) | refine mm_k0 ?_ | ((with_reducible show mm_bool _ _); first | exact True.intro | exact Or.inl rfl | exact Or.inr rfl | (show (_ : Int) = 0 ∨ _ = 1)) | refine And.intro ?_ ?_ | intro _ | with_reducible exact True.intro | exact rfl | with_reducible exact Or.inl rfl | with_reducible exact Or.inr rfl | exact Nat.le_of_ble_eq_true rfl)
    all_goals (try simp (disch := omega) only [InI, Int.toNat_natCast, Int.tmod_eq_emod_of_nonneg, Int.tdiv_eq_ediv_of_nonneg, true_implies, true_or, or_true, mm_l18, mm_l19, mm_l20, mm_l21, mm_l22] at *)
    all_goals first | omega | exact qa _ _ (by assumption) | exact q1 (by assumption) | exact q2 (by assumption) | skip
  · exact h.elim
theorem me_L_cursorAdd {l : Launch} (hl : l.stackTraces = false) : mm_Met l yL_cursorAdd cL_cursorAdd 4 (some .int) [(0, 10, 13, 19)] 12 231 1 sp_L_cursorAdd := mm_mtH rn_L_cursorAdd ⟨by decide, rfl⟩ kkL_cursorAdd rfl (by decide) (⟨mm_pe (me_X3_cursorAdd hl) mwX3_cursorAdd (mm_t6 21 rfl rfl) (Nat.le_of_ble_eq_true rfl) (Nat.le_of_ble_eq_true rfl), trivial⟩)
def sp_L_house : mm_S := fun av M d Q => match av with
  | [.inr (.inr (.inl x)), .inl p0, .inr (.inr (.inl o))] =>  x = 1 ∧ o = 23 ∧ wA M ∧ InI p0 ∧ ∀ M1 M' e r, hlP M M1 M' e r → C_house p0 M M1 e r → Q (.inl (some (mm_I e))) M' d
  | _ => False
def ct_L_house : List (Nat × mm_Ca) := [(132, (0, 2, 10, sp_X3_house, 1))]
abbrev rr_L_house (Q : mm_Q) := mm_run (mm_look flL) (mm_look ct_L_house) mm_x0 (mm_look ([] : List (Nat × Int))) (fun _ => none) 1 1 (mm_hn [(0, 10, 13, 24)]) Q kdL_house
set_option maxRecDepth 20000 in
theorem rn_L_house : mm_RNH flL ct_L_house [] [(0, 10, 13, 24)] 1 1 4 kdL_house sp_L_house := by
  intro av M d Q h
  unfold sp_L_house at h
  split at h
  · rename_i x p0 o
    obtain ⟨rfl, rfl, ha, h0, hq⟩ := h
    have q1 : C_house p0 M M 1 0 → Q (.inl (some (mm_I 1))) M d := fun hc => hq M M 1 0 (hlP_1 ha (by omega)) hc
    have q2 : C_house p0 M M 2 0 → Q (.inl (some (mm_I 2))) M d := fun hc => hq M M 2 0 (hlP_1 ha (by omega)) hc
    have qa := fun (r : Int) (h : C_house p0 M M 0 r) => hq M _ 0 r (hlP_0 (r := r) ha.rf) h
    clear hq
    obtain ⟨K, hK, hK2⟩ : ∃ K : Nat → mm_K, (∀ t ls st M d u, K t ls st M d u → rr_L_house Q t ls st M d u) ∧ (∀ t ls st M d u, rr_L_house Q t ls st M d u → K t ls st M d u) := ⟨rr_L_house Q, fun _ _ _ _ _ _ h => h, fun _ _ _ _ _ _ h => h⟩
    refine ⟨Nat.le_of_ble_eq_true rfl, mm_run_at (stop := []) (S := K) kkL_house 90 ?_ (fun _ _ _ _ _ _ _ h => hK _ _ _ _ _ _ h)⟩
    repeat' (first | with_reducible assumption | with_reducible exact mm_i1 | with_reducible exact mm_i17 | with_reducible exact mm_i23 | ((with_reducible show mm_rv _ _ _ _ _); first | exact True.intro | exact mm_i1 | exact mm_i17 | exact mm_i23 | refine mm_k1 ?_) | refine mm_k1 ?_ | ((with_reducible show mm_bool _ _); first | exact True.intro | exact Or.inl rfl | exact Or.inr rfl | (show (_ : Int) = 0 ∨ _ = 1)) | refine And.intro ?_ ?_ | intro _ | with_reducible exact True.intro | exact rfl | with_reducible exact Or.inl rfl | with_reducible exact Or.inr rfl | exact Nat.le_of_ble_eq_true rfl)
    all_goals (try simp (disch := omega) only [InI, Int.toNat_natCast, Int.tmod_eq_emod_of_nonneg, Int.tdiv_eq_ediv_of_nonneg, true_implies, true_or, or_true, mm_l18, mm_l19, mm_l20, mm_l21, mm_l22] at *)
    all_goals first | omega | exact qa _ (by assumption) | exact q1 (by assumption) | exact q2 (by assumption) | skip
  · exact h.elim
theorem me_L_house {l : Launch} (hl : l.stackTraces = false) : mm_Met l yL_house cL_house 4 (some .int) [(0, 10, 13, 24)] 8 143 1 sp_L_house := mm_mtH rn_L_house ⟨by decide, rfl⟩ kkL_house rfl (by decide) (⟨mm_pe (me_X3_house hl) mwX3_house (mm_t6 37 rfl rfl) (Nat.le_of_ble_eq_true rfl) (Nat.le_of_ble_eq_true rfl), trivial⟩)
end
section
/-! the law's own stretches: steps for one Z; the invariant of its loop -/
def mm_QF : mm_Q := fun _ _ _ => False
/-- Z holds wherever a step of the law's code leads to Z -/
def mm_CZ (l : Launch) (SC : Nat → Option (Nat × (Nat → Int32))) (MU : Nat) (Z : Nat → mm_K) : Prop :=
  ∀ (cd : List mm_E) (ct : List (Nat × mm_Ca)), mm_chk code cd = true → mm_PEs l RL (mm_rm 2048 84000 0) ct → ∀ pc i t rest ls st M d u Kn Kj, mm_at pc cd = (pc, i, t) :: rest →
    mm_op (mm_look flL) (mm_look ct) mm_x0 (mm_look ([] : List (Nat × Int))) SC 0 MU (fun _ _ => none) mm_QF pc i t rest ls st M d u Kn Kj →
    (∀ ls st M d u, Kn ls st M d u → Z (pc + mm_len i) ls st M d u) → (∀ t ls st M d u, Kj t ls st M d u → Z t ls st M d u) → Z pc ls st M d u
section WZ
variable {l : Launch} {SC : Nat → Option (Nat × (Nat → Int32))} {MU : Nat} {Z : Nat → mm_K} {cd : List mm_E} {ct : List (Nat × mm_Ca)} {stop : List Nat}
theorem mm_wpZ (hC : mm_CZ l SC MU Z) (hk : mm_chk code cd = true) (hPE : mm_PEs l RL (mm_rm 2048 84000 0) ct) :
    ∀ (n : Nat) (r : List mm_E), (∃ pre, cd = pre ++ r) → ∀ ls st M d u, mm_wp (mm_look flL) (mm_look ct) mm_x0 (mm_look ([] : List (Nat × Int))) SC 0 MU (fun _ _ => none) mm_QF cd stop Z n r ls st M d u → Z (mm_hd r) ls st M d u
  | 0, r, hs, ls, st, M, d, u, h => by simp [mm_wp] at h
  | n + 1, [], hs, ls, st, M, d, u, h => by simp [mm_wp] at h
  | n + 1, (pc, i, t) :: rest, ⟨pre, hs⟩, ls, st, M, d, u, h => by
    have hk' := hk
    rw [hs] at hk'
    have hat : mm_at pc cd = (pc, i, t) :: rest := by
      rw [hs]
      exact mm_at_app pre (pc, i, t) rest hk'
    refine hC cd ct hk hPE pc i t rest ls st M d u _ _ hat h (fun ls st M d u h1 => ?_) (fun t ls st M d u h1 => ?_)
    · cases rest with
      | nil => exact h1.elim
      | cons q r =>
        have hq : q.1 = pc + mm_len i := eq_of_beq (mm_chk_cons (mm_chk_app pre _ hk')).2.2.1
        rw [← hq]
        simp only [mm_nxt] at h1
        cases e : mm_in q.1 stop
        · rw [e] at h1
          exact mm_wpZ hC hk hPE n (q :: r) ⟨pre ++ [(pc, i, t)], by rw [hs]; simp⟩ ls st M d u h1
        · rw [e] at h1
          exact h1
    · simp only [mm_jmp] at h1
      cases e : mm_in t stop
      · rw [e] at h1
        simp only [cond_false] at h1
        cases ha : mm_at t cd with
        | nil =>
          rw [ha] at h1
          cases n <;> simp [mm_wp] at h1
        | cons q r =>
          rw [ha] at h1
          have h2 := mm_wpZ hC hk hPE n (q :: r) (by have := mm_at_suf t cd; rw [ha] at this; exact this) ls st M d u h1
          have h3 : q.1 = t := mm_at_hd t cd q r ha
          rw [← h3]
          exact h2
      · rw [e] at h1
        exact h1
theorem mm_wpZ_at {pc : Nat} {ls : mm_Ls} {st : List mm_V} {M : mm_M} {d : List Nat} {u : Nat} (hC : mm_CZ l SC MU Z) (hk : mm_chk code cd = true) (hPE : mm_PEs l RL (mm_rm 2048 84000 0) ct) (n : Nat)
    (h : mm_wp (mm_look flL) (mm_look ct) mm_x0 (mm_look ([] : List (Nat × Int))) SC 0 MU (fun _ _ => none) mm_QF cd stop Z n (mm_at pc cd) ls st M d u) : Z pc ls st M d u := by
  have h1 := mm_wpZ hC hk hPE n (mm_at pc cd) (mm_at_suf pc cd) ls st M d u h
  cases ha : mm_at pc cd with
  | nil =>
    rw [ha] at h
    cases n <;> simp [mm_wp] at h
  | cons q r =>
    rw [ha] at h1
    have h3 : q.1 = pc := mm_at_hd pc cd q r ha
    rw [← h3]
    exact h1
end WZ
theorem mm_sc {SC : Nat → Option (Nat × (Nat → Int32))} {b L : Nat} {xs : Nat → Int32} {P : Nat → (Nat → Int32) → Prop} (h : SC b = some (L, xs)) (hp : P L xs) : (match SC b with | some (n, xs) => P n xs | none => False) := by
  rw [h]
  exact hp
theorem hxI (x : Int32) : InI x.toInt := ⟨Int32.le_toInt x, by have := Int32.toInt_lt x; omega⟩
/-- the loop's invariant: both sides in order, the same to the eye; at most n knocks -/
def LI (n : Nat) (M : mm_M) : Prop := wA M ∧ xA M ∧ (SE M (vX M) ∧ WI M) ∧ 0 ≤ M 1 6 ∧ M 1 6 ≤ n
theorem LI.up {n : Nat} {M : mm_M} (h : LI n M) : LI (n + 1) M := ⟨h.1, h.2.1, h.2.2.1, h.2.2.2.1, by have := h.2.2.2.2; omega⟩
theorem se_kp {A B : mm_M} (h : ∀ o, 1 ≤ o → o ≤ 16 → B o = A o) : SE A B := ⟨.of (h 2 (by omega) (by omega)) (h 3 (by omega) (by omega)) (h 4 (by omega) (by omega)), fun w hw => by
  have hl := isK_le hw.k
  exact .of (h w (by omega) (by omega)) (h (w + 1) (by omega) (by omega)), .of (h 16 (by omega) (by omega)), .of (h 1 (by omega) (by omega))⟩
theorem hl_v {M M1 M2 : mm_M} (h1 : cP M M1) (h2 : ∀ o, o ≠ 23 → M2 o = M1 o) : vX M2 = vX M := vX_kp (fun o a b => by rw [h2 o (by omega)]; exact h1.2.1 o (Or.inr (by omega)))
theorem hl_x {n : Nat} {M M1 M2 : mm_M} (hI : LI n M) (h1 : cP M M1) (h2 : ∀ o, o ≠ 23 → M2 o = M1 o) : xA M2 := hI.2.1.kp (fun o a b => by rw [h2 o (by omega)]; exact h1.2.1 o (Or.inr (by omega)))
theorem LI.step {n : Nat} {M M1 M2 M' : mm_M} (hI : LI n M) (h1 : cP M M1) (h2 : ∀ o, o ≠ 23 → M2 o = M1 o) (h3 : xP M2 M') (hS : SE M1 (vX M')) (hW : WI M1) : LI (n + 1) M' := by
  have e : ∀ o, 1 ≤ o → o ≤ 16 → M' o = M1 o := fun o _ b => by rw [h3.1 o (Or.inl (by omega)), h2 o (by omega)]
  have e6 : M' 1 6 = M 1 6 := by rw [e 1 (by omega) (by omega)]; exact h1.2.2
  have hk := hI.2.2.2
  exact ⟨h1.1.kp e, h3.a, ⟨(se_kp e).sy.tr hS, (WI_te (se_kp e).t).mp hW⟩, by rw [e6]; exact hk.1, by rw [e6]; omega⟩
/-- texts, and what nobody sees -/
theorem LI.q {n : Nat} {M M1 M2 M' : mm_M} (hI : LI n M) (h1 : cP M M1) (h2 : ∀ o, o ≠ 23 → M2 o = M1 o) (h3 : xP M2 M') (hs : SE M M1) (hm : SE (vX M2) (vX M')) : LI (n + 1) M' := by
  rw [hl_v h1 h2] at hm
  exact hI.step h1 h2 h3 (hI.2.2.1.1.ends hs hm) (WT_s hs hI.2.2.1.2)
theorem LI.knock {n : Nat} {M M1 : mm_M} (hI : LI n M) (ha : wA M1) (hF : cF M M1) (h6 : M1 1 6 = M 1 6 + 1) (hc : C_knock M M1 0 (M 1 6 + 1)) : M1 17 16 = M 1 6 ∧ LI (n + 1) (mm_up (mm_up M1 17 0 0) 17 16 (M1 17 16 + 1)) := by
  have e17 : M1 17 = M 17 := hF 17 (Or.inr (by omega))
  have hn : M 1 6 = M 17 16 := hI.2.2.1.1.2.2.2.2.2
  obtain ⟨M3, e3⟩ : ∃ M3, M3 = mm_up (mm_up M1 17 0 0) 17 16 (M1 17 16 + 1) := ⟨_, rfl⟩
  have ev1 : vX M1 = vX M := vX_kp (fun o a b => hF o (Or.inr (by omega)))
  have ev : vX M3 = mm_up (vX M) 1 6 (vX M 1 6 + 1) := by rw [e3, vX_u16, vX_u0, ev1, e17]; rfl
  have e : ∀ o, 1 ≤ o → o ≤ 16 → M3 o = M1 o := fun o _ b => by rw [e3, mm_up_o _ (by omega), mm_up_o _ (by omega)]
  have hx : xA M3 := by
    have h4 := hI.2.1
    refine ⟨?_, by rw [e3, mm_up_ob2 (by omega), mm_up_ob2 (by omega), e17]; exact h4.2⟩
    rw [ev]
    refine ⟨?_, fun w hw => ?_, h4.1.2.2.to (mm_up_o _ (by omega)) (fun h1 _ => ?_)⟩
    · have ht := h4.1.1
      unfold tW at *
      rw [mm_up_o 2 (by omega), mm_up_o 3 (by omega), mm_up_o 4 (by omega)]
      exact ht
    · have := isK_le hw.k
      exact wV.me (h4.1.2.1 w hw) (mm_up_o _ (by omega)) (mm_up_o _ (by omega)) (mm_up_o _ (by omega))
    · have := isK_le (h4.1.2.2.1.resolve_left h1).k
      rw [mm_up_o _ (by omega)]
      exact Int.le_refl _
  have hd := D_knock hI.2.2.1.1 hc (U' := vX M3) (e' := 0) (r' := vX M 1 6 + 1) ⟨rfl, rfl, by rw [ev]; exact SE.rf⟩
  have hk := hI.2.2.2
  have e6 : M3 1 6 = M 1 6 + 1 := by rw [e 1 (by omega) (by omega)]; exact h6
  have hW : WI M1 := WT_s hc.2.2 (WI_2 (by rw [mm_up_o _ (by omega)]) (by rw [mm_up_o _ (by omega)]) (by rw [mm_up_o _ (by omega)]) hI.2.2.1.2)
  rw [← e3]
  exact ⟨by rw [e17, ← hn], ha.kp e, hx, ⟨(se_kp e).sy.tr hd.2.2.2, (WI_te (se_kp e).t).mp hW⟩, by omega, by omega⟩
end
section
/-! a call on both sides: what it leaves, what both tell -/
theorem W_lay {p0 p1 : Int} {V V' : mm_M} {e r : Int} (hV : wA V) (h : C_lay p0 p1 V V' e r) : WT V V' := ok1_W h (fun _ h => no9_W h (fun _ h => fun _ => WT_cn h.2 (WI_0 (by simp [addS, endM, mm_up]))))
theorem P_lay {p0 p1 : Int} {n : Nat} {M M1 M2 M' : mm_M} {e r r' : Int} (hI : LI n M) (h1 : cP M M1) (h2 : ∀ o, o ≠ 23 → M2 o = M1 o) (hc : C_lay p0 p1 M M1 e r) (h3 : xP M2 M') (hx : C_lay p0 p1 (vX M2) (vX M') (M' 17 0) r') : LI (n + 1) M' ∧ M' 17 0 = e ∧ (e = 0 → r = r') := by
  rw [hl_v h1 h2] at hx
  obtain ⟨d1, d2, d3, d4⟩ := D_lay hI.1 hI.2.2.1.1 hc hx
  exact ⟨hI.step h1 h2 h3 d4 (W_lay hI.1 hc hI.2.2.1.2), d1.symm, d3⟩
theorem W_layRing {p0 p1 : Int} {V V' : mm_M} {e r : Int} (hV : wA V) (h : C_layRing p0 p1 V V' e r) : WT V V' := ok1_W h (fun _ h => no9_W h (fun _ h => fun _ => by
    obtain ⟨_, V1, h2, h3⟩ := h
    exact WT_cn h3 (WI_0 (by rw [h2.2.1 6 (by omega)]; simp [endM, mm_up]))))
theorem P_layRing {p0 p1 : Int} {n : Nat} {M M1 M2 M' : mm_M} {e r r' : Int} (hI : LI n M) (h1 : cP M M1) (h2 : ∀ o, o ≠ 23 → M2 o = M1 o) (hc : C_layRing p0 p1 M M1 e r) (h3 : xP M2 M') (hx : C_layRing p0 p1 (vX M2) (vX M') (M' 17 0) r') : LI (n + 1) M' ∧ M' 17 0 = e ∧ (e = 0 → r = r') := by
  rw [hl_v h1 h2] at hx
  obtain ⟨d1, d2, d3, d4⟩ := D_layRing hI.1 hI.2.2.1.1 hc hx
  exact ⟨hI.step h1 h2 h3 d4 (W_layRing hI.1 hc hI.2.2.1.2), d1.symm, d3⟩
theorem W_words {p0 p1 : Int} {V V' : mm_M} {e r : Int} (hV : wA V) (h : C_words p0 p1 V V' e r) : WT V V' := ok1_W h (fun _ h => no9_W h (fun _ h => fun _ => by
    obtain ⟨_, V1, h2, h3⟩ := h
    refine WT_cn h3 (fun _ => ?_)
    rw [h2.2.1, h2.2.2.2.1, h2.2.2.2.2.1]
    exact Int.le_refl _))
theorem P_words {p0 p1 : Int} {n : Nat} {M M1 M2 M' : mm_M} {e r r' : Int} (hI : LI n M) (h1 : cP M M1) (h2 : ∀ o, o ≠ 23 → M2 o = M1 o) (hc : C_words p0 p1 M M1 e r) (h3 : xP M2 M') (hx : C_words p0 p1 (vX M2) (vX M') (M' 17 0) r') : LI (n + 1) M' ∧ M' 17 0 = e ∧ (e = 0 → r = r') := by
  rw [hl_v h1 h2] at hx
  obtain ⟨d1, d2, d3, d4⟩ := D_words hI.2.2.1.1 hc hx
  exact ⟨hI.step h1 h2 h3 d4 (W_words hI.1 hc hI.2.2.1.2), d1.symm, d3⟩
theorem W_close {p0 : Int} {V V' : mm_M} {e r : Int} (hV : wA V) (h : C_close p0 V V' e r) : WT V V' := ok1_W h (fun _ h => no9_W h (fun _ h => fun _ => by
    obtain ⟨_, V1, h2, h3⟩ := h
    exact WT_cn h3 (WI_0 h2.2.2.2.2.1)))
theorem P_close {p0 : Int} {n : Nat} {M M1 M2 M' : mm_M} {e r r' : Int} (hI : LI n M) (h1 : cP M M1) (h2 : ∀ o, o ≠ 23 → M2 o = M1 o) (hc : C_close p0 M M1 e r) (h3 : xP M2 M') (hx : C_close p0 (vX M2) (vX M') (M' 17 0) r') : LI (n + 1) M' ∧ M' 17 0 = e ∧ (e = 0 → r = r') := by
  rw [hl_v h1 h2] at hx
  obtain ⟨d1, d2, d3, d4⟩ := D_close hI.2.2.1.1 hc hx
  exact ⟨hI.step h1 h2 h3 d4 (W_close hI.1 hc hI.2.2.1.2), d1.symm, d3⟩
theorem W_end {p0 p1 : Int} {V V' : mm_M} {e r : Int} (hV : wA V) (h : C_end p0 p1 V V' e r) : WT V V' := ok1_W h (fun _ h => WT_s h.2)
theorem P_end {p0 p1 : Int} {n : Nat} {M M1 M2 M' : mm_M} {e r r' : Int} (hb1 : p1 = 0 ∨ p1 = 1) (hI : LI n M) (h1 : cP M M1) (h2 : ∀ o, o ≠ 23 → M2 o = M1 o) (hc : C_end p0 p1 M M1 e r) (h3 : xP M2 M') (hx : C_end p0 p1 (vX M2) (vX M') (M' 17 0) r') : LI (n + 1) M' ∧ M' 17 0 = e ∧ (e = 0 → r = r') := by
  rw [hl_v h1 h2] at hx
  obtain ⟨d1, d2, d3, d4⟩ := D_end hI.2.2.1.1 hc hx
  exact ⟨hI.step h1 h2 h3 d4 (W_end hI.1 hc hI.2.2.1.2), d1.symm, d3⟩
theorem W_ways {p0 p1 : Int} {V V' : mm_M} {e r : Int} (hV : wA V) (h : C_ways p0 p1 V V' e r) : WT V V' := ok2_W h (fun h => WT_s h.2)
theorem P_ways {p0 p1 : Int} {n : Nat} {M M1 M2 M' : mm_M} {e r r' : Int} (hI : LI n M) (h1 : cP M M1) (h2 : ∀ o, o ≠ 23 → M2 o = M1 o) (hc : C_ways p0 p1 M M1 e r) (h3 : xP M2 M') (hx : C_ways p0 p1 (vX M2) (vX M') (M' 17 0) r') : LI (n + 1) M' ∧ M' 17 0 = e ∧ (e = 0 → r = r') := by
  rw [hl_v h1 h2] at hx
  obtain ⟨d1, d2, d3, d4⟩ := D_ways hI.1 hI.2.2.1.1 hc hx
  exact ⟨hI.step h1 h2 h3 d4 (W_ways hI.1 hc hI.2.2.1.2), d1.symm, d3⟩
theorem W_isStart {p0 : Int} {V V' : mm_M} {e r : Int} (hV : wA V) (h : C_isStart p0 V V' e r) : WT V V' := ok1_W h (fun _ h => WT_s h.2)
theorem P_isStart {p0 : Int} {n : Nat} {M M1 M2 M' : mm_M} {e r r' : Int} (hI : LI n M) (h1 : cP M M1) (h2 : ∀ o, o ≠ 23 → M2 o = M1 o) (hc : C_isStart p0 M M1 e r) (h3 : xP M2 M') (hx : C_isStart p0 (vX M2) (vX M') (M' 17 0) r') : LI (n + 1) M' ∧ M' 17 0 = e ∧ (e = 0 → r = r') := by
  rw [hl_v h1 h2] at hx
  obtain ⟨d1, d2, d3, d4⟩ := D_isStart hI.2.2.1.1 hc hx
  exact ⟨hI.step h1 h2 h3 d4 (W_isStart hI.1 hc hI.2.2.1.2), d1.symm, d3⟩
theorem W_rule {p0 : Int} {V V' : mm_M} {e r : Int} (hV : wA V) (h : C_rule p0 V V' e r) : WT V V' := ok1_W h (fun _ h => WT_s h.2)
theorem P_rule {p0 : Int} {n : Nat} {M M1 M2 M' : mm_M} {e r r' : Int} (hI : LI n M) (h1 : cP M M1) (h2 : ∀ o, o ≠ 23 → M2 o = M1 o) (hc : C_rule p0 M M1 e r) (h3 : xP M2 M') (hx : C_rule p0 (vX M2) (vX M') (M' 17 0) r') : LI (n + 1) M' ∧ M' 17 0 = e ∧ (e = 0 → r = r') := by
  rw [hl_v h1 h2] at hx
  obtain ⟨d1, d2, d3, d4⟩ := D_rule hI.2.2.1.1 hc hx
  exact ⟨hI.step h1 h2 h3 d4 (W_rule hI.1 hc hI.2.2.1.2), d1.symm, d3⟩
theorem W_begin {p0 p1 : Int} {V V' : mm_M} {e r : Int} (hV : wA V) (h : C_begin p0 p1 V V' e r) : WT V V' := ok1_W h (fun hp h => WT_2 (by
    have hl := isK_le (wk3 hp.1).k
    rw [losI_o (by omega)]
    unfold bgM
    rw [mm_up_o _ (by omega), mm_up_o _ (by omega)]) h.2)
theorem P_begin {p0 p1 : Int} {n : Nat} {M M1 M2 M' : mm_M} {e r r' : Int} (hI : LI n M) (h1 : cP M M1) (h2 : ∀ o, o ≠ 23 → M2 o = M1 o) (hc : C_begin p0 p1 M M1 e r) (h3 : xP M2 M') (hx : C_begin p0 p1 (vX M2) (vX M') (M' 17 0) r') : LI (n + 1) M' ∧ M' 17 0 = e ∧ (e = 0 → r = r') := by
  rw [hl_v h1 h2] at hx
  obtain ⟨d1, d2, d3, d4⟩ := D_begin hI.2.2.1.1 hc hx
  exact ⟨hI.step h1 h2 h3 d4 (W_begin hI.1 hc hI.2.2.1.2), d1.symm, d3⟩
theorem W_step {p0 p1 p2 : Int} {V V' : mm_M} {e r : Int} (hV : wA V) (h : C_step p0 p1 p2 V V' e r) : WT V V' := ok1_W h (fun hp h => by
    obtain ⟨V1, h1, h2⟩ := h
    have hl := isK_le (wk3 hp.1).k
    refine WT_2 ?_ h2
    rw [losI_o (by omega)]
    rcases h1 with ⟨_, _, e⟩ | ⟨_, _, e, _⟩
    · rw [e]
    · exact e 2 (by simp; omega))
theorem P_step {p0 p1 p2 : Int} {n : Nat} {M M1 M2 M' : mm_M} {e r r' : Int} (hb2 : p2 = 0 ∨ p2 = 1) (hI : LI n M) (h1 : cP M M1) (h2 : ∀ o, o ≠ 23 → M2 o = M1 o) (hc : C_step p0 p1 p2 M M1 e r) (h3 : xP M2 M') (hx : C_step p0 p1 p2 (vX M2) (vX M') (M' 17 0) r') : LI (n + 1) M' ∧ M' 17 0 = e ∧ (e = 0 → r = r') := by
  rw [hl_v h1 h2] at hx
  obtain ⟨d1, d2, d3, d4⟩ := D_step hI.1 hI.2.2.1.1 hc hx
  exact ⟨hI.step h1 h2 h3 d4 (W_step hI.1 hc hI.2.2.1.2), d1.symm, d3⟩
theorem W_back {p0 p1 : Int} {V V' : mm_M} {e r : Int} (hV : wA V) (h : C_back p0 p1 V V' e r) : WT V V' := ok1_W h (fun hp h => no9_W h (fun _ h => by
    obtain ⟨_, V1, h1, h2⟩ := h
    have hl := isK_le (wk3 hp).k
    exact WT_2 (by rw [losM_o (by omega)]; exact h1.1 2 (by simp; omega)) h2))
theorem P_back {p0 p1 : Int} {n : Nat} {M M1 M2 M' : mm_M} {e r r' : Int} (hb1 : p1 = 0 ∨ p1 = 1) (hI : LI n M) (h1 : cP M M1) (h2 : ∀ o, o ≠ 23 → M2 o = M1 o) (hc : C_back p0 p1 M M1 e r) (h3 : xP M2 M') (hx : C_back p0 p1 (vX M2) (vX M') (M' 17 0) r') : LI (n + 1) M' ∧ M' 17 0 = e ∧ (e = 0 → r = r') := by
  rw [hl_v h1 h2] at hx
  obtain ⟨d1, d2, d3, d4⟩ := D_back hI.1 hI.2.2.1.1 hc hx
  exact ⟨hI.step h1 h2 h3 d4 (W_back hI.1 hc hI.2.2.1.2), d1.symm, d3⟩
theorem W_on {p0 p1 : Int} {V V' : mm_M} {e r : Int} (hV : wA V) (h : C_on p0 p1 V V' e r) : WT V V' := ok1_W h (fun hp h => by
    obtain ⟨V1, n, h1, h2, h3⟩ := h
    have hl := isK_le (wk3 hp).k
    exact WT_2 (by rw [losI_o (by omega)]; exact goR_fr _ _ _ _ h1 2 (by simp; omega)) h3)
theorem P_on {p0 p1 : Int} {n : Nat} {M M1 M2 M' : mm_M} {e r r' : Int} (hb1 : p1 = 0 ∨ p1 = 1) (hI : LI n M) (h1 : cP M M1) (h2 : ∀ o, o ≠ 23 → M2 o = M1 o) (hc : C_on p0 p1 M M1 e r) (h3 : xP M2 M') (hx : C_on p0 p1 (vX M2) (vX M') (M' 17 0) r') : LI (n + 1) M' ∧ M' 17 0 = e ∧ (e = 0 → r = r') := by
  rw [hl_v h1 h2] at hx
  obtain ⟨d1, d2, d3, d4⟩ := D_on hb1 hI.1 hI.2.2.1.1 hc hx
  exact ⟨hI.step h1 h2 h3 d4 (W_on hI.1 hc hI.2.2.1.2), d1.symm, d3⟩
theorem W_complete {p0 p1 : Int} {V V' : mm_M} {e r : Int} (hV : wA V) (h : C_complete p0 p1 V V' e r) : WT V V' := ok1_W h (fun hp h => no9_W h (fun _ h => by
    obtain ⟨V0, V1, n, h0, h1, h2, h3, h4⟩ := h
    have hl := isK_le (wk3 hp).k
    exact WT_2 (by rw [losI_o (by omega), h2 2 (by simp; omega), h0 2 (by simp)]) h4))
theorem P_complete {p0 p1 : Int} {n : Nat} {M M1 M2 M' : mm_M} {e r r' : Int} (hb1 : p1 = 0 ∨ p1 = 1) (hI : LI n M) (h1 : cP M M1) (h2 : ∀ o, o ≠ 23 → M2 o = M1 o) (hc : C_complete p0 p1 M M1 e r) (h3 : xP M2 M') (hx : C_complete p0 p1 (vX M2) (vX M') (M' 17 0) r') : LI (n + 1) M' ∧ M' 17 0 = e ∧ (e = 0 → r = r') := by
  rw [hl_v h1 h2] at hx
  obtain ⟨d1, d2, d3, d4⟩ := D_complete hb1 hI.1 hI.2.2.1.1 hc hx
  exact ⟨hI.step h1 h2 h3 d4 (W_complete hI.1 hc hI.2.2.1.2), d1.symm, d3⟩
theorem W_splice {p0 p1 p2 : Int} {V V' : mm_M} {e r : Int} (hV : wA V) (h : C_splice p0 p1 p2 V V' e r) : WT V V' := ok1_W h (fun hp h => no9_W h (fun _ h => by
    obtain ⟨_, V1, h1, h2, h3⟩ := h
    have hl := isK_le (wk3 hp.1).k
    have hl2 := isK_le (wk3 hp.2.1).k
    exact WT_2 (by rw [losM_o (by omega), losM_o (by omega)]; exact h2 2 (by simp; omega)) h3))
theorem P_splice {p0 p1 p2 : Int} {n : Nat} {M M1 M2 M' : mm_M} {e r r' : Int} (hI : LI n M) (h1 : cP M M1) (h2 : ∀ o, o ≠ 23 → M2 o = M1 o) (hc : C_splice p0 p1 p2 M M1 e r) (h3 : xP M2 M') (hx : C_splice p0 p1 p2 (vX M2) (vX M') (M' 17 0) r') : LI (n + 1) M' ∧ M' 17 0 = e ∧ (e = 0 → r = r') := by
  rw [hl_v h1 h2] at hx
  obtain ⟨d1, d2, d3, d4⟩ := D_splice hI.1 hI.2.2.1.1 hc hx
  exact ⟨hI.step h1 h2 h3 d4 (W_splice hI.1 hc hI.2.2.1.2), d1.symm, d3⟩
theorem W_join {p0 p1 : Int} {V V' : mm_M} {e r : Int} (hV : wA V) (h : C_join p0 p1 V V' e r) : WT V V' := ok1_W h (fun hp h => no9_W h (fun _ h => by
    obtain ⟨i, j, _, _, V1, V2, h2, h3, h4, h5, h6⟩ := h
    have hl := isK_le (wk3 hp.1).k
    have hl2 := isK_le (wk3 hp.2).k
    exact WT_2 (by rw [losM_o (by omega), losM_o (by omega), h5 2 (by simp; omega)]; exact h3 2 (by simp; omega)) h6))
theorem P_join {p0 p1 : Int} {n : Nat} {M M1 M2 M' : mm_M} {e r r' : Int} (hI : LI n M) (h1 : cP M M1) (h2 : ∀ o, o ≠ 23 → M2 o = M1 o) (hc : C_join p0 p1 M M1 e r) (h3 : xP M2 M') (hx : C_join p0 p1 (vX M2) (vX M') (M' 17 0) r') : LI (n + 1) M' ∧ M' 17 0 = e ∧ (e = 0 → r = r') := by
  rw [hl_v h1 h2] at hx
  obtain ⟨d1, d2, d3, d4⟩ := D_join hI.1 hI.2.2.1.1 hc hx
  exact ⟨hI.step h1 h2 h3 d4 (W_join hI.1 hc hI.2.2.1.2), d1.symm, d3⟩
theorem W_cut {p0 p1 p2 p3 : Int} {V V' : mm_M} {e r : Int} (hV : wA V) (h : C_cut p0 p1 p2 p3 V V' e r) : WT V V' := ok1_W h (fun hp h => no9_W h (fun _ h => by
    obtain ⟨_, V1, h1, h2, h3⟩ := h
    have hl := isK_le (wk3 hp.1).k
    have hl2 := isK_le (wk3 hp.2.1).k
    exact WT_2 (by rw [losM_o (by omega), losM_o (by omega)]; exact h2 2 (by simp; omega)) h3))
theorem P_cut {p0 p1 p2 p3 : Int} {n : Nat} {M M1 M2 M' : mm_M} {e r r' : Int} (hI : LI n M) (h1 : cP M M1) (h2 : ∀ o, o ≠ 23 → M2 o = M1 o) (hc : C_cut p0 p1 p2 p3 M M1 e r) (h3 : xP M2 M') (hx : C_cut p0 p1 p2 p3 (vX M2) (vX M') (M' 17 0) r') : LI (n + 1) M' ∧ M' 17 0 = e ∧ (e = 0 → r = r') := by
  rw [hl_v h1 h2] at hx
  obtain ⟨d1, d2, d3, d4⟩ := D_cut hI.1 hI.2.2.1.1 hc hx
  exact ⟨hI.step h1 h2 h3 d4 (W_cut hI.1 hc hI.2.2.1.2), d1.symm, d3⟩
theorem W_turnRound {p0 : Int} {V V' : mm_M} {e r : Int} (hV : wA V) (h : C_turnRound p0 V V' e r) : WT V V' := ok1_W h (fun hp h => no9_W h (fun _ h => by
    obtain ⟨V1, V2, h1, h2, h3, h4, h5, h6⟩ := h
    have hl := isK_le (wk3 hp).k
    exact WT_2 (by rw [h4 2 (by simp; omega)]; exact h2 2 (by simp; omega)) h6))
theorem P_turnRound {p0 : Int} {n : Nat} {M M1 M2 M' : mm_M} {e r r' : Int} (hI : LI n M) (h1 : cP M M1) (h2 : ∀ o, o ≠ 23 → M2 o = M1 o) (hc : C_turnRound p0 M M1 e r) (h3 : xP M2 M') (hx : C_turnRound p0 (vX M2) (vX M') (M' 17 0) r') : LI (n + 1) M' ∧ M' 17 0 = e ∧ (e = 0 → r = r') := by
  rw [hl_v h1 h2] at hx
  obtain ⟨d1, d2, d3, d4⟩ := D_turnRound hI.1 hI.2.2.1.1 hc hx
  exact ⟨hI.step h1 h2 h3 d4 (W_turnRound hI.1 hc hI.2.2.1.2), d1.symm, d3⟩
theorem W_rotate {p0 p1 : Int} {V V' : mm_M} {e r : Int} (hV : wA V) (h : C_rotate p0 p1 V V' e r) : WT V V' := ok2_W h (fun h => no9_W h (fun _ h => by
    obtain ⟨V1, h1, h2, h3, h4⟩ := h
    refine WT_2 ?_ h4
    rw [losI_o (by omega)]
    exact h2 2 (by unfold wk; simp; omega)))
theorem P_rotate {p0 p1 : Int} {n : Nat} {M M1 M2 M' : mm_M} {e r r' : Int} (hI : LI n M) (h1 : cP M M1) (h2 : ∀ o, o ≠ 23 → M2 o = M1 o) (hc : C_rotate p0 p1 M M1 e r) (h3 : xP M2 M') (hx : C_rotate p0 p1 (vX M2) (vX M') (M' 17 0) r') : LI (n + 1) M' ∧ M' 17 0 = e ∧ (e = 0 → r = r') := by
  rw [hl_v h1 h2] at hx
  obtain ⟨d1, d2, d3, d4⟩ := D_rotate hI.1 hI.2.2.1.1 hc hx
  exact ⟨hI.step h1 h2 h3 d4 (W_rotate hI.1 hc hI.2.2.1.2), d1.symm, d3⟩
theorem W_first {p0 p1 p2 : Int} {V V' : mm_M} {e r : Int} (hV : wA V) (h : C_first p0 p1 p2 V V' e r) : WT V V' := ok1_W h (fun hp h => no9_W h (fun _ h => by
    obtain ⟨V0, V1, V2, n, h0, h1, h2, h3, h4, h5, h6⟩ := h
    have hl := isK_le (wk3 hp.1).k
    refine WT_2 ?_ h6
    rw [h4 2 (by simp), h2 2 (by simp; omega)]
    unfold bgM
    rw [mm_up_o _ (by omega), mm_up_o _ (by omega), h0 2 (by simp)]))
theorem P_first {p0 p1 p2 : Int} {n : Nat} {M M1 M2 M' : mm_M} {e r r' : Int} (hb2 : p2 = 0 ∨ p2 = 1) (hI : LI n M) (h1 : cP M M1) (h2 : ∀ o, o ≠ 23 → M2 o = M1 o) (hc : C_first p0 p1 p2 M M1 e r) (h3 : xP M2 M') (hx : C_first p0 p1 p2 (vX M2) (vX M') (M' 17 0) r') : LI (n + 1) M' ∧ M' 17 0 = e ∧ (e = 0 → r = r') := by
  rw [hl_v h1 h2] at hx
  obtain ⟨d1, d2, d3, d4⟩ := D_first hb2 hI.1 hI.2.2.1.1 hc hx
  exact ⟨hI.step h1 h2 h3 d4 (W_first hI.1 hc hI.2.2.1.2), d1.symm, d3⟩
theorem W_next {p0 p1 : Int} {V V' : mm_M} {e r : Int} (hV : wA V) (h : C_next p0 p1 V V' e r) : WT V V' := ok1_W h (fun hp h => no9_W h (fun _ h => by
    obtain ⟨V1, V2, q, h1, h2, h3, h4, h5⟩ := h
    have hl := isK_le (wk3 hp).k
    refine no9_W h5 (fun _ h => ?_)
    obtain ⟨_, V3, b2, b3, b4⟩ := h
    exact WT_2 (by rw [losM_o (by omega), b3 2 (by simp; omega), h4 2 (by simp), h2 2 (by simp)]) b4))
theorem P_next {p0 p1 : Int} {n : Nat} {M M1 M2 M' : mm_M} {e r r' : Int} (hb1 : p1 = 0 ∨ p1 = 1) (hI : LI n M) (h1 : cP M M1) (h2 : ∀ o, o ≠ 23 → M2 o = M1 o) (hc : C_next p0 p1 M M1 e r) (h3 : xP M2 M') (hx : C_next p0 p1 (vX M2) (vX M') (M' 17 0) r') : LI (n + 1) M' ∧ M' 17 0 = e ∧ (e = 0 → r = r') := by
  rw [hl_v h1 h2] at hx
  obtain ⟨d1, d2, d3, d4⟩ := D_next hb1 hI.1 hI.2.2.1.1 hc hx
  exact ⟨hI.step h1 h2 h3 d4 (W_next hI.1 hc hI.2.2.1.2), d1.symm, d3⟩
theorem W_copy {p0 p1 : Int} {V V' : mm_M} {e r : Int} (hV : wA V) (h : C_copy p0 p1 V V' e r) : WT V V' := ok1_W h (fun hp h => no9_W h (fun _ h => by
    obtain ⟨_, V0, V1, h2, h3, h4, h5⟩ := h
    have hl := isK_le (wk3 hp.2).k
    exact WT_2 (by rw [h4 2 (by simp; omega), h2, losI_o (by omega)]) h5))
theorem P_copy {p0 p1 : Int} {n : Nat} {M M1 M2 M' : mm_M} {e r r' : Int} (hI : LI n M) (h1 : cP M M1) (h2 : ∀ o, o ≠ 23 → M2 o = M1 o) (hc : C_copy p0 p1 M M1 e r) (h3 : xP M2 M') (hx : C_copy p0 p1 (vX M2) (vX M') (M' 17 0) r') : LI (n + 1) M' ∧ M' 17 0 = e ∧ (e = 0 → r = r') := by
  rw [hl_v h1 h2] at hx
  obtain ⟨d1, d2, d3, d4⟩ := D_copy hI.2.2.1.1 hc hx
  exact ⟨hI.step h1 h2 h3 d4 (W_copy hI.1 hc hI.2.2.1.2), d1.symm, d3⟩
theorem W_length {p0 : Int} {V V' : mm_M} {e r : Int} (hV : wA V) (h : C_length p0 V V' e r) : WT V V' := ok1_W h (fun _ h => WT_s h.2)
theorem P_length {p0 : Int} {n : Nat} {M M1 M2 M' : mm_M} {e r r' : Int} (hI : LI n M) (h1 : cP M M1) (h2 : ∀ o, o ≠ 23 → M2 o = M1 o) (hc : C_length p0 M M1 e r) (h3 : xP M2 M') (hx : C_length p0 (vX M2) (vX M') (M' 17 0) r') : LI (n + 1) M' ∧ M' 17 0 = e ∧ (e = 0 → r = r') := by
  rw [hl_v h1 h2] at hx
  obtain ⟨d1, d2, d3, d4⟩ := D_length hI.2.2.1.1 hc hx
  exact ⟨hI.step h1 h2 h3 d4 (W_length hI.1 hc hI.2.2.1.2), d1.symm, d3⟩
theorem W_cornerAt {p0 p1 : Int} {V V' : mm_M} {e r : Int} (hV : wA V) (h : C_cornerAt p0 p1 V V' e r) : WT V V' := ok1_W h (fun _ h => WT_s h.2)
theorem P_cornerAt {p0 p1 : Int} {n : Nat} {M M1 M2 M' : mm_M} {e r r' : Int} (hI : LI n M) (h1 : cP M M1) (h2 : ∀ o, o ≠ 23 → M2 o = M1 o) (hc : C_cornerAt p0 p1 M M1 e r) (h3 : xP M2 M') (hx : C_cornerAt p0 p1 (vX M2) (vX M') (M' 17 0) r') : LI (n + 1) M' ∧ M' 17 0 = e ∧ (e = 0 → r = r') := by
  rw [hl_v h1 h2] at hx
  obtain ⟨d1, d2, d3, d4⟩ := D_cornerAt hI.1 hI.2.2.1.1 hc hx
  exact ⟨hI.step h1 h2 h3 d4 (W_cornerAt hI.1 hc hI.2.2.1.2), d1.symm, d3⟩
theorem W_stepAt {p0 p1 : Int} {V V' : mm_M} {e r : Int} (hV : wA V) (h : C_stepAt p0 p1 V V' e r) : WT V V' := ok1_W h (fun _ h => WT_s h.2)
theorem P_stepAt {p0 p1 : Int} {n : Nat} {M M1 M2 M' : mm_M} {e r r' : Int} (hI : LI n M) (h1 : cP M M1) (h2 : ∀ o, o ≠ 23 → M2 o = M1 o) (hc : C_stepAt p0 p1 M M1 e r) (h3 : xP M2 M') (hx : C_stepAt p0 p1 (vX M2) (vX M') (M' 17 0) r') : LI (n + 1) M' ∧ M' 17 0 = e ∧ (e = 0 → r = r') := by
  rw [hl_v h1 h2] at hx
  obtain ⟨d1, d2, d3, d4⟩ := D_stepAt hI.2.2.1.1 hc hx
  exact ⟨hI.step h1 h2 h3 d4 (W_stepAt hI.1 hc hI.2.2.1.2), d1.symm, d3⟩
theorem W_find {p0 p1 : Int} {V V' : mm_M} {e r : Int} (hV : wA V) (h : C_find p0 p1 V V' e r) : WT V V' := ok1_W h (fun _ h => WT_s h.2)
theorem P_find {p0 p1 : Int} {n : Nat} {M M1 M2 M' : mm_M} {e r r' : Int} (hI : LI n M) (h1 : cP M M1) (h2 : ∀ o, o ≠ 23 → M2 o = M1 o) (hc : C_find p0 p1 M M1 e r) (h3 : xP M2 M') (hx : C_find p0 p1 (vX M2) (vX M') (M' 17 0) r') : LI (n + 1) M' ∧ M' 17 0 = e ∧ (e = 0 → r = r') := by
  rw [hl_v h1 h2] at hx
  obtain ⟨d1, d2, d3, d4⟩ := D_find hI.2.2.1.1 hc hx
  exact ⟨hI.step h1 h2 h3 d4 (W_find hI.1 hc hI.2.2.1.2), d1.symm, d3⟩
theorem W_is {p0 p1 : Int} {V V' : mm_M} {e r : Int} (hV : wA V) (h : C_is p0 p1 V V' e r) : WT V V' := ok1_W h (fun _ h => WT_s h.2)
theorem P_is {p0 p1 : Int} {n : Nat} {M M1 M2 M' : mm_M} {e r r' : Int} (hb1 : p1 = 0 ∨ p1 = 1) (hI : LI n M) (h1 : cP M M1) (h2 : ∀ o, o ≠ 23 → M2 o = M1 o) (hc : C_is p0 p1 M M1 e r) (h3 : xP M2 M') (hx : C_is p0 p1 (vX M2) (vX M') (M' 17 0) r') : LI (n + 1) M' ∧ M' 17 0 = e ∧ (e = 0 → r = r') := by
  rw [hl_v h1 h2] at hx
  obtain ⟨d1, d2, d3, d4⟩ := D_is hI.1 hI.2.2.1.1 hc hx
  exact ⟨hI.step h1 h2 h3 d4 (W_is hI.1 hc hI.2.2.1.2), d1.symm, d3⟩
theorem W_same {p0 p1 : Int} {V V' : mm_M} {e r : Int} (hV : wA V) (h : C_same p0 p1 V V' e r) : WT V V' := ok1_W h (fun _ h => WT_s h.2)
theorem P_same {p0 p1 : Int} {n : Nat} {M M1 M2 M' : mm_M} {e r r' : Int} (hI : LI n M) (h1 : cP M M1) (h2 : ∀ o, o ≠ 23 → M2 o = M1 o) (hc : C_same p0 p1 M M1 e r) (h3 : xP M2 M') (hx : C_same p0 p1 (vX M2) (vX M') (M' 17 0) r') : LI (n + 1) M' ∧ M' 17 0 = e ∧ (e = 0 → r = r') := by
  rw [hl_v h1 h2] at hx
  obtain ⟨d1, d2, d3, d4⟩ := D_same hI.2.2.1.1 hc hx
  exact ⟨hI.step h1 h2 h3 d4 (W_same hI.1 hc hI.2.2.1.2), d1.symm, d3⟩
theorem W_turnOf {p0 p1 : Int} {V V' : mm_M} {e r : Int} (hV : wA V) (h : C_turnOf p0 p1 V V' e r) : WT V V' := ok1_W h (fun _ h => WT_s h.2)
theorem P_turnOf {p0 p1 : Int} {n : Nat} {M M1 M2 M' : mm_M} {e r r' : Int} (hI : LI n M) (h1 : cP M M1) (h2 : ∀ o, o ≠ 23 → M2 o = M1 o) (hc : C_turnOf p0 p1 M M1 e r) (h3 : xP M2 M') (hx : C_turnOf p0 p1 (vX M2) (vX M') (M' 17 0) r') : LI (n + 1) M' ∧ M' 17 0 = e ∧ (e = 0 → r = r') := by
  rw [hl_v h1 h2] at hx
  obtain ⟨d1, d2, d3, d4⟩ := D_turnOf hI.1 hI.2.2.1.1 hc hx
  exact ⟨hI.step h1 h2 h3 d4 (W_turnOf hI.1 hc hI.2.2.1.2), d1.symm, d3⟩
theorem W_wordAt {p0 p1 p2 : Int} {V V' : mm_M} {e r : Int} (hV : wA V) (h : C_wordAt p0 p1 p2 V V' e r) : WT V V' := ok2_W h (fun h => WT_s h.2)
theorem P_wordAt {p0 p1 p2 : Int} {n : Nat} {M M1 M2 M' : mm_M} {e r r' : Int} (hI : LI n M) (h1 : cP M M1) (h2 : ∀ o, o ≠ 23 → M2 o = M1 o) (hc : C_wordAt p0 p1 p2 M M1 e r) (h3 : xP M2 M') (hx : C_wordAt p0 p1 p2 (vX M2) (vX M') (M' 17 0) r') : LI (n + 1) M' ∧ M' 17 0 = e ∧ (e = 0 → r = r') := by
  rw [hl_v h1 h2] at hx
  obtain ⟨d1, d2, d3, d4⟩ := D_wordAt hI.2.2.1.2 hI.2.2.1.1 hc hx
  exact ⟨hI.step h1 h2 h3 d4 (W_wordAt hI.1 hc hI.2.2.1.2), d1.symm, d3⟩
theorem W_cursor {p0 p1 : Int} {V V' : mm_M} {e r : Int} (hV : wA V) (h : C_cursor p0 p1 V V' e r) : WT V V' := ok1_W h (fun hp h => WT_2 (st_fr 2 (by simp)) h.2)
theorem P_cursor {p0 p1 : Int} {n : Nat} {M M1 M2 M' : mm_M} {e r r' : Int} (hI : LI n M) (h1 : cP M M1) (h2 : ∀ o, o ≠ 23 → M2 o = M1 o) (hc : C_cursor p0 p1 M M1 e r) (h3 : xP M2 M') (hx : C_cursor p0 p1 (vX M2) (vX M') (M' 17 0) r') : LI (n + 1) M' ∧ M' 17 0 = e ∧ (e = 0 → r = r') := by
  rw [hl_v h1 h2] at hx
  obtain ⟨d1, d2, d3, d4⟩ := D_cursor hI.1 hI.2.2.1.1 hc hx
  exact ⟨hI.step h1 h2 h3 d4 (W_cursor hI.1 hc hI.2.2.1.2), d1.symm, d3⟩
theorem W_cursorSet {p0 : Int} {V V' : mm_M} {e r : Int} (hV : wA V) (h : C_cursorSet p0 V V' e r) : WT V V' := ok1_W h (fun hp h => by
    obtain ⟨V1, h1, h2⟩ := h
    refine WT_2 ?_ h2
    rcases h1 with ⟨_, _, e⟩ | ⟨a, _, e⟩
    · rw [e]
    · have hl := isK_le (hV.2.2.1.resolve_left a.1.1).k
      rw [e, mm_up_o _ (by omega)])
theorem P_cursorSet {p0 : Int} {n : Nat} {M M1 M2 M' : mm_M} {e r r' : Int} (hI : LI n M) (h1 : cP M M1) (h2 : ∀ o, o ≠ 23 → M2 o = M1 o) (hc : C_cursorSet p0 M M1 e r) (h3 : xP M2 M') (hx : C_cursorSet p0 (vX M2) (vX M') (M' 17 0) r') : LI (n + 1) M' ∧ M' 17 0 = e ∧ (e = 0 → r = r') := by
  rw [hl_v h1 h2] at hx
  obtain ⟨d1, d2, d3, d4⟩ := D_cursorSet hI.1 hI.2.1.1 hI.2.2.1.1 hc hx
  exact ⟨hI.step h1 h2 h3 d4 (W_cursorSet hI.1 hc hI.2.2.1.2), d1.symm, d3⟩
theorem W_cursorAdd {p0 : Int} {V V' : mm_M} {e r : Int} (hV : wA V) (h : C_cursorAdd p0 V V' e r) : WT V V' := ok1_W h (fun hp h => by
    obtain ⟨V1, h1, h2⟩ := h
    refine WT_2 ?_ h2
    rcases h1 with ⟨_, _, e⟩ | ⟨a, _, A, _, _, e, _⟩
    · rw [e]
    · have hl := isK_le (hV.2.2.1.resolve_left a.1.1).k
      exact e 2 (by simp; omega))
theorem P_cursorAdd {p0 : Int} {n : Nat} {M M1 M2 M' : mm_M} {e r r' : Int} (hI : LI n M) (h1 : cP M M1) (h2 : ∀ o, o ≠ 23 → M2 o = M1 o) (hc : C_cursorAdd p0 M M1 e r) (h3 : xP M2 M') (hx : C_cursorAdd p0 (vX M2) (vX M') (M' 17 0) r') : LI (n + 1) M' ∧ M' 17 0 = e ∧ (e = 0 → r = r') := by
  rw [hl_v h1 h2] at hx
  obtain ⟨d1, d2, d3, d4⟩ := D_cursorAdd hI.1 hI.2.1.1 hI.2.2.1.1 hc hx
  exact ⟨hI.step h1 h2 h3 d4 (W_cursorAdd hI.1 hc hI.2.2.1.2), d1.symm, d3⟩
theorem W_house {p0 : Int} {V V' : mm_M} {e r : Int} (hV : wA V) (h : C_house p0 V V' e r) : WT V V' := ok1_W h (fun _ h => WT_s h.2)
theorem P_house {p0 : Int} {n : Nat} {M M1 M2 M' : mm_M} {e r r' : Int} (hI : LI n M) (h1 : cP M M1) (h2 : ∀ o, o ≠ 23 → M2 o = M1 o) (hc : C_house p0 M M1 e r) (h3 : xP M2 M') (hx : C_house p0 (vX M2) (vX M') (M' 17 0) r') : LI (n + 1) M' ∧ M' 17 0 = e ∧ (e = 0 → r = r') := by
  rw [hl_v h1 h2] at hx
  obtain ⟨d1, d2, d3, d4⟩ := D_house hI.2.2.1.1 hc hx
  exact ⟨hI.step h1 h2 h3 d4 (W_house hI.1 hc hI.2.2.1.2), d1.symm, d3⟩
theorem W_clear {V V' : mm_M} {e r : Int} (hV : wA V) (h : C_clear V V' e r) : WT V V' := by
  obtain ⟨_, _, V1, h2, h3⟩ := h
  exact fun _ => WT_cn h3 (WI_0 h2.2.2.2.1)
theorem P_clear {n : Nat} {M M1 M2 M' : mm_M} {e r r' : Int} (hI : LI n M) (h1 : cP M M1) (h2 : ∀ o, o ≠ 23 → M2 o = M1 o) (hc : C_clear M M1 e r) (h3 : xP M2 M') (hx : C_clear (vX M2) (vX M') (M' 17 0) r') : LI (n + 1) M' ∧ M' 17 0 = e ∧ (e = 0 → r = r') := by
  rw [hl_v h1 h2] at hx
  obtain ⟨d1, d2, d3, d4⟩ := D_clear hI.2.2.1.1 hc hx
  exact ⟨hI.step h1 h2 h3 d4 (W_clear hI.1 hc hI.2.2.1.2), d1.symm, d3⟩
theorem W_oneWay {p0 : Int} {V V' : mm_M} {e r : Int} (hV : wA V) (h : C_oneWay p0 V V' e r) : WT V V' := no9_W h.2 (fun _ h => fun hV => WT_cn h.2 (WI_2 (by simp [mm_up]) (by simp [mm_up]) (by simp [mm_up]) hV))
theorem P_oneWay {p0 : Int} {n : Nat} {M M1 M2 M' : mm_M} {e r r' : Int} (hb0 : p0 = 0 ∨ p0 = 1) (hI : LI n M) (h1 : cP M M1) (h2 : ∀ o, o ≠ 23 → M2 o = M1 o) (hc : C_oneWay p0 M M1 e r) (h3 : xP M2 M') (hx : C_oneWay p0 (vX M2) (vX M') (M' 17 0) r') : LI (n + 1) M' ∧ M' 17 0 = e ∧ (e = 0 → r = r') := by
  rw [hl_v h1 h2] at hx
  obtain ⟨d1, d2, d3, d4⟩ := D_oneWay hI.2.2.1.1 hc hx
  exact ⟨hI.step h1 h2 h3 d4 (W_oneWay hI.1 hc hI.2.2.1.2), d1.symm, d3⟩
theorem W_turnTown {V V' : mm_M} {e r : Int} (hV : wA V) (h : C_turnTown V V' e r) : WT V V' := by
  obtain ⟨_, _, V1, h2, h3⟩ := h
  exact fun _ => WT_cn h3 (WI_0 h2.2.2.2.2.1)
theorem P_turnTown {n : Nat} {M M1 M2 M' : mm_M} {e r r' : Int} (hI : LI n M) (h1 : cP M M1) (h2 : ∀ o, o ≠ 23 → M2 o = M1 o) (hc : C_turnTown M M1 e r) (h3 : xP M2 M') (hx : C_turnTown (vX M2) (vX M') (M' 17 0) r') : LI (n + 1) M' ∧ M' 17 0 = e ∧ (e = 0 → r = r') := by
  rw [hl_v h1 h2] at hx
  obtain ⟨d1, d2, d3, d4⟩ := D_turnTown hI.1 hI.2.2.1.1 hc hx
  exact ⟨hI.step h1 h2 h3 d4 (W_turnTown hI.1 hc hI.2.2.1.2), d1.symm, d3⟩
theorem W_streets {V V' : mm_M} {e r : Int} (hV : wA V) (h : C_streets V V' e r) : WT V V' := WT_s h.2.2
theorem P_streets {n : Nat} {M M1 M2 M' : mm_M} {e r r' : Int} (hI : LI n M) (h1 : cP M M1) (h2 : ∀ o, o ≠ 23 → M2 o = M1 o) (hc : C_streets M M1 e r) (h3 : xP M2 M') (hx : C_streets (vX M2) (vX M') (M' 17 0) r') : LI (n + 1) M' ∧ M' 17 0 = e ∧ (e = 0 → r = r') := by
  rw [hl_v h1 h2] at hx
  obtain ⟨d1, d2, d3, d4⟩ := D_streets hI.2.2.1.1 hc hx
  exact ⟨hI.step h1 h2 h3 d4 (W_streets hI.1 hc hI.2.2.1.2), d1.symm, d3⟩
theorem W_odd {V V' : mm_M} {e r : Int} (hV : wA V) (h : C_odd V V' e r) : WT V V' := WT_s h.2.2
theorem P_odd {n : Nat} {M M1 M2 M' : mm_M} {e r r' : Int} (hI : LI n M) (h1 : cP M M1) (h2 : ∀ o, o ≠ 23 → M2 o = M1 o) (hc : C_odd M M1 e r) (h3 : xP M2 M') (hx : C_odd (vX M2) (vX M') (M' 17 0) r') : LI (n + 1) M' ∧ M' 17 0 = e ∧ (e = 0 → r = r') := by
  rw [hl_v h1 h2] at hx
  obtain ⟨d1, d2, d3, d4⟩ := D_odd hI.1 hI.2.2.1.1 hc hx
  exact ⟨hI.step h1 h2 h3 d4 (W_odd hI.1 hc hI.2.2.1.2), d1.symm, d3⟩
theorem W_hangs {V V' : mm_M} {e r : Int} (hV : wA V) (h : C_hangs V V' e r) : WT V V' := WT_s h.2.2
theorem P_hangs {n : Nat} {M M1 M2 M' : mm_M} {e r r' : Int} (hI : LI n M) (h1 : cP M M1) (h2 : ∀ o, o ≠ 23 → M2 o = M1 o) (hc : C_hangs M M1 e r) (h3 : xP M2 M') (hx : C_hangs (vX M2) (vX M') (M' 17 0) r') : LI (n + 1) M' ∧ M' 17 0 = e ∧ (e = 0 → r = r') := by
  rw [hl_v h1 h2] at hx
  obtain ⟨d1, d2, d3, d4⟩ := D_hangs hI.1 hI.2.2.1.1 hc hx
  exact ⟨hI.step h1 h2 h3 d4 (W_hangs hI.1 hc hI.2.2.1.2), d1.symm, d3⟩
theorem W_kind {V V' : mm_M} {e r : Int} (hV : wA V) (h : C_kind V V' e r) : WT V V' := WT_s h.2.2
theorem P_kind {n : Nat} {M M1 M2 M' : mm_M} {e r r' : Int} (hI : LI n M) (h1 : cP M M1) (h2 : ∀ o, o ≠ 23 → M2 o = M1 o) (hc : C_kind M M1 e r) (h3 : xP M2 M') (hx : C_kind (vX M2) (vX M') (M' 17 0) r') : LI (n + 1) M' ∧ M' 17 0 = e ∧ (e = 0 → r = r') := by
  rw [hl_v h1 h2] at hx
  obtain ⟨d1, d2, d3, d4⟩ := D_kind hI.1 hI.2.2.1.1 hc hx
  exact ⟨hI.step h1 h2 h3 d4 (W_kind hI.1 hc hI.2.2.1.2), d1.symm, d3⟩
theorem W_cursorGo {p0 : Int} {V V' : mm_M} {e r : Int} (hV : wA V) (h : C_cursorGo p0 V V' e r) : WT V V' := by
  obtain ⟨_, V1, h1, h2⟩ := h
  refine WT_2 ?_ h2
  rcases h1 with ⟨_, _, e⟩ | ⟨_, _, e, _⟩
  · rw [e]
  · exact e 2 (by simp)
theorem P_cursorGo {p0 : Int} {n : Nat} {M M1 M2 M' : mm_M} {e r r' : Int} (hb0 : p0 = 0 ∨ p0 = 1) (hI : LI n M) (h1 : cP M M1) (h2 : ∀ o, o ≠ 23 → M2 o = M1 o) (hc : C_cursorGo p0 M M1 e r) (h3 : xP M2 M') (hx : C_cursorGo p0 (vX M2) (vX M') (M' 17 0) r') : LI (n + 1) M' ∧ M' 17 0 = e ∧ (e = 0 → r = r') := by
  rw [hl_v h1 h2] at hx
  obtain ⟨d1, d2, d3, d4⟩ := D_cursorGo hI.1 hI.2.1.1 hI.2.2.1.1 hc hx
  exact ⟨hI.step h1 h2 h3 d4 (W_cursorGo hI.1 hc hI.2.2.1.2), d1.symm, d3⟩
theorem W_cursorRemove {V V' : mm_M} {e r : Int} (hV : wA V) (h : C_cursorRemove V V' e r) : WT V V' := by
  obtain ⟨_, V1, h1, h2⟩ := h
  refine WT_2 ?_ h2
  rcases h1 with ⟨_, _, e⟩ | ⟨a, _, A, _, _, e, _⟩
  · rw [e]
  · have hl := isK_le (hV.2.2.1.resolve_left a.1.1).k
    exact e 2 (by simp; omega)
theorem P_cursorRemove {n : Nat} {M M1 M2 M' : mm_M} {e r r' : Int} (hI : LI n M) (h1 : cP M M1) (h2 : ∀ o, o ≠ 23 → M2 o = M1 o) (hc : C_cursorRemove M M1 e r) (h3 : xP M2 M') (hx : C_cursorRemove (vX M2) (vX M') (M' 17 0) r') : LI (n + 1) M' ∧ M' 17 0 = e ∧ (e = 0 → r = r') := by
  rw [hl_v h1 h2] at hx
  obtain ⟨d1, d2, d3, d4⟩ := D_cursorRemove hI.1 hI.2.1.1 hI.2.2.1.1 hc hx
  exact ⟨hI.step h1 h2 h3 d4 (W_cursorRemove hI.1 hc hI.2.2.1.2), d1.symm, d3⟩
theorem W_cursorCan {p0 : Int} {V V' : mm_M} {e r : Int} (hV : wA V) (h : C_cursorCan p0 V V' e r) : WT V V' := WT_s h.2.2
theorem P_cursorCan {p0 : Int} {n : Nat} {M M1 M2 M' : mm_M} {e r r' : Int} (hb0 : p0 = 0 ∨ p0 = 1) (hI : LI n M) (h1 : cP M M1) (h2 : ∀ o, o ≠ 23 → M2 o = M1 o) (hc : C_cursorCan p0 M M1 e r) (h3 : xP M2 M') (hx : C_cursorCan p0 (vX M2) (vX M') (M' 17 0) r') : LI (n + 1) M' ∧ M' 17 0 = e ∧ (e = 0 → r = r') := by
  rw [hl_v h1 h2] at hx
  obtain ⟨d1, d2, d3, d4⟩ := D_cursorCan hI.1 hI.2.1.1 hI.2.2.1.1 hc hx
  exact ⟨hI.step h1 h2 h3 d4 (W_cursorCan hI.1 hc hI.2.2.1.2), d1.symm, d3⟩
theorem W_cursorPlace {p0 : Int} {V V' : mm_M} {e r : Int} (hV : wA V) (h : C_cursorPlace p0 V V' e r) : WT V V' := WT_s h.2.2
theorem P_cursorPlace {p0 : Int} {n : Nat} {M M1 M2 M' : mm_M} {e r r' : Int} (hb0 : p0 = 0 ∨ p0 = 1) (hI : LI n M) (h1 : cP M M1) (h2 : ∀ o, o ≠ 23 → M2 o = M1 o) (hc : C_cursorPlace p0 M M1 e r) (h3 : xP M2 M') (hx : C_cursorPlace p0 (vX M2) (vX M') (M' 17 0) r') : LI (n + 1) M' ∧ M' 17 0 = e ∧ (e = 0 → r = r') := by
  rw [hl_v h1 h2] at hx
  obtain ⟨d1, d2, d3, d4⟩ := D_cursorPlace hI.1 hI.2.2.1.1 hc hx
  exact ⟨hI.step h1 h2 h3 d4 (W_cursorPlace hI.1 hc hI.2.2.1.2), d1.symm, d3⟩
end
