/-! what a call does is one thing only: so two states that are the same to the eye stay so -/
def DR (V' U' : mm_M) (e e' r r' : Int) : Prop := e = e' ∧ (e = 0 ∨ e = 1 ∨ e = 2) ∧ (e = 0 → r = r') ∧ SE V' U'
theorem SE.t {A B : mm_M} (h : SE A B) : TE A B := h.1
theorem SE.w {A B : mm_M} {w : Nat} (h : SE A B) (hw : isW3 w) : SW A B w := h.2.1 w hw
theorem SE.ends {A B A' B' : mm_M} (h : SE A B) (a : SE A A') (b : SE B B') : SE A' B' := a.sy.tr (h.tr b)
theorem ok1_det {P P' : Prop} {V V' U U' : mm_M} {e e' r r' : Int} {R R' : Prop} (hS : SE V U) (h : ok1 P V V' e R) (g : ok1 P' U U' e' R') (hP : P ↔ P') (k : P → R → R' → r = r' ∧ SE V' U') : DR V' U' e e' r r' := by
  rcases h with ⟨a, b, c⟩ | ⟨a, b, c⟩ <;> rcases g with ⟨a', b', c'⟩ | ⟨a', b', c'⟩
  · exact ⟨by omega, by omega, fun h => by omega, hS.ends c c'⟩
  · exact absurd (hP.mpr a') a
  · exact absurd (hP.mp a) a'
  · have := k a c c'
    exact ⟨by omega, by omega, fun _ => this.1, this.2⟩
theorem ok2_det {P P' O O' : Prop} {V V' U U' : mm_M} {e e' r r' : Int} {R R' : Prop} (hS : SE V U) (h : ok2 P O V V' e R) (g : ok2 P' O' U U' e' R') (hP : P ↔ P') (hO : O ↔ O') (k : P → O → R → R' → r = r' ∧ SE V' U') : DR V' U' e e' r r' := by
  rcases h with ⟨a, b, c⟩ | ⟨a, b, c, d⟩ | ⟨a, b, c, d⟩ <;> rcases g with ⟨a', b', c'⟩ | ⟨a', b', c', d'⟩ | ⟨a', b', c', d'⟩
  · exact ⟨by omega, by omega, fun h => by omega, hS.ends c c'⟩
  · exact absurd (hP.mpr a') a
  · exact absurd (hP.mpr a') a
  · exact absurd (hP.mp a) a'
  · exact ⟨by omega, by omega, fun h => by omega, hS.ends d d'⟩
  · exact absurd (hO.mpr b') b
  · exact absurd (hP.mp a) a'
  · exact absurd (hO.mp b) b'
  · have := k a b d d'
    exact ⟨by omega, by omega, fun _ => this.1, this.2⟩
theorem no9_det {P P' : Prop} {V V' U U' : mm_M} {r r' : Int} {R R' : Prop} (hS : SE V U) (h : no9 P V V' r R) (g : no9 P' U U' r' R') (hP : P ↔ P') (k : P → R → R' → r = r' ∧ SE V' U') : r = r' ∧ SE V' U' := by
  rcases h with ⟨a, b, c⟩ | ⟨a, c⟩ <;> rcases g with ⟨a', b', c'⟩ | ⟨a', c'⟩
  · exact ⟨by omega, (hS.cnF).ends c c'⟩
  · exact absurd (hP.mpr a') a
  · exact absurd (hP.mp a) a'
  · exact k a c c'
theorem e0_det {V' U' : mm_M} {e e' r r' : Int} (h : e = 0) (g : e' = 0) (k : r = r' ∧ SE V' U') : DR V' U' e e' r r' := ⟨by omega, by omega, fun _ => k.1, k.2⟩
theorem cn_det {A B V' U' : mm_M} {r r' : Int} (hr : r = r') (h : SE A B) (a : SE (cnF A r) V') (b : SE (cnF B r') U') : r = r' ∧ SE V' U' := by
  subst hr
  exact ⟨rfl, (h.cnF).ends a b⟩
theorem b01_det {P P' : Prop} {r r' : Int} (h : b01 P r) (g : b01 P' r') (hP : P ↔ P') : r = r' := by
  obtain ⟨a, b⟩ := h
  obtain ⟨c, d⟩ := g
  have : r = 1 ↔ r' = 1 := by rw [b, d, hP]
  omega
theorem wk3 {a : Int} (h : iw a) : isW3 (wk a) := by
  unfold iw at h
  unfold isW3 wk
  omega
/-- parts of the state -/
theorem SE_gen {S : List Nat} {V U V1 U1 : mm_M} (hS : SE V U) (hf : fr S V V1) (hg : fr S U U1) (h1 : 1 ∉ S) (h2 : 2 ∉ S) (h3 : 3 ∉ S) (h4 : 4 ∉ S) (h16 : 16 ∉ S) (h : ∀ w, isW3 w → (w ∈ S ∨ w + 1 ∈ S) → SW V1 U1 w) : SE V1 U1 := by
  refine SE.mk hS ((TE.ofr hf h2 h3 h4).sy.tr (hS.t.tr (.ofr hg h2 h3 h4))) (fun w hw => ?_) ((CE.of (hf 16 h16)).sy.tr (hS.2.2.1.tr (.of (hg 16 h16)))) (hf 1 h1) (hg 1 h1)
  by_cases e : w ∈ S ∨ w + 1 ∈ S
  · exact h w hw e
  · exact (SW.ofr hf (fun h => e (Or.inl h)) (fun h => e (Or.inr h))).sy.tr ((hS.w hw).tr (.ofr hg (fun h => e (Or.inl h)) (fun h => e (Or.inr h))))
theorem SE_1 {w : Nat} {V U V1 U1 : mm_M} (hS : SE V U) (hw : isW3 w) (hf : fr [w, w + 1] V V1) (hg : fr [w, w + 1] U U1) (h : SW V1 U1 w) : SE V1 U1 := by
  have hl := isK_le hw.k
  refine SE_gen hS hf hg (by simp; omega) (by simp; omega) (by simp; omega) (by simp; omega) (by simp; omega) (fun v hv e => ?_)
  have hl2 := isK_le hv.k
  have : v = w := by
    simp at e
    rcases hw with rfl | rfl | rfl <;> rcases hv with rfl | rfl | rfl <;> omega
  rw [this]
  exact h
theorem SE_2 {w v : Nat} {V U V1 U1 : mm_M} (hS : SE V U) (hw : isW3 w) (hv : isW3 v) (hf : fr [w, w + 1, v, v + 1] V V1) (hg : fr [w, w + 1, v, v + 1] U U1) (h : SW V1 U1 w) (h2 : SW V1 U1 v) : SE V1 U1 := by
  have hl := isK_le hw.k
  have hl2 := isK_le hv.k
  refine SE_gen hS hf hg (by simp; omega) (by simp; omega) (by simp; omega) (by simp; omega) (by simp; omega) (fun x hx e => ?_)
  have hl3 := isK_le hx.k
  have : x = w ∨ x = v := by
    simp at e
    rcases hw with rfl | rfl | rfl <;> rcases hv with rfl | rfl | rfl <;> rcases hx with rfl | rfl | rfl <;> omega
  rcases this with rfl | rfl
  · exact h
  · exact h2
theorem ce_los {A B : mm_M} {w : Nat} (h : CE A B) : CE (losM A w) (losM B w) := by
  obtain ⟨a, b⟩ := h
  unfold losM
  by_cases e : A 16 1 = w
  · rw [if_pos e, if_pos (by rw [← a]; exact e)]
    refine ⟨by simp [mm_up]; exact a, fun _ => ⟨by simp [mm_up], fun h => by simp [mm_up] at h⟩⟩
  · rw [if_neg e, if_neg (by rw [← a]; exact e)]
    exact ⟨a, b⟩
theorem ce_losI {P P' : Prop} [Decidable P] [Decidable P'] {A B : mm_M} {w : Nat} (h : CE A B) (hP : P ↔ P') : CE (losI P A w) (losI P' B w) := by
  by_cases e : P
  · rw [losI_y e, losI_y (hP.mp e)]
    exact ce_los h
  · rw [losI_n e, losI_n (fun h2 => e (hP.mpr h2))]
    exact h
theorem CE.e {A B A' B' : mm_M} (h : CE A B) (a : A' 16 = A 16) (b : B' 16 = B 16) : CE A' B' := (CE.of a).sy.tr (h.tr (.of b))
theorem se_los {A B : mm_M} {w : Nat} (h : SE A B) : SE (losM A w) (losM B w) :=
  SE.mk h ((TE.of (losM_o (by omega)) (losM_o (by omega)) (losM_o (by omega))).sy.tr (h.t.tr (.of (losM_o (by omega)) (losM_o (by omega)) (losM_o (by omega))))) (fun v hv => by
    have hl := isK_le hv.k
    exact (SW.of (losM_o (by omega)) (losM_o (by omega))).sy.tr ((h.w hv).tr (.of (losM_o (by omega)) (losM_o (by omega))))) (ce_los h.2.2.1) (losM_o (by omega)) (losM_o (by omega))
theorem se_losI {P P' : Prop} [Decidable P] [Decidable P'] {A B : mm_M} {w : Nat} (h : SE A B) (hP : P ↔ P') : SE (losI P A w) (losI P' B w) := by
  by_cases e : P
  · rw [losI_y e, losI_y (hP.mp e)]
    exact se_los h
  · rw [losI_n e, losI_n (fun h2 => e (hP.mpr h2))]
    exact h
theorem te_end {A B : mm_M} (h : TE A B) : TE (endM A) (endM B) := by
  obtain ⟨a, b, c, d, f⟩ := h
  have e3 : ∀ W : mm_M, ∀ o, o ≠ 2 → endM W o = W o := fun W o ho => by unfold endM; rw [mm_up_o _ ho, mm_up_o _ ho]
  have e4 : ∀ W : mm_M, endM W 2 4 = W 2 4 := fun W => by simp [endM, mm_up]
  have e5 : ∀ W : mm_M, endM W 2 5 = W 2 5 := fun W => by simp [endM, mm_up]
  have e6 : ∀ W : mm_M, endM W 2 6 = 0 := fun W => by simp [endM, mm_up]
  have e7 : ∀ W : mm_M, endM W 2 7 = 0 := fun W => by simp [endM, mm_up]
  refine ⟨by rw [e4, e4]; exact a, by rw [e5, e5]; exact b, by rw [e6, e6], by rw [e7, e7], fun i hi => ?_⟩
  rw [e4] at hi
  rw [e3 _ _ (by omega), e3 _ _ (by omega), e3 _ _ (by omega), e3 _ _ (by omega)]
  exact f i hi
theorem te_add {A B : mm_M} {x y : Int} (h0 : 0 ≤ A 2 4) (h : TE A B) : TE (addS A x y) (addS B x y) := by
  obtain ⟨a, b, c, d, f⟩ := h
  have e2 : ∀ W : mm_M, ∀ j, addS W x y 2 j = if j = 4 then W 2 4 + 1 else W 2 j := fun W j => by simp [addS, mm_up]
  have e3 : ∀ W : mm_M, ∀ j, addS W x y 3 j = if j = (W 2 4).toNat then x else W 3 j := fun W j => by simp [addS, mm_up]
  have e4 : ∀ W : mm_M, ∀ j, addS W x y 4 j = if j = (W 2 4).toNat then y else W 4 j := fun W j => by simp [addS, mm_up]
  refine ⟨by rw [e2, e2, if_pos rfl, if_pos rfl, a], by rw [e2, e2]; exact b, by rw [e2, e2]; exact c, by rw [e2, e2]; exact d, fun i hi => ?_⟩
  rw [e2, if_pos rfl] at hi
  rw [e3, e3, e4, e4, ← a]
  by_cases e : i = (A 2 4).toNat
  · rw [if_pos e, if_pos e, if_pos e, if_pos e]
    exact ⟨rfl, rfl⟩
  · rw [if_neg e, if_neg e, if_neg e, if_neg e]
    exact f i (by omega)
/-- only the town is another -/
theorem SE_t {V U V1 U1 : mm_M} (hS : SE V U) (hf : fr [2, 3, 4] V V1) (hg : fr [2, 3, 4] U U1) (h : TE V1 U1) : SE V1 U1 :=
  SE.mk hS h (fun w hw => by
    have hl := isK_le hw.k
    exact (SW.ofr hf (by simp; omega) (by simp; omega)).sy.tr ((hS.w hw).tr (.ofr hg (by simp; omega) (by simp; omega)))) (hS.2.2.1.e (hf 16 (by simp)) (hg 16 (by simp))) (hf 1 (by simp)) (hg 1 (by simp))
theorem fr_end {V : mm_M} : fr [2, 3, 4] V (endM V) := (fr.rf.up (by simp)).up (by simp)
theorem fr_add {V : mm_M} {x y : Int} : fr [2, 3, 4] V (addS V x y) := ((fr.rf.up (by simp)).up (by simp)).up (by simp)
theorem se_end {A B : mm_M} (h : SE A B) : SE (endM A) (endM B) := SE_t h fr_end fr_end (te_end h.t)
theorem D_lay {a b : Int} {V U V' U' : mm_M} {e e' r r' : Int} (hV : wA V) (hS : SE V U) (h : C_lay a b V V' e r) (g : C_lay a b U U' e' r') : DR V' U' e e' r r' :=
  ok1_det hS h g Iff.rfl (fun _ h g => no9_det hS h g (by rw [hS.t.1]) (fun _ h g => cn_det (by rw [h.1, g.1, hS.t.1]) (SE_t (se_end hS) fr_add fr_add (te_add (by have := hV.1.1; simp [endM, mm_up]; omega) (te_end hS.t))) h.2 g.2))
theorem D_layRing {a b : Int} {V U V' U' : mm_M} {e e' r r' : Int} (hV : wA V) (hS : SE V U) (h : C_layRing a b V V' e r) (g : C_layRing a b U U' e' r') : DR V' U' e e' r r' :=
  ok1_det hS h g Iff.rfl (fun _ h g => no9_det hS h g (by rw [hS.t.1]) (fun _ h g => by
    obtain ⟨h1, V1, h2, h3⟩ := h
    obtain ⟨g1, U1, g2, g3⟩ := g
    refine cn_det (by rw [h1, g1, hS.t.1]) (SE_t (se_end hS) h2.1 g2.1 ?_) h3 g3
    obtain ⟨t1, t2, t3, t4, t5⟩ := te_end hS.t
    obtain ⟨-, a1, a2, a3, a4⟩ := h2
    obtain ⟨-, b1, b2, b3, b4⟩ := g2
    have n0 : 0 ≤ endM V 2 4 := by have := hV.1.1; simp [endM, mm_up]; omega
    refine ⟨by rw [a2, b2, t1], by rw [a1 5 (by omega), b1 5 (by omega), t2], by rw [a1 6 (by omega), b1 6 (by omega), t3], by rw [a1 7 (by omega), b1 7 (by omega), t4], fun i hi => ?_⟩
    by_cases e : (i : Int) < endM V 2 4
    · rw [(a3 i e).1, (a3 i e).2, (b3 i (by omega)).1, (b3 i (by omega)).2]
      exact t5 i e
    · have x := a4 (i - (endM V 2 4).toNat) (by omega)
      have y := b4 (i - (endM V 2 4).toNat) (by omega)
      rw [show (endM V 2 4).toNat + (i - (endM V 2 4).toNat) = i by omega] at x
      rw [← t1, show (endM V 2 4).toNat + (i - (endM V 2 4).toNat) = i by omega] at y
      rw [x.1, x.2, y.1, y.2]
      exact ⟨rfl, rfl⟩))
theorem D_words {a b : Int} {V U V' U' : mm_M} {e e' r r' : Int} (hS : SE V U) (h : C_words a b V V' e r) (g : C_words a b U U' e' r') : DR V' U' e e' r r' :=
  ok1_det hS h g Iff.rfl (fun _ h g => no9_det hS h g Iff.rfl (fun _ h g => by
    obtain ⟨h1, V1, h2, h3⟩ := h
    obtain ⟨g1, U1, g2, g3⟩ := g
    obtain ⟨a1, a2, a3, a4, a5, a6, a7, a8⟩ := h2
    obtain ⟨b1, b2, b3, b4, b5, b6, b7, b8⟩ := g2
    obtain ⟨n1, n2, n3⟩ := hS.2.2.2
    refine cn_det (by rw [h1, g1]) ⟨⟨by rw [a2, b2], by rw [a3, b3], by rw [a4, b4], by rw [a5, b5], fun i hi => ?_⟩, fun w hw => ?_, ⟨by rw [a8, b8], fun h => absurd a8 h⟩, ?_⟩ h3 g3
    · rw [a2] at hi
      rw [(a6 i hi).1, (a6 i hi).2, (b6 i hi).1, (b6 i hi).2]
      exact ⟨rfl, rfl⟩
    · exact ⟨by rw [(a7 w hw).1, (b7 w hw).1], by rw [(a7 w hw).2, (b7 w hw).2], fun i hi => by rw [(a7 w hw).1] at hi; omega⟩
    · exact ⟨by rw [← a1.1, ← b1.1, n1], by rw [← a1.2.1, ← b1.2.1, n2], by rw [← a1.2.2, ← b1.2.2, n3]⟩))
theorem D_close {s : Int} {V U V' U' : mm_M} {e e' r r' : Int} (hS : SE V U) (h : C_close s V V' e r) (g : C_close s U U' e' r') : DR V' U' e e' r r' :=
  ok1_det hS h g (by unfold is; rw [hS.t.1]) (fun hs h g => no9_det hS h g (forall_congr' fun w => forall_congr' fun hw => wN_te (hS.w hw)) (fun _ h g => by
    obtain ⟨h1, V1, h2, h3⟩ := h
    obtain ⟨g1, U1, g2, g3⟩ := g
    obtain ⟨a1, a2, a3, a4, a5, a6, a7, a8, a9⟩ := h2
    obtain ⟨b1, b2, b3, b4, b5, b6, b7, b8, b9⟩ := g2
    obtain ⟨n1, n2, n3⟩ := hS.2.2.2
    obtain ⟨t1, t2, t3, t4, t5⟩ := hS.t
    have hs2 : 0 ≤ s ∧ s < V 2 4 := hs
    refine cn_det (by rw [h1, g1, t1]) ⟨⟨by rw [a3, b3, t1], by rw [a4, b4, t2], by rw [a5, b5], by rw [a6, b6], fun i hi => ?_⟩, fun w hw => ren_det (hS.w hw) (a9 w hw) (b9 w hw), a2.sy.tr (hS.2.2.1.tr b2), ?_⟩ h3 g3
    · rw [a3] at hi
      by_cases e : (i : Int) < s
      · rw [(a7 i e).1, (a7 i e).2, (b7 i e).1, (b7 i e).2]
        exact t5 i (by omega)
      · have x := a8 i (by omega) (by omega)
        have y := b8 i (by omega) (by omega)
        rw [x.1, x.2, y.1, y.2]
        exact t5 (i + 1) (by omega)
    · exact ⟨by rw [← a1.1, ← b1.1, n1], by rw [← a1.2.1, ← b1.2.1, n2], by rw [← a1.2.2, ← b1.2.2, n3]⟩))
theorem D_clear {V U V' U' : mm_M} {e e' r r' : Int} (hS : SE V U) (h : C_clear V V' e r) (g : C_clear U U' e' r') : DR V' U' e e' r r' := by
  obtain ⟨h0, h1, V1, h2, h3⟩ := h
  obtain ⟨g0, g1, U1, g2, g3⟩ := g
  obtain ⟨a1, a2, a3, a4, a5, a7, a8⟩ := h2
  obtain ⟨b1, b2, b3, b4, b5, b7, b8⟩ := g2
  obtain ⟨n1, n2, n3⟩ := hS.2.2.2
  refine e0_det h0 g0 (cn_det (by rw [h1, g1, hS.t.1]) ⟨⟨by rw [a2, b2], by rw [a3, b3], by rw [a4, b4], by rw [a5, b5], fun i hi => by rw [a2] at hi; omega⟩, fun w hw => ?_, ⟨by rw [a8, b8], fun h => absurd a8 h⟩, ?_⟩ h3 g3)
  · exact ⟨by rw [(a7 w hw).1, (b7 w hw).1], by rw [(a7 w hw).2, (b7 w hw).2], fun i hi => by rw [(a7 w hw).1] at hi; omega⟩
  · exact ⟨by rw [← a1.1, ← b1.1, n1], by rw [← a1.2.1, ← b1.2.1, n2], by rw [← a1.2.2, ← b1.2.2, n3]⟩
theorem bk_te {V U : mm_M} (hS : SE V U) (h : bkP V) : bkP U := by
  obtain ⟨w, hw, i, hi, h2⟩ := h
  have hW := hS.w hw
  exact ⟨w, hw, i, by rw [← hW.1]; exact hi, by rw [← hW.2.2 i hi]; exact h2⟩
theorem D_oneWay {f : Int} {V U V' U' : mm_M} {e e' r r' : Int} (hS : SE V U) (h : C_oneWay f V V' e r) (g : C_oneWay f U U' e' r') : DR V' U' e e' r r' :=
  e0_det h.1 g.1 (no9_det hS h.2 g.2 ⟨fun h h2 => h ⟨h2.1, bk_te hS.sy h2.2⟩, fun h h2 => h ⟨h2.1, bk_te hS h2.2⟩⟩ (fun _ h g => cn_det (by rw [h.1, g.1, hS.t.2.1]) (SE_t hS (fr.rf.up (by simp)) (fr.rf.up (by simp)) (by
    obtain ⟨t1, t2, t3, t4, t5⟩ := hS.t
    refine ⟨by simp [mm_up]; exact t1, by simp [mm_up], by simp [mm_up]; exact t3, by simp [mm_up]; exact t4, fun i hi => ?_⟩
    rw [mm_up_ob2 (by omega)] at hi
    rw [mm_up_o _ (by omega), mm_up_o _ (by omega), mm_up_o _ (by omega), mm_up_o _ (by omega)]
    exact t5 i hi)) h.2 g.2))
theorem D_turnTown {V U V' U' : mm_M} {e e' r r' : Int} (hV : wA V) (hS : SE V U) (h : C_turnTown V V' e r) (g : C_turnTown U U' e' r') : DR V' U' e e' r r' := by
  obtain ⟨h0, h1, V1, h2, h3⟩ := h
  obtain ⟨g0, g1, U1, g2, g3⟩ := g
  obtain ⟨a1, a2, a3, a4, a5, a6, a7, a8⟩ := h2
  obtain ⟨b1, b2, b3, b4, b5, b6, b7, b8⟩ := g2
  obtain ⟨n1, n2, n3⟩ := hS.2.2.2
  obtain ⟨t1, t2, t3, t4, t5⟩ := hS.t
  refine e0_det h0 g0 (cn_det (by rw [h1, g1, t1]) ⟨⟨by rw [a3, b3, t1], by rw [a4, b4, t2], by rw [a5, b5], by rw [a6, b6], fun i hi => ?_⟩, fun w hw => rev_det hS.t (hS.w hw) (hV.2.1 w hw).1 (a8 w hw) (b8 w hw), a2.sy.tr (hS.2.2.1.tr b2), ?_⟩ h3 g3)
  · rw [a3] at hi
    rw [(a7 i hi).1, (a7 i hi).2, (b7 i (by omega)).1, (b7 i (by omega)).2]
    exact ⟨(t5 i hi).2, (t5 i hi).1⟩
  · exact ⟨by rw [← a1.1, ← b1.1, n1], by rw [← a1.2.1, ← b1.2.1, n2], by rw [← a1.2.2, ← b1.2.2, n3]⟩
theorem te_n {A B : mm_M} (h : TE A B) (h0 : 0 ≤ A 2 4) : (∀ i, i < (A 2 4).toNat → A 3 i = B 3 i) ∧ (∀ i, i < (A 2 4).toNat → A 4 i = B 4 i) := ⟨fun i hi => (h.2.2.2.2 i (by omega)).1, fun i hi => (h.2.2.2.2 i (by omega)).2⟩
theorem D_streets {V U V' U' : mm_M} {e e' r r' : Int} (hS : SE V U) (h : C_streets V V' e r) (g : C_streets U U' e' r') : DR V' U' e e' r r' :=
  e0_det h.1 g.1 ⟨by rw [h.2.1, g.2.1, hS.t.1], hS.ends h.2.2 g.2.2⟩
theorem D_end {s f : Int} {V U V' U' : mm_M} {e e' r r' : Int} (hS : SE V U) (h : C_end s f V V' e r) (g : C_end s f U U' e' r') : DR V' U' e e' r r' :=
  ok1_det hS h g (by unfold is; rw [hS.t.1]) (fun hs h g => ⟨by
    have hs2 : 0 ≤ s ∧ s < V 2 4 := hs
    have := hS.t.2.2.2.2 s.toNat (by omega)
    rw [h.1, g.1, this.1, this.2], hS.ends h.2 g.2⟩)
theorem D_ways {c x : Int} {V U V' U' : mm_M} {e e' r r' : Int} (hV : wA V) (hS : SE V U) (h : C_ways c x V V' e r) (g : C_ways c x U U' e' r') : DR V' U' e e' r r' :=
  ok2_det hS h g Iff.rfl Iff.rfl (fun _ _ h g => ⟨by
    have t := te_n hS.t hV.1.1.1
    rw [h.1, g.1]
    unfold al
    rw [← hS.t.1, oc_te _ t.1, oc_te _ t.2], hS.ends h.2 g.2⟩)
theorem D_odd {V U V' U' : mm_M} {e e' r r' : Int} (hV : wA V) (hS : SE V U) (h : C_odd V V' e r) (g : C_odd U U' e' r') : DR V' U' e e' r r' :=
  e0_det h.1 g.1 ⟨by
    have t := te_n hS.t hV.1.1.1
    rw [h.2.1, g.2.1]
    unfold al
    rw [← hS.t.1, ← hS.t.2.1]
    exact odn_te t.1 t.2 10, hS.ends h.2.2 g.2.2⟩
theorem HG_te2 {V U : mm_M} (hV : wA V) (hT : TE V U) : HG (V 3) (V 4) (V 2 4).toNat (al V) ↔ HG (U 3) (U 4) (U 2 4).toNat (al U) := by
  have t := te_n hT hV.1.1.1
  unfold al
  rw [← hT.1]
  exact ⟨HG_te t.1 t.2, HG_te (fun i hi => (t.1 i hi).symm) (fun i hi => (t.2 i hi).symm)⟩
theorem ST_te2 {V U : mm_M} {c : Int} (hT : TE V U) : STV V (al V) c ↔ STV U (al U) c := by
  rw [show al U = al V by unfold al; rw [hT.1]]
  exact ST_te hT
theorem D_hangs {V U V' U' : mm_M} {e e' r r' : Int} (hV : wA V) (hS : SE V U) (h : C_hangs V V' e r) (g : C_hangs U U' e' r') : DR V' U' e e' r r' :=
  e0_det h.1 g.1 ⟨b01_det h.2.1 g.2.1 (HG_te2 hV hS.t), hS.ends h.2.2 g.2.2⟩
theorem kd_det {V U : mm_M} {r r' : Int} (hV : wA V) (hT : TE V U) (h : kdR (V 3) (V 4) (V 2 4).toNat (V 2 5) r) (g : kdR (U 3) (U 4) (U 2 4).toNat (U 2 5) r') : r = r' := by
  have t := te_n hT hV.1.1.1
  have e1 := HG_te2 hV hT
  have e2 : odn (V 3) (V 4) (V 2 4).toNat (V 2 5) (2 ^ (V 2 4).toNat - 1) 10 = odn (U 3) (U 4) (U 2 4).toNat (U 2 5) (2 ^ (U 2 4).toNat - 1) 10 := by
    rw [← hT.1, ← hT.2.1]
    exact odn_te t.1 t.2 10
  have e3 : ∀ c, ST (V 3) (V 4) (V 2 4).toNat (V 2 5) (2 ^ (V 2 4).toNat - 1) c ↔ ST (U 3) (U 4) (U 2 4).toNat (U 2 5) (2 ^ (U 2 4).toNat - 1) c := fun c => ST_te2 (c := c) hT
  unfold al at e1
  unfold kdR at h g
  rw [← e1, ← e2] at g
  rcases h with ⟨a, b⟩ | ⟨a, b⟩ <;> rcases g with ⟨a', b'⟩ | ⟨a', b'⟩
  · rw [b, b']
  · exact absurd a a'
  · exact absurd a' a
  · rcases b with ⟨b, c, x, y⟩ | ⟨b, x⟩ <;> rcases b' with ⟨b', c', x', y'⟩ | ⟨b', x'⟩
    · rw [b, b']
    · exact absurd ((e3 c).mp y) (x' c x)
    · exact absurd ((e3 c').mpr y') (x c' x')
    · rw [b, b']
theorem D_kind {V U V' U' : mm_M} {e e' r r' : Int} (hV : wA V) (hS : SE V U) (h : C_kind V V' e r) (g : C_kind U U' e' r') : DR V' U' e e' r r' :=
  e0_det h.1 g.1 ⟨kd_det hV hS.t h.2.1 g.2.1, hS.ends h.2.2 g.2.2⟩
theorem D_isStart {c : Int} {V U V' U' : mm_M} {e e' r r' : Int} (hS : SE V U) (h : C_isStart c V V' e r) (g : C_isStart c U U' e' r') : DR V' U' e e' r r' :=
  ok1_det hS h g Iff.rfl (fun _ h g => ⟨b01_det h.1 g.1 (ST_te2 hS.t), hS.ends h.2 g.2⟩)
theorem D_rule {x : Int} {V U V' U' : mm_M} {e e' r r' : Int} (hS : SE V U) (h : C_rule x V V' e r) (g : C_rule x U U' e' r') : DR V' U' e e' r r' :=
  ok1_det hS h g Iff.rfl (fun _ h g => ⟨by rw [h.1, g.1, hS.t.2.1, hS.t.2.2.1, hS.t.2.2.2.1], hS.ends h.2 g.2⟩)
theorem bg_SW {A B : mm_M} {w : Nat} {c : Int} : SW (bgM A w c) (bgM B w c) w := by
  have e : ∀ W : mm_M, bgM W w c w 2 = 0 ∧ bgM W w c w 3 = c := fun W => by simp [bgM, mm_up]
  exact ⟨by rw [(e A).1, (e B).1], by rw [(e A).2, (e B).2], fun i hi => by rw [(e A).1] at hi; omega⟩
theorem bg_fr {A : mm_M} {w : Nat} {c : Int} : fr [w, w + 1] A (bgM A w c) := (fr.rf.up (by simp)).up (by simp)
theorem D_begin {a c : Int} {V U V' U' : mm_M} {e e' r r' : Int} (hS : SE V U) (h : C_begin a c V V' e r) (g : C_begin a c U U' e' r') : DR V' U' e e' r r' :=
  ok1_det hS h g Iff.rfl (fun hp h g => by
    have hw := hS.w (wk3 hp.1)
    exact cn_det (by rw [h.1, g.1, hw.1]) (se_losI (SE_1 hS (wk3 hp.1) bg_fr bg_fr bg_SW) (by rw [hw.1])) h.2 g.2)
theorem D_step {a s f : Int} {V U V' U' : mm_M} {e e' r r' : Int} (hV : wA V) (hS : SE V U) (h : C_step a s f V V' e r) (g : C_step a s f U U' e' r') : DR V' U' e e' r r' :=
  ok1_det hS h g (by unfold is; rw [hS.t.1]) (fun hp h g => by
    obtain ⟨V1, h1, h2⟩ := h
    obtain ⟨U1, g1, g2⟩ := g
    have k3 := wk3 hp.1
    obtain ⟨er, hw⟩ := ws_det hS.t (hS.w k3) k3.k (hV.2.1 _ k3).1 hp.2 h1 g1
    have hfr : ∀ {X Y : mm_M} {q : Int}, wsR X Y (wk a) s f q → fr [wk a, wk a + 1] X Y := fun hq => by
      rcases hq with ⟨_, _, e⟩ | ⟨_, _, e, _⟩
      · rw [e]; exact fr.rf
      · exact e
    exact cn_det er (se_losI (SE_1 hS k3 (hfr h1) (hfr g1) hw) (by rw [er])) h2 g2)
theorem D_back {a f : Int} {V U V' U' : mm_M} {e e' r r' : Int} (hV : wA V) (hS : SE V U) (h : C_back a f V V' e r) (g : C_back a f U U' e' r') : DR V' U' e e' r r' :=
  ok1_det hS h g Iff.rfl (fun hp h g => by
    have k3 := wk3 hp
    have hw := hS.w k3
    have v1 := (hV.2.1 _ k3).1.1
    refine no9_det hS h g (by rw [hw.1]) (fun hn h g => ?_)
    obtain ⟨h1, V1, ⟨h2, h3, h4, h5⟩, h6⟩ := h
    obtain ⟨g1, U1, ⟨g2, g3, g4, g5⟩, g6⟩ := g
    have ec := cor_te (p := 1) hS.t hw (hV.2.1 _ k3).1
    refine cn_det ?_ (se_los (SE_1 hS k3 h2 g2 ⟨by rw [h3, g3, hw.1], by rw [h4, g4, hw.2.1, ec], fun i hi => ?_⟩)) h6 g6
    · rw [h1, g1, ← hw.1]
      refine hw.2.2 _ ?_
      split <;> omega
    · rw [h5 i (by omega), g5 i (by rw [← hw.1]; omega)]
      refine hw.2.2 _ ?_
      split <;> omega)
theorem D_on {a f : Int} {V U V' U' : mm_M} {e e' r r' : Int} (hf : f = 0 ∨ f = 1) (hV : wA V) (hS : SE V U) (h : C_on a f V V' e r) (g : C_on a f U U' e' r') : DR V' U' e e' r r' :=
  ok1_det hS h g Iff.rfl (fun hp h g => by
    have k3 := wk3 hp
    have hw := hS.w k3
    obtain ⟨V1, n, h1, h2, h3⟩ := h
    obtain ⟨U1, m, g1, g2, g3⟩ := g
    rw [← hw.1] at g1
    obtain ⟨en, es⟩ := goR_det hf k3.k n m _ V U V1 U1 hS.t hw (hV.2.1 _ k3).1 h1 g1
    have er : r = r' := by rw [h2, g2, en]
    exact cn_det er (se_losI (SE_1 hS k3 (goR_fr _ _ _ _ h1) (goR_fr _ _ _ _ g1) es) (by rw [er])) h3 g3)
theorem SE.scr5 {A B : mm_M} (h : fr [5, 6] A B) : SE A B := .scr (h.mono (by simp))
theorem D_complete {a f : Int} {V U V' U' : mm_M} {e e' r r' : Int} (hf : f = 0 ∨ f = 1) (hV : wA V) (hS : SE V U) (h : C_complete a f V V' e r) (g : C_complete a f U U' e' r') : DR V' U' e e' r r' :=
  ok1_det hS h g Iff.rfl (fun hp h g => by
    have k3 := wk3 hp
    have hw := hS.w k3
    refine no9_det hS h g (by rw [← hw.2.1]; exact ST_te2 hS.t) (fun _ h g => ?_)
    obtain ⟨V0, V1, n, h0, h1, h2, h3, h4⟩ := h
    obtain ⟨U0, U1, m, g0, g1, g2, g3, g4⟩ := g
    have hS0 : SE V0 U0 := hS.ends (.scr5 h0) (.scr5 g0)
    have hv0 : wV V0 (wk a) := ((hV.s h0).1.2.1 _ k3).1
    obtain ⟨en, es⟩ := comR_det hf k3.k hS0.t (hS0.w k3) hv0 h1 g1
    have er : r = r' := by rw [h3, g3, en]
    exact cn_det er (se_losI (SE_1 hS0 k3 h2 g2 es) (by rw [er])) h4 g4)
theorem rd_te {V U : mm_M} {w v : Nat} (hV : wA V) (hS : SE V U) (hw : isW3 w) (hv : isW3 v) : rdR V w v ↔ rdR U w v := rdR_te hS.t (hS.w hw) (hS.w hv) (hV.2.1 _ hv).1
theorem cr_te {V U : mm_M} {w : Nat} {p : Int} (hV : wA V) (hS : SE V U) (hw : isW3 w) : cor V w p = cor U w p := cor_te hS.t (hS.w hw) (hV.2.1 _ hw).1
theorem fr3_4 {w v : Nat} {A B : mm_M} (h : fr [w, w + 1, v] A B) : fr [w, w + 1, v, v + 1] A B := h.mono (by simp)
theorem D_splice {a b p : Int} {V U V' U' : mm_M} {e e' r r' : Int} (hV : wA V) (hS : SE V U) (h : C_splice a b p V V' e r) (g : C_splice a b p U U' e' r') : DR V' U' e e' r r' :=
  ok1_det hS h g ⟨fun h => ⟨h.1, h.2.1, by unfold onW; rw [← (hS.w (wk3 h.1)).1]; exact h.2.2⟩, fun h => ⟨h.1, h.2.1, by unfold onW; rw [(hS.w (wk3 h.1)).1]; exact h.2.2⟩⟩ (fun hp h g => by
    have k3 := wk3 hp.1
    have j3 := wk3 hp.2.1
    have hw := hS.w k3
    have hv := hS.w j3
    refine no9_det hS h g (by rw [rd_te hV hS k3 j3, hv.2.1, cr_te hV hS k3]) (fun hq h g => ?_)
    obtain ⟨h1, V1, h2, h3, h4⟩ := h
    obtain ⟨g1, U1, g2, g3, g4⟩ := g
    obtain ⟨e1, e2⟩ := spl_det hw hv (hV.2.1 _ k3).1.1.1 (hV.2.1 _ j3).1.1.1 hp.2.2 h2 g2
    exact cn_det (by rw [h1, g1, hw.1, hv.1]) (se_los (se_los (SE_2 hS k3 j3 (fr3_4 h3) (fr3_4 g3) e1 e2))) h4 g4)
theorem mt_det {V U : mm_M} {w v i j i' j' : Nat} (hV : wA V) (hS : SE V U) (hw : isW3 w) (hv : isW3 v) (h : mtR V w v i j) (g : mtR U w v i' j') : i = i' ∧ j = j' := by
  have ew := hS.w hw
  have ev := hS.w hv
  have cw := fun p => cr_te (p := p) hV hS hw
  have cv := fun p => cr_te (p := p) hV hS hv
  obtain ⟨a1, a2, a3, a4, a5⟩ := h
  obtain ⟨b1, b2, b3, b4, b5⟩ := g
  rw [← ew.1] at b1
  rw [← ev.1] at b2 b4
  rw [← cw, ← cv] at b3
  have c4 : ∀ x y : Nat, x < i' → (y : Int) < V v 2 → cor V w x ≠ cor V v y := fun x y hx hy => by rw [cw, cv]; exact b4 x y hx hy
  have c5 : ∀ y : Nat, y < j' → cor V w i' ≠ cor V v y := fun y hy => by rw [cw, cv]; exact b5 y hy
  have e1 : i = i' := by
    rcases Nat.lt_trichotomy i i' with h | h | h
    · exact absurd a3 (c4 i j h a2)
    · exact h
    · exact absurd b3 (a4 i' j' h b2)
  subst e1
  refine ⟨rfl, ?_⟩
  rcases Nat.lt_trichotomy j j' with h | h | h
  · exact absurd a3 (c5 j h)
  · exact h
  · exact absurd b3 (a5 j' h)
theorem D_join {a b : Int} {V U V' U' : mm_M} {e e' r r' : Int} (hV : wA V) (hS : SE V U) (h : C_join a b V V' e r) (g : C_join a b U U' e' r') : DR V' U' e e' r r' :=
  ok1_det hS h g Iff.rfl (fun hp h g => by
    have k3 := wk3 hp.1
    have j3 := wk3 hp.2
    have hw := hS.w k3
    have hv := hS.w j3
    have cw := fun p => cr_te (p := p) hV hS k3
    have cv := fun p => cr_te (p := p) hV hS j3
    refine no9_det hS h g ?_ (fun hq h g => ?_)
    · rw [rd_te hV hS k3 j3, hw.1, hv.1]
      constructor
      · rintro ⟨x, i, j, y1, y2, y3⟩
        exact ⟨x, i, j, y1, y2, by rw [← cw, ← cv]; exact y3⟩
      · rintro ⟨x, i, j, y1, y2, y3⟩
        exact ⟨x, i, j, y1, y2, by rw [cw, cv]; exact y3⟩
    · obtain ⟨i, j, h0, h1, V1, V2, h2, h3, h4, h5, h6⟩ := h
      obtain ⟨i', j', g0, g1, U1, U2, g2, g3, g4, g5, g6⟩ := g
      obtain ⟨rfl, rfl⟩ := mt_det hV hS k3 j3 h0 g0
      have hne : wk a ≠ wk b := hq.1.1
      have hS1 : SE V1 U1 := SE_1 hS j3 h3 g3 (rot_det hS.t hv (hV.2.1 _ j3).1 h2 g2)
      have hl := isK_le k3.k
      have hl2 := isK_le j3.k
      have hap := wk_ap k3.k j3.k hne
      have e1 : V1 (wk a) = V (wk a) := h3 (wk a) (by simp; omega)
      have x1 := (hV.2.1 _ k3).1.1.1
      have x2 := (hV.2.1 _ j3).1.1.1
      obtain ⟨f1, f2⟩ := spl_det (hS1.w k3) (hS1.w j3) (by rw [e1]; exact x1) (by rw [h2.1]; exact x2) ⟨by omega, by rw [e1]; exact h0.1⟩ h4 g4
      exact cn_det (by rw [h1, g1]) (se_los (se_los (SE_2 hS1 k3 j3 (fr3_4 h5) (fr3_4 g5) f1 f2))) h6 g6)
theorem D_cut {a p q b : Int} {V U V' U' : mm_M} {e e' r r' : Int} (hV : wA V) (hS : SE V U) (h : C_cut a p q b V V' e r) (g : C_cut a p q b U U' e' r') : DR V' U' e e' r r' :=
  ok1_det hS h g ⟨fun h => ⟨h.1, h.2.1, by unfold onW; rw [← (hS.w (wk3 h.1)).1]; exact h.2.2⟩, fun h => ⟨h.1, h.2.1, by have := h.2.2; unfold onW at this ⊢; rw [(hS.w (wk3 h.1)).1]; exact this⟩⟩ (fun hp h g => by
    have k3 := wk3 hp.1
    have j3 := wk3 hp.2.1
    have hw := hS.w k3
    refine no9_det hS h g (by unfold cutP; rw [cr_te hV hS k3, cr_te hV hS k3]) (fun hq h g => ?_)
    obtain ⟨h1, V1, h2, h3, h4⟩ := h
    obtain ⟨g1, U1, g2, g3, g4⟩ := g
    have o1 : 0 ≤ p ∧ p ≤ V (wk a) 2 := hp.2.2.1
    have o2 : 0 ≤ q ∧ q ≤ V (wk a) 2 := hp.2.2.2
    have o3 : p < q := hq.2.1
    obtain ⟨e1, e2⟩ := giv_det hS.t hw (hV.2.1 _ k3).1 ⟨o1.1, by omega, o2.2⟩ h2 g2
    exact cn_det (by rw [h1, g1]) (se_los (se_los (SE_2 hS k3 j3 h3 g3 e1 e2))) h4 g4)
theorem D_turnRound {a : Int} {V U V' U' : mm_M} {e e' r r' : Int} (hV : wA V) (hS : SE V U) (h : C_turnRound a V V' e r) (g : C_turnRound a U U' e' r') : DR V' U' e e' r r' :=
  ok1_det hS h g Iff.rfl (fun hp h g => by
    have k3 := wk3 hp
    have hw := hS.w k3
    refine no9_det hS h g (by rw [hS.t.2.1]) (fun _ h g => ?_)
    obtain ⟨V1, V2, h1, h2, h3, h4, h5, h6⟩ := h
    obtain ⟨U1, U2, g1, g2, g3, g4, g5, g6⟩ := g
    have hv := (hV.2.1 _ k3).1
    have hS1 := SE_1 hS k3 h2 g2 (rev_det hS.t hw hv h1 g1)
    have hl := isK_le k3.k
    have e2 : V1 2 = V 2 := h2 2 (by simp; omega)
    have hv1 : wV V1 (wk a) := ⟨by rw [h1.1]; exact hv.1, by
      rw [h1.2.1]
      unfold cor
      split
      · exact gl_in hV.1 (hv.2.2 _ (by omega))
      · exact hv.2.1, fun i hi => by
      rw [h1.1] at hi
      rw [h1.2.2 i hi, e2]
      exact hv.2.2 _ (by omega)⟩
    have hS2 := SE_1 hS1 k3 h4 g4 (ts_det hS1.t (hS1.w k3) hv1 h3 g3)
    exact cn_det (by rw [h5, g5, (hS2.w k3).2.1]) hS2 h6 g6)
theorem D_rotate {a b : Int} {V U V' U' : mm_M} {e e' r r' : Int} (hV : wA V) (hS : SE V U) (h : C_rotate a b V V' e r) (g : C_rotate a b U U' e' r') : DR V' U' e e' r r' :=
  ok2_det hS h g Iff.rfl Iff.rfl (fun hp _ h g => by
    have k3 := wk3 hp
    have hw := hS.w k3
    refine no9_det hS h g (by unfold hmP; rw [cr_te hV hS k3, hw.1, hw.2.1]) (fun _ h g => ?_)
    obtain ⟨V1, h1, h2, h3, h4⟩ := h
    obtain ⟨U1, g1, g2, g3, g4⟩ := g
    rw [← hw.1] at g1
    have hS1 := SE_1 hS k3 h2 g2 (rot_det hS.t hw (hV.2.1 _ k3).1 h1 g1)
    exact cn_det (by rw [h3, g3, (hS1.w k3).2.1]) (se_losI hS1 (by rw [hw.1])) h4 g4)
theorem D_first {a c f : Int} {V U V' U' : mm_M} {e e' r r' : Int} (hf : f = 0 ∨ f = 1) (hV : wA V) (hS : SE V U) (h : C_first a c f V V' e r) (g : C_first a c f U U' e' r') : DR V' U' e e' r r' :=
  ok1_det hS h g Iff.rfl (fun hp h g => by
    have k3 := wk3 hp.1
    have hw := hS.w k3
    refine no9_det hS h g (ST_te2 hS.t) (fun _ h g => ?_)
    obtain ⟨V0, V1, V2, n, h0, h1, h2, h3, h4, h5, h6⟩ := h
    obtain ⟨U0, U1, U2, m, g0, g1, g2, g3, g4, g5, g6⟩ := g
    have hl := isK_le k3.k
    have hp2 := hp.2
    unfold ic at hp2
    have hT0 : TE V0 U0 := (TE.ofr h0 (by simp) (by simp) (by simp)).sy.tr (hS.t.tr (.ofr g0 (by simp) (by simp) (by simp)))
    have hTb : TE (bgM V0 (wk a) c) (bgM U0 (wk a) c) := (TE.frk k3.k bg_fr).sy.tr (hT0.tr (.frk k3.k bg_fr))
    have eb : bgM V0 (wk a) c (wk a) 2 = 0 ∧ bgM V0 (wk a) c (wk a) 3 = c := by simp [bgM, mm_up]
    have hvb : wV (bgM V0 (wk a) c) (wk a) := ⟨by rw [eb.1]; omega, by rw [eb.2]; omega, fun i hi => by rw [eb.1] at hi; omega⟩
    obtain ⟨en, es⟩ := filR_det hf k3.k n m _ _ V1 U1 hTb bg_SW hvb h1 g1
    have er : r = r' := by rw [h3, g3, en]
    have hA : fr [wk a, wk a + 1, 5, 6, 16] V V2 := (h0.mono (by simp)).tr (((bg_fr (A := V0) (w := wk a) (c := c)).mono (by simp)).tr ((h2.mono (by simp)).tr (h4.mono (by simp))))
    have hB : fr [wk a, wk a + 1, 5, 6, 16] U U2 := (g0.mono (by simp)).tr (((bg_fr (A := U0) (w := wk a) (c := c)).mono (by simp)).tr ((g2.mono (by simp)).tr (g4.mono (by simp))))
    refine cn_det er (SE.mk hS ((TE.ofr hA (by simp; omega) (by simp; omega) (by simp; omega)).sy.tr (hS.t.tr (.ofr hB (by simp; omega) (by simp; omega) (by simp; omega)))) (fun v hv => ?_) ?_ (hA 1 (by simp; omega)) (hB 1 (by simp; omega))) h6 g6
    · have hl2 := isK_le hv.k
      by_cases e : v = wk a
      · rw [e]
        exact (SW.ofr h4 (by simp; omega) (by simp; omega)).sy.tr (es.tr (.ofr g4 (by simp; omega) (by simp; omega)))
      · have hap := wk_ap hv.k k3.k e
        exact (SW.ofr hA (by simp; omega) (by simp; omega)).sy.tr ((hS.w hv).tr (.ofr hB (by simp; omega) (by simp; omega)))
    · exact (ce_losI hS.2.2.1 (w := wk a) (P := 0 < V (wk a) 2 ∨ 0 < r) (P' := 0 < U (wk a) 2 ∨ 0 < r') (by rw [hw.1, er])).e h5 g5)
theorem D_next {a f : Int} {V U V' U' : mm_M} {e e' r r' : Int} (hf : f = 0 ∨ f = 1) (hV : wA V) (hS : SE V U) (h : C_next a f V V' e r) (g : C_next a f U U' e' r') : DR V' U' e e' r r' :=
  ok1_det hS h g Iff.rfl (fun hp h g => by
    have k3 := wk3 hp
    have hw := hS.w k3
    refine no9_det hS h g (by rw [hw.1, hS.t.1]) (fun _ h g => ?_)
    obtain ⟨V1, V2, q, h1, h2, h3, h4, h5⟩ := h
    obtain ⟨U1, U2, q', g1, g2, g3, g4, g5⟩ := g
    have hv := (hV.2.1 _ k3).1
    have k14 : isK 14 := Or.inr (Or.inr (Or.inr rfl))
    have hS1 : SE V1 U1 := hS.ends (.scr (h2.mono (by simp))) (.scr (g2.mono (by simp)))
    have hv1 : wV V1 14 := ⟨by rw [h1.1]; exact hv.1, by rw [h1.2.1]; exact hv.2.1, fun i hi => by
      rw [h1.1] at hi
      rw [h1.2.2 i hi, h2 2 (by simp)]
      exact hv.2.2 i hi⟩
    obtain ⟨eq, es⟩ := nx_det hf hS1.t (cpy_det hw h1 g1) k14 hv1 h3 g3
    subst eq
    refine no9_det hS h5 g5 Iff.rfl (fun hq h g => ?_)
    obtain ⟨b1, V3, b2, b3, b4⟩ := h
    obtain ⟨c1, U3, c2, c3, c4⟩ := g
    have hS2 : SE V2 U2 := hS1.ends (.scr (h4.mono (by simp))) (.scr (g4.mono (by simp)))
    exact cn_det (by rw [b1, c1]) (se_los (SE_1 hS2 k3 b3 c3 (cpy_det (es hq) b2 c2))) b4 c4)
theorem D_copy {a b : Int} {V U V' U' : mm_M} {e e' r r' : Int} (hS : SE V U) (h : C_copy a b V V' e r) (g : C_copy a b U U' e' r') : DR V' U' e e' r r' :=
  ok1_det hS h g Iff.rfl (fun hp h g => by
    have k3 := wk3 hp.1
    have j3 := wk3 hp.2
    have hw := hS.w k3
    have hv := hS.w j3
    refine no9_det hS h g Iff.rfl (fun hne h g => ?_)
    obtain ⟨h1, V0, V1, h2, h3, h4, h5⟩ := h
    obtain ⟨g1, U0, U1, g2, g3, g4, g5⟩ := g
    have hS0 : SE V0 U0 := by
      rw [h2, g2]
      exact se_losI hS (by rw [hw.1, hv.1])
    exact cn_det (by rw [h1, g1, hw.1]) (SE_1 hS0 j3 h4 g4 (cpy_det (hS0.w k3) h3 g3)) h5 g5)
theorem D_length {a : Int} {V U V' U' : mm_M} {e e' r r' : Int} (hS : SE V U) (h : C_length a V V' e r) (g : C_length a U U' e' r') : DR V' U' e e' r r' :=
  ok1_det hS h g Iff.rfl (fun hp h g => ⟨by rw [h.1, g.1, (hS.w (wk3 hp)).1], hS.ends h.2 g.2⟩)
theorem D_cornerAt {a p : Int} {V U V' U' : mm_M} {e e' r r' : Int} (hV : wA V) (hS : SE V U) (h : C_cornerAt a p V V' e r) (g : C_cornerAt a p U U' e' r') : DR V' U' e e' r r' :=
  ok1_det hS h g ⟨fun h => ⟨h.1, by unfold onW; rw [← (hS.w (wk3 h.1)).1]; exact h.2⟩, fun h => ⟨h.1, by unfold onW; rw [(hS.w (wk3 h.1)).1]; exact h.2⟩⟩ (fun hp h g => ⟨by rw [h.1, g.1, cr_te hV hS (wk3 hp.1)], hS.ends h.2 g.2⟩)
theorem D_stepAt {a p : Int} {V U V' U' : mm_M} {e e' r r' : Int} (hS : SE V U) (h : C_stepAt a p V V' e r) (g : C_stepAt a p U U' e' r') : DR V' U' e e' r r' :=
  ok1_det hS h g ⟨fun h => ⟨h.1, h.2.1, by rw [← (hS.w (wk3 h.1)).1]; exact h.2.2⟩, fun h => ⟨h.1, h.2.1, by rw [(hS.w (wk3 h.1)).1]; exact h.2.2⟩⟩ (fun hp h g => ⟨by rw [h.1, g.1]; exact (hS.w (wk3 hp.1)).2.2 _ (by have := hp.2; omega), hS.ends h.2 g.2⟩)
theorem pl_det {A B : mm_M} {w : Nat} {s r r' : Int} (h : SW A B w) (a : plR A w s r) (b : plR B w s r') : r = r' := by
  unfold plR at a b
  rw [← h.1] at b
  rcases a with ⟨a1, a2⟩ | ⟨a1, a2, a3, a4⟩ <;> rcases b with ⟨b1, b2⟩ | ⟨b1, b2, b3, b4⟩
  · rw [a1, b1]
  · exact absurd b3 (by rw [← h.2.2 _ (by omega)]; exact a2 _ (by omega))
  · exact absurd a3 (by rw [h.2.2 _ (by omega)]; exact b2 _ (by omega))
  · by_cases e : r < r'
    · exact absurd a3 (by rw [h.2.2 _ (by omega)]; exact b4 _ (by omega))
    · by_cases e2 : r' < r
      · exact absurd b3 (by rw [← h.2.2 _ (by omega)]; exact a4 _ (by omega))
      · omega
theorem D_find {a s : Int} {V U V' U' : mm_M} {e e' r r' : Int} (hS : SE V U) (h : C_find a s V V' e r) (g : C_find a s U U' e' r') : DR V' U' e e' r r' :=
  ok1_det hS h g (by unfold is; rw [hS.t.1]) (fun hp h g => ⟨pl_det (hS.w (wk3 hp.1)) h.1 g.1, hS.ends h.2 g.2⟩)
theorem D_is {a f : Int} {V U V' U' : mm_M} {e e' r r' : Int} (hV : wA V) (hS : SE V U) (h : C_is a f V V' e r) (g : C_is a f U U' e' r') : DR V' U' e e' r r' :=
  ok1_det hS h g Iff.rfl (fun hp h g => ⟨b01_det h.1 g.1 (by
    have hw := hS.w (wk3 hp)
    unfold hmP
    rw [cr_te hV hS (wk3 hp), hw.1, hw.2.1, hS.t.1]), hS.ends h.2 g.2⟩)
theorem D_same {a b : Int} {V U V' U' : mm_M} {e e' r r' : Int} (hS : SE V U) (h : C_same a b V V' e r) (g : C_same a b U U' e' r') : DR V' U' e e' r r' :=
  ok1_det hS h g Iff.rfl (fun hp h g => ⟨b01_det h.1 g.1 (smR_te (hS.w (wk3 hp.1)) (hS.w (wk3 hp.2))), hS.ends h.2 g.2⟩)
theorem D_turnOf {a b : Int} {V U V' U' : mm_M} {e e' r r' : Int} (hV : wA V) (hS : SE V U) (h : C_turnOf a b V V' e r) (g : C_turnOf a b U U' e' r') : DR V' U' e e' r r' :=
  ok1_det hS h g Iff.rfl (fun hp h g => ⟨tuR_det hS.t (hS.w (wk3 hp.1)) (hS.w (wk3 hp.2)) (hV.2.1 _ (wk3 hp.1)).1 h.1 g.1, hS.ends h.2 g.2⟩)
theorem WI_te {V U : mm_M} (hT : TE V U) : WI V ↔ WI U := by
  unfold WI
  rw [hT.1, hT.2.2.1, hT.2.2.2.1]
theorem D_wordAt {a x f : Int} {V U V' U' : mm_M} {e e' r r' : Int} (hI : WI V) (hS : SE V U) (h : C_wordAt a x f V V' e r) (g : C_wordAt a x f U U' e' r') : DR V' U' e e' r r' :=
  ok2_det hS h g Iff.rfl Iff.rfl (fun hp _ h g => ⟨wdR_det hS.t (hS.w (wk3 hp)) (h.1 hI) (g.1 ((WI_te hS.t).mp hI)), hS.ends h.2 g.2⟩)
theorem st_16 {A : mm_M} {w : Nat} {p : Int} : stM A w p 16 1 = w ∧ stM A w p 16 2 = p ∧ stM A w p 16 3 = -1 ∧ stM A w p 16 4 = 0 := by simp [stM, mm_up]
theorem st_fr {A : mm_M} {w : Nat} {p : Int} : fr [16] A (stM A w p) := (((fr.rf.up (by simp)).up (by simp)).up (by simp)).up (by simp)
theorem SE_c {V U V1 U1 : mm_M} (hS : SE V U) (hf : fr [16] V V1) (hg : fr [16] U U1) (h : CE V1 U1) : SE V1 U1 :=
  SE.mk hS ((TE.ofr hf (by simp) (by simp) (by simp)).sy.tr (hS.t.tr (.ofr hg (by simp) (by simp) (by simp)))) (fun w hw => by
    have hl := isK_le hw.k
    exact (SW.ofr hf (by simp; omega) (by simp; omega)).sy.tr ((hS.w hw).tr (.ofr hg (by simp; omega) (by simp; omega)))) h (hf 1 (by simp)) (hg 1 (by simp))
theorem D_cursor {a p : Int} {V U V' U' : mm_M} {e e' r r' : Int} (hV : wA V) (hS : SE V U) (h : C_cursor a p V V' e r) (g : C_cursor a p U U' e' r') : DR V' U' e e' r r' :=
  ok1_det hS h g ⟨fun h => ⟨h.1, by unfold onW; rw [← (hS.w (wk3 h.1)).1]; exact h.2⟩, fun h => ⟨h.1, by unfold onW; rw [(hS.w (wk3 h.1)).1]; exact h.2⟩⟩ (fun hp h g => cn_det (by rw [h.1, g.1, cr_te hV hS (wk3 hp.1)]) (SE_c hS st_fr st_fr ⟨by rw [st_16.1, st_16.1], fun _ => ⟨by rw [st_16.2.2.2, st_16.2.2.2], fun _ => ⟨by rw [st_16.2.1, st_16.2.1], by rw [st_16.2.2.1, st_16.2.2.1]⟩⟩⟩) h.2 g.2)
/-- a cursor that is there stands on a walk, and all of it is the same on both sides -/
theorem ce_in {V U : mm_M} (hV : wA V) (hS : SE V U) (h : V 16 1 ≠ 0 ∧ V 16 4 = 0) : isW3 (V 16 1).toNat ∧ U 16 1 = V 16 1 ∧ U 16 4 = 0 ∧ U 16 2 = V 16 2 ∧ U 16 3 = V 16 3 := by
  have h1 := hS.2.2.1
  have h2 := h1.2 h.1
  have h3 := h2.2 h.2
  exact ⟨hV.2.2.1.resolve_left h.1, h1.1.symm, by rw [← h2.1]; exact h.2, h3.1.symm, h3.2.symm⟩
theorem ce_there {V U : mm_M} (hS : SE V U) : (V 16 1 ≠ 0 ∧ V 16 4 = 0) ↔ (U 16 1 ≠ 0 ∧ U 16 4 = 0) := by
  have h1 := hS.2.2.1
  rw [← h1.1]
  exact ⟨fun h => ⟨h.1, by rw [← (h1.2 h.1).1]; exact h.2⟩, fun h => ⟨h.1, by rw [(h1.2 h.1).1]; exact h.2⟩⟩
theorem hs_te0 {V U : mm_M} {f : Int} (hV : wA V) (hS : SE V U) (h : hsP V f) : hsP U f := by
  obtain ⟨a, b, c, d⟩ := ce_in hV hS ⟨h.1, h.2.1⟩
  have hw := hS.w a
  refine ⟨by rw [b]; exact h.1, c, fun hf => ?_, fun hf => ?_⟩
  · rw [d.1, b, ← hw.1]; exact h.2.2.1 hf
  · rw [d.1]; exact h.2.2.2 hf
theorem hs_te {V U : mm_M} {f : Int} (hV : wA V) (hU : wA U) (hS : SE V U) : hsP V f ↔ hsP U f := ⟨hs_te0 hV hS, hs_te0 hU hS.sy⟩
theorem D_cursorCan {f : Int} {V U V' U' : mm_M} {e e' r r' : Int} (hV : wA V) (hU : wA U) (hS : SE V U) (h : C_cursorCan f V V' e r) (g : C_cursorCan f U U' e' r') : DR V' U' e e' r r' :=
  e0_det h.1 g.1 ⟨b01_det h.2.1 g.2.1 (hs_te hV hU hS), hS.ends h.2.2 g.2.2⟩
theorem pa_te {V U : mm_M} {f : Int} (hV : wA V) (hS : SE V U) : paF V f = paF U f := by
  unfold paF
  by_cases h : V 16 1 ≠ 0 ∧ V 16 4 = 0
  · obtain ⟨a, b, c, d⟩ := ce_in hV hS h
    rw [if_pos h, if_pos ((ce_there hS).mp h), d.1]
  · rw [if_neg h, if_neg (fun h2 => h ((ce_there hS).mpr h2))]
theorem D_cursorPlace {f : Int} {V U V' U' : mm_M} {e e' r r' : Int} (hV : wA V) (hS : SE V U) (h : C_cursorPlace f V V' e r) (g : C_cursorPlace f U U' e' r') : DR V' U' e e' r r' :=
  e0_det h.1 g.1 ⟨by rw [h.2.1, g.2.1, pa_te hV hS], hS.ends h.2.2 g.2.2⟩
theorem tl_in {V : mm_M} {f : Int} (hV : wA V) (h : hsP V f) : 0 ≤ tlP V f ∧ tlP V f < V (V 16 1).toNat 2 := by
  have := hV.2.2.2.2 h.1 h.2.1
  unfold tlP
  by_cases e : f = 0
  · rw [if_pos e]
    have := h.2.2.2 e
    omega
  · rw [if_neg e]
    have := h.2.2.1 e
    omega
theorem D_cursorGo {f : Int} {V U V' U' : mm_M} {e e' r r' : Int} (hV : wA V) (hU : wA U) (hS : SE V U) (h : C_cursorGo f V V' e r) (g : C_cursorGo f U U' e' r') : DR V' U' e e' r r' := by
  obtain ⟨h0, V1, h1, h2⟩ := h
  obtain ⟨g0, U1, g1, g2⟩ := g
  refine e0_det h0 g0 ?_
  have he := hs_te (f := f) hV hU hS
  rcases h1 with ⟨a1, a2, a3⟩ | ⟨a1, a2, a3, a4, a5, a6, a7⟩ <;> rcases g1 with ⟨b1, b2, b3⟩ | ⟨b1, b2, b3, b4, b5, b6, b7⟩
  · subst a3
    subst b3
    exact cn_det (by rw [a2, b2]) hS h2 g2
  · exact absurd (he.mpr b1) a1
  · exact absurd (he.mp a1) b1
  · obtain ⟨x1, x2, x3, x4, x5⟩ := ce_in hV hS ⟨a1.1, a1.2.1⟩
    have hw := hS.w x1
    have et : tlP U f = tlP V f := by unfold tlP; rw [x4]
    have ti := tl_in hV a1
    refine cn_det ?_ (SE_c hS a3 b3 ⟨by rw [a4, b4, x2], fun _ => ⟨by rw [a5, b5, x3]; exact a1.2.1, fun _ => ⟨by rw [a7, b7, x4], by rw [a6, b6, et]⟩⟩⟩) h2 g2
    rw [a2, b2, x2, et]
    exact hw.2.2 _ (by omega)
theorem et_te0 {V U : mm_M} (hV : wA V) (hS : SE V U) (h : V 16 1 ≠ 0 ∧ V 16 4 = 0 ∧ 0 ≤ V 16 3) : etO U = etO V ∧ 0 ≤ etO V ∧ etO V < 2 * V 2 4 := by
  obtain ⟨x1, x2, x3, x4, x5⟩ := ce_in hV hS ⟨h.1, h.2.1⟩
  have hw := hS.w x1
  have hc := hV.2.2.2.2 h.1 h.2.1
  have hv := (hV.2.1 _ x1).1.2.2 (V 16 3).toNat (by omega)
  refine ⟨?_, hv⟩
  unfold etO
  rw [x2, x5]
  exact (hw.2.2 _ (by omega)).symm
theorem ets_te {V U : mm_M} {s : Int} (hV : wA V) (hS : SE V U) (hs : 0 ≤ s ∧ s < V 2 4) (h : V 16 1 ≠ 0 ∧ V 16 4 = 0 ∧ 0 ≤ V 16 3) : etS U s = etS V s := by
  obtain ⟨a, b⟩ := et_te0 hV hS h
  unfold etS
  rw [a, sr_te hS.t b, gl_te hS.t b, bw_te hS.t hs]
theorem etP_te0 {V U : mm_M} {s : Int} (hV : wA V) (hS : SE V U) (hs : 0 ≤ s ∧ s < V 2 4) (h : etP V s) : etP U s := by
  obtain ⟨x1, x2, x3, x4, x5⟩ := ce_in hV hS ⟨h.1.1, h.1.2.1⟩
  have hw := hS.w x1
  refine ⟨⟨by rw [x2]; exact h.1.1, x3, by rw [x5]; exact h.1.2.2⟩, by rw [ets_te hV hS hs h.1]; exact h.2.1, fun i hi he => ?_⟩
  rw [x2, ← hw.1] at hi
  rw [x2, ← hw.2.2 i hi] at he
  rw [x5]
  exact h.2.2 i hi he
theorem bw_in {V : mm_M} {s a b : Int} (hs : 0 ≤ s ∧ s < V 2 4) : bw V s a b = -1 ∨ (0 ≤ bw V s a b ∧ bw V s a b < 2 * V 2 4) := by
  unfold bw
  split
  · rcases lv_in (A := V) (s := s) (c := a) hs with h | h
    · exact Or.inl h
    · exact Or.inr ⟨h.1, h.2.1⟩
  · exact Or.inl rfl
theorem D_cursorSet {s : Int} {V U V' U' : mm_M} {e e' r r' : Int} (hV : wA V) (hU : wA U) (hS : SE V U) (h : C_cursorSet s V V' e r) (g : C_cursorSet s U U' e' r') : DR V' U' e e' r r' :=
  ok1_det hS h g (by unfold is; rw [hS.t.1]) (fun hp h g => by
    obtain ⟨V1, h1, h2⟩ := h
    obtain ⟨U1, g1, g2⟩ := g
    have hs : 0 ≤ s ∧ s < V 2 4 := hp
    have he : etP V s ↔ etP U s := ⟨etP_te0 hV hS hs, etP_te0 hU hS.sy (by rw [← hS.t.1]; exact hs)⟩
    rcases h1 with ⟨a1, a2, a3⟩ | ⟨a1, a2, a3⟩ <;> rcases g1 with ⟨b1, b2, b3⟩ | ⟨b1, b2, b3⟩
    · subst a3
      subst b3
      exact cn_det (by rw [a2, b2]) hS h2 g2
    · exact absurd (he.mpr b1) a1
    · exact absurd (he.mp a1) b1
    · obtain ⟨x1, x2, x3, x4, x5⟩ := ce_in hV hS ⟨a1.1.1, a1.1.2.1⟩
      have hw := hS.w x1
      have hl := isK_le x1.k
      have e1 := (et_te0 hV hS a1.1).1
      refine cn_det (by rw [a2, b2, e1]) (SE_1 hS x1 (by rw [a3]; exact fr.rf.up (by simp)) (by rw [b3, x2]; exact fr.rf.up (by simp)) ?_) h2 g2
      rw [a3, b3, x2, x5, ets_te hV hS hs a1.1]
      refine ⟨by rw [mm_up_o _ (by omega), mm_up_o _ (by omega)]; exact hw.1, by rw [mm_up_o _ (by omega), mm_up_o _ (by omega)]; exact hw.2.1, fun i hi => ?_⟩
      rw [mm_up_o _ (by omega)] at hi
      by_cases e : i = (V 16 3).toNat
      · rw [e, mm_up_sm, mm_up_sm]
      · rw [mm_up_ob2 e, mm_up_ob2 e]
        exact hw.2.2 i hi)
theorem fh_te {V U : mm_M} {s : Int} (hV : wA V) (hS : SE V U) (hs : 0 ≤ s ∧ s < V 2 4) (h : V 16 1 ≠ 0 ∧ V 16 4 = 0) : fhF U (V 16 1).toNat s = fhF V (V 16 1).toNat s := by
  obtain ⟨x1, x2, x3, x4, x5⟩ := ce_in hV hS h
  have hw := hS.w x1
  have ht := hS.t.2.2.2.2 s.toNat (by omega)
  unfold fhF
  rw [x4, ← hw.1, ← cr_te hV hS x1, ← lv_te hS.t hs, ← cm_te hS.t hs, ← ht.1, ← ht.2]
theorem liP_te0 {V U : mm_M} {s : Int} (hV : wA V) (hS : SE V U) (hs : 0 ≤ s ∧ s < V 2 4) (h : liP V s) : liP U s := by
  obtain ⟨x1, x2, x3, x4, x5⟩ := ce_in hV hS h.1
  have hw := hS.w x1
  refine ⟨⟨by rw [x2]; exact h.1.1, x3⟩, ?_, ?_⟩
  · rw [x2]
    exact (wN_te hw).mp h.2.1
  · rw [x2, fh_te hV hS hs h.1]
    exact h.2.2
theorem fh_in {V : mm_M} {w : Nat} {s : Int} (hs : 0 ≤ s ∧ s < V 2 4) : fhF V w s = -1 ∨ (0 ≤ fhF V w s ∧ fhF V w s < 2 * V 2 4) := by
  unfold fhF
  split
  · rcases lv_in (A := V) (s := s) (c := cor V w (V 16 2)) hs with h | h
    · exact Or.inl h
    · exact Or.inr ⟨h.1, h.2.1⟩
  · split
    · rcases cm_in (A := V) (s := s) (c := cor V w (V 16 2)) hs with h | h
      · exact Or.inl h
      · exact Or.inr ⟨h.1, h.2.1⟩
    · split
      · exact Or.inr (by omega)
      · exact Or.inl rfl
/-- a walk, and the cursor, are others -/
theorem SE_wc {w : Nat} {V U V1 U1 : mm_M} (hS : SE V U) (hw : isW3 w) (hf : fr [w, w + 1, 16] V V1) (hg : fr [w, w + 1, 16] U U1) (h : SW V1 U1 w) (hc : CE V1 U1) : SE V1 U1 := by
  have hl := isK_le hw.k
  refine SE.mk hS ((TE.ofr hf (by simp; omega) (by simp; omega) (by simp; omega)).sy.tr (hS.t.tr (.ofr hg (by simp; omega) (by simp; omega) (by simp; omega)))) (fun v hv => ?_) hc (hf 1 (by simp; omega)) (hg 1 (by simp; omega))
  have hl2 := isK_le hv.k
  by_cases e : v = w
  · rw [e]; exact h
  · have hap := wk_ap hv.k hw.k e
    exact (SW.ofr hf (by simp; omega) (by simp; omega)).sy.tr ((hS.w hv).tr (.ofr hg (by simp; omega) (by simp; omega)))
theorem D_cursorAdd {s : Int} {V U V' U' : mm_M} {e e' r r' : Int} (hV : wA V) (hU : wA U) (hS : SE V U) (h : C_cursorAdd s V V' e r) (g : C_cursorAdd s U U' e' r') : DR V' U' e e' r r' :=
  ok1_det hS h g (by unfold is; rw [hS.t.1]) (fun hp h g => by
    obtain ⟨V1, h1, h2⟩ := h
    obtain ⟨U1, g1, g2⟩ := g
    have hs : 0 ≤ s ∧ s < V 2 4 := hp
    have he : liP V s ↔ liP U s := ⟨liP_te0 hV hS hs, liP_te0 hU hS.sy (by rw [← hS.t.1]; exact hs)⟩
    rcases h1 with ⟨a1, a2, a3⟩ | ⟨a1, a2, A, a3, a4, a5, a6, a7, a8, a9, a10, a11, a12⟩ <;> rcases g1 with ⟨b1, b2, b3⟩ | ⟨b1, b2, B, b3, b4, b5, b6, b7, b8, b9, b10, b11, b12⟩
    · subst a3
      subst b3
      exact cn_det (by rw [a2, b2]) hS h2 g2
    · exact absurd (he.mpr b1) a1
    · exact absurd (he.mp a1) b1
    · obtain ⟨x1, x2, x3, x4, x5⟩ := ce_in hV hS a1.1
      have hw := hS.w x1
      rw [x2, x4, fh_te hV hS hs a1.1] at b4
      rw [x2] at b5 b6 b7
      rw [x2, x4, fh_te hV hS hs a1.1] at b8
      have hd := put_det hw a4 b4
      have hfi : 0 ≤ fhF V (V 16 1).toNat s ∧ fhF V (V 16 1).toNat s < 2 * V 2 4 := by
        rcases fh_in (V := V) (w := (V 16 1).toNat) hs with h | h
        · exact absurd h a1.2.2
        · exact h
      refine cn_det (by rw [a2, b2, x4]) (SE_wc hS x1 a5 b5 ⟨by rw [a6, b6]; exact hd.1, by rw [a8, b8, sr_te hS.t hfi, hw.2.1], fun i hi => ?_⟩ ⟨by rw [a9, b9, x2], fun _ => ⟨by rw [a12, b12, x3]; exact a1.1.2, fun _ => ⟨by rw [a10, b10, x4], by rw [a11, b11]⟩⟩⟩) h2 g2
      rw [a6] at hi
      rw [a7, b7]
      exact hd.2.2 i hi)
theorem rtP_te0 {V U : mm_M} (hV : wA V) (hS : SE V U) (h : rtP V) : rtP U := by
  obtain ⟨x1, x2, x3, x4, x5⟩ := ce_in hV hS ⟨h.1.1, h.1.2.1⟩
  have hw := hS.w x1
  obtain ⟨e1, e2⟩ := et_te0 hV hS h.1
  refine ⟨⟨by rw [x2]; exact h.1.1, x3, by rw [x5]; exact h.1.2.2⟩, ?_⟩
  rw [x5, x2, ← hw.1, e1, ← sr_te hS.t e2, ← gl_te hS.t e2]
  exact h.2
theorem D_cursorRemove {V U V' U' : mm_M} {e e' r r' : Int} (hV : wA V) (hU : wA U) (hS : SE V U) (h : C_cursorRemove V V' e r) (g : C_cursorRemove U U' e' r') : DR V' U' e e' r r' := by
  obtain ⟨h0, V1, h1, h2⟩ := h
  obtain ⟨g0, U1, g1, g2⟩ := g
  refine e0_det h0 g0 ?_
  have he : rtP V ↔ rtP U := ⟨rtP_te0 hV hS, rtP_te0 hU hS.sy⟩
  rcases h1 with ⟨a1, a2, a3⟩ | ⟨a1, a2, A, a3, a4, a5, a6, a7, a8, a9, a10, a11, a12⟩ <;> rcases g1 with ⟨b1, b2, b3⟩ | ⟨b1, b2, B, b3, b4, b5, b6, b7, b8, b9, b10, b11, b12⟩
  · subst a3
    subst b3
    exact cn_det (by rw [a2, b2]) hS h2 g2
  · exact absurd (he.mpr b1) a1
  · exact absurd (he.mp a1) b1
  · obtain ⟨x1, x2, x3, x4, x5⟩ := ce_in hV hS ⟨a1.1.1, a1.1.2.1⟩
    have hw := hS.w x1
    obtain ⟨e1, e2⟩ := et_te0 hV hS a1.1
    rw [x2, x5] at b4
    rw [x2] at b5 b6 b7
    rw [x2, x5, e1, ← hw.1] at b8
    have hd := tak_det hw a4 b4
    refine cn_det (by rw [a2, b2, e1]) (SE_wc hS x1 a5 b5 ⟨by rw [a6, b6]; exact hd.1, by rw [a8, b8, gl_te hS.t e2, hw.2.1], fun i hi => ?_⟩ ⟨by rw [a9, b9, x2], fun _ => ⟨by rw [a12, b12, x3]; exact a1.1.2.1, fun _ => ⟨by rw [a10, b10, x4, x5], by rw [a11, b11]⟩⟩⟩) h2 g2
    rw [a6] at hi
    rw [a7, b7]
    exact hd.2.2 i hi
theorem D_house {x : Int} {V U V' U' : mm_M} {e e' r r' : Int} (hS : SE V U) (h : C_house x V V' e r) (g : C_house x U U' e' r') : DR V' U' e e' r r' :=
  ok1_det hS h g Iff.rfl (fun _ h g => ⟨by rw [h.1, g.1, hS.2.2.2.1, hS.2.2.2.2.1, hS.2.2.2.2.2], hS.ends h.2 g.2⟩)
theorem D_knock {V U V' U' : mm_M} {e e' r r' : Int} (hS : SE V U) (h : C_knock V V' e r) (g : C_knock U U' e' r') : DR V' U' e e' r r' := by
  obtain ⟨n1, n2, n3⟩ := hS.2.2.2
  refine e0_det h.1 g.1 ⟨by rw [h.2.1, g.2.1, n3], SE.ends ?_ h.2.2 g.2.2⟩
  refine ⟨(TE.of (mm_up_o _ (by omega)) (mm_up_o _ (by omega)) (mm_up_o _ (by omega))).sy.tr (hS.t.tr (.of (mm_up_o _ (by omega)) (mm_up_o _ (by omega)) (mm_up_o _ (by omega)))), fun w hw => ?_, hS.2.2.1.e (mm_up_o _ (by omega)) (mm_up_o _ (by omega)), ?_⟩
  · have hl := isK_le hw.k
    exact (SW.of (mm_up_o _ (by omega)) (mm_up_o _ (by omega))).sy.tr ((hS.w hw).tr (.of (mm_up_o _ (by omega)) (mm_up_o _ (by omega))))
  · exact ⟨by rw [mm_up_ob2 (by omega), mm_up_ob2 (by omega)]; exact n1, by rw [mm_up_ob2 (by omega), mm_up_ob2 (by omega)]; exact n2, by rw [mm_up_sm, mm_up_sm, n3]⟩
/-! a TOWN OF WORDS has no street more than there are words -/
def WT (V V' : mm_M) : Prop := WI V → WI V'
theorem WI_0 {V : mm_M} (h : V 2 6 = 0) : WI V := fun h2 => by omega
theorem WI_2 {V V' : mm_M} (h4 : V' 2 4 = V 2 4) (h6 : V' 2 6 = V 2 6) (h7 : V' 2 7 = V 2 7) (h : WI V) : WI V' := by
  unfold WI
  rw [h4, h6, h7]
  exact h
theorem WT_s {A B : mm_M} (h : SE A B) : WT A B := (WI_te h.t).mp
theorem WT_cn {A V' : mm_M} {r : Int} (h : SE (cnF A r) V') (hA : WI A) : WI V' := WT_s h (WI_2 (by rw [cnF_o (by omega)]) (by rw [cnF_o (by omega)]) (by rw [cnF_o (by omega)]) hA)
theorem ok1_W {P : Prop} {V V' : mm_M} {e : Int} {R : Prop} (h : ok1 P V V' e R) (k : P → R → WT V V') : WT V V' := by
  rcases h with ⟨_, _, c⟩ | ⟨a, _, c⟩
  · exact WT_s c
  · exact k a c
theorem ok2_W {P O : Prop} {V V' : mm_M} {e : Int} {R : Prop} (h : ok2 P O V V' e R) (k : R → WT V V') : WT V V' := by
  rcases h with ⟨_, _, c⟩ | ⟨_, _, _, c⟩ | ⟨_, _, _, c⟩
  · exact WT_s c
  · exact WT_s c
  · exact k c
theorem no9_W {P : Prop} {V V' : mm_M} {r : Int} {R : Prop} (h : no9 P V V' r R) (k : P → R → WT V V') : WT V V' := by
  rcases h with ⟨_, _, c⟩ | ⟨a, c⟩
  · exact WT_cn c
  · exact k a c
theorem WT_f {S : List Nat} {V A V' : mm_M} {r : Int} (hf : fr S V A) (h2 : 2 ∉ S) (h : SE (cnF A r) V') : WT V V' := fun hV => WT_cn h (WI_2 (by rw [hf 2 h2]) (by rw [hf 2 h2]) (by rw [hf 2 h2]) hV)
theorem WT_2 {V A V' : mm_M} {r : Int} (h2 : A 2 = V 2) (h : SE (cnF A r) V') : WT V V' := fun hV => WT_cn h (WI_2 (by rw [h2]) (by rw [h2]) (by rw [h2]) hV)

