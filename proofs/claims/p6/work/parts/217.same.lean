/-! when two states are the same to all who ask: town, walks, cursor, counters; and what the relations make of the same states -/
def TE (A B : mm_M) : Prop := A 2 4 = B 2 4 ∧ A 2 5 = B 2 5 ∧ A 2 6 = B 2 6 ∧ A 2 7 = B 2 7 ∧ ∀ i : Nat, i < A 2 4 → A 3 i = B 3 i ∧ A 4 i = B 4 i
def SW (A B : mm_M) (w : Nat) : Prop := A w 2 = B w 2 ∧ A w 3 = B w 3 ∧ ∀ i : Nat, i < A w 2 → A (w + 1) i = B (w + 1) i
theorem TE.rf {A : mm_M} : TE A A := ⟨rfl, rfl, rfl, rfl, fun _ _ => ⟨rfl, rfl⟩⟩
theorem SW.rf {A : mm_M} {w : Nat} : SW A A w := ⟨rfl, rfl, fun _ _ => rfl⟩
theorem TE.sy {A B : mm_M} (h : TE A B) : TE B A := ⟨h.1.symm, h.2.1.symm, h.2.2.1.symm, h.2.2.2.1.symm, fun i hi => by have := h.2.2.2.2 i (by rw [h.1]; exact hi); exact ⟨this.1.symm, this.2.symm⟩⟩
theorem SW.sy {A B : mm_M} {w : Nat} (h : SW A B w) : SW B A w := ⟨h.1.symm, h.2.1.symm, fun i hi => (h.2.2 i (by rw [h.1]; exact hi)).symm⟩
theorem TE.tr {A B C : mm_M} (h : TE A B) (g : TE B C) : TE A C := ⟨h.1.trans g.1, h.2.1.trans g.2.1, h.2.2.1.trans g.2.2.1, h.2.2.2.1.trans g.2.2.2.1, fun i hi => by have a := h.2.2.2.2 i hi; have b := g.2.2.2.2 i (by rw [← h.1]; exact hi); exact ⟨a.1.trans b.1, a.2.trans b.2⟩⟩
theorem SW.tr {A B C : mm_M} {w : Nat} (h : SW A B w) (g : SW B C w) : SW A C w := ⟨h.1.trans g.1, h.2.1.trans g.2.1, fun i hi => (h.2.2 i hi).trans (g.2.2 i (by rw [← h.1]; exact hi))⟩
theorem TE.of {A B : mm_M} (h2 : B 2 = A 2) (h3 : B 3 = A 3) (h4 : B 4 = A 4) : TE A B := by
  unfold TE
  rw [h2, h3, h4]
  exact ⟨rfl, rfl, rfl, rfl, fun _ _ => ⟨rfl, rfl⟩⟩
theorem TE.ofr {S : List Nat} {A B : mm_M} (h : fr S A B) (h2 : 2 ∉ S) (h3 : 3 ∉ S) (h4 : 4 ∉ S) : TE A B := .of (h 2 h2) (h 3 h3) (h 4 h4)
theorem SW.of {A B : mm_M} {w : Nat} (h2 : B w = A w) (h3 : B (w + 1) = A (w + 1)) : SW A B w := by
  unfold SW
  rw [h2, h3]
  exact ⟨rfl, rfl, fun _ _ => rfl⟩
theorem SW.ofr {S : List Nat} {A B : mm_M} {w : Nat} (h : fr S A B) (h2 : w ∉ S) (h3 : w + 1 ∉ S) : SW A B w := .of (h w h2) (h (w + 1) h3)
theorem TE.frk {A B : mm_M} {w : Nat} (hw : isK w) (h : fr [w, w + 1] A B) : TE A B := .of (h.k hw).1 (h.k hw).2.1 (h.k hw).2.2
theorem TE.fr5 {A B : mm_M} (h : fr [5, 6] A B) : TE A B := .ofr h (by simp) (by simp) (by simp)
theorem SW.fr5 {A B : mm_M} {w : Nat} (hw : isK w) (h : fr [5, 6] A B) : SW A B w := by
  have := wk_no hw
  exact .ofr h (by simp; omega) (by simp; omega)
theorem tW.te {A B : mm_M} (h : TE A B) (h1 : tW A) (h2 : ∀ i : Nat, i < 30 → (0 ≤ B 3 i ∧ B 3 i < 10) ∧ (0 ≤ B 4 i ∧ B 4 i < 10)) : tW B := by
  obtain ⟨a, b, c, d, e⟩ := h1
  obtain ⟨f, g, i, j, -⟩ := h
  exact ⟨by omega, h2, by omega, by omega, by omega⟩
theorem gl_te {A B : mm_M} {s : Int} (h : TE A B) (hs : 0 ≤ s ∧ s < 2 * A 2 4) : gl A s = gl B s := by
  have := h.2.2.2.2 (s / 2).toNat (by omega)
  unfold gl
  rw [this.1, this.2]
theorem sr_te {A B : mm_M} {s : Int} (h : TE A B) (hs : 0 ≤ s ∧ s < 2 * A 2 4) : sr A s = sr B s := by
  have := h.2.2.2.2 (s / 2).toNat (by omega)
  unfold sr
  rw [this.1, this.2]
theorem lv_te {A B : mm_M} {s c : Int} (h : TE A B) (hs : 0 ≤ s ∧ s < A 2 4) : lv A s c = lv B s c := by
  have := h.2.2.2.2 s.toNat (by omega)
  unfold lv
  rw [this.1, this.2, h.2.1]
theorem cm_te {A B : mm_M} {s c : Int} (h : TE A B) (hs : 0 ≤ s ∧ s < A 2 4) : cm A s c = cm B s c := by
  have := h.2.2.2.2 s.toNat (by omega)
  unfold cm
  rw [this.1, this.2, h.2.1]
theorem lv_in {A : mm_M} {s c : Int} (hs : 0 ≤ s ∧ s < A 2 4) : lv A s c = -1 ∨ (0 ≤ lv A s c ∧ lv A s c < 2 * A 2 4 ∧ lv A s c / 2 = s) := by
  unfold lv
  split
  · right; omega
  · split
    · right; omega
    · left; rfl
theorem cm_in {A : mm_M} {s c : Int} (hs : 0 ≤ s ∧ s < A 2 4) : cm A s c = -1 ∨ (0 ≤ cm A s c ∧ cm A s c < 2 * A 2 4 ∧ cm A s c / 2 = s) := by
  unfold cm
  split
  · right; omega
  · split
    · right; omega
    · left; rfl
theorem bw_te {A B : mm_M} {s a b : Int} (h : TE A B) (hs : 0 ≤ s ∧ s < A 2 4) : bw A s a b = bw B s a b := by
  have e := lv_te (c := a) h hs
  rcases lv_in (c := a) hs with g | g
  · unfold bw
    rw [← e, g, if_neg (by omega), if_neg (by omega)]
  · unfold bw
    rw [← e, ← gl_te h ⟨g.1, g.2.1⟩]
theorem cor_te {A B : mm_M} {w : Nat} {p : Int} (h : TE A B) (hw : SW A B w) (hv : wV A w) : cor A w p = cor B w p := by
  unfold cor
  rw [← hw.1]
  by_cases hp : 0 < p ∧ p ≤ A w 2
  · have h1 := hv.2.2 (p - 1).toNat (by omega)
    rw [if_pos hp, if_pos hp, ← hw.2.2 (p - 1).toNat (by omega), gl_te h h1]
  · rw [if_neg hp, if_neg hp, hw.2.1]
theorem stp_te {A B : mm_M} {w : Nat} {p : Int} (hw : SW A B w) : stp A w p = stp B w p := by
  unfold stp
  rw [← hw.1]
  by_cases hp : 0 ≤ p ∧ p < A w 2
  · rw [if_pos hp, if_pos hp, ← hw.2.2 p.toNat (by omega)]
  · rw [if_neg hp, if_neg hp]
theorem nwk_te {A B : mm_M} {w : Nat} (h : TE A B) (hw : SW A B w) : ∀ i : Nat, i ≤ A w 2 → nwk A w i = nwk B w i
  | 0, _ => by
    simp only [nwk]
    rw [h.1]
  | i + 1, hi => by
    simp only [nwk]
    rw [nwk_te h hw i (by omega), hw.2.2 i (by omega)]
theorem wN_te {A B : mm_M} {w : Nat} {s : Int} (hw : SW A B w) : wN A w s ↔ wN B w s := by
  unfold wN
  rw [← hw.1]
  exact ⟨fun h i hi => by rw [← hw.2.2 i hi]; exact h i hi, fun h i hi => by rw [hw.2.2 i hi]; exact h i hi⟩
theorem oc_te {F G : Nat → Int} {S c : Int} : ∀ n : Nat, (∀ i, i < n → F i = G i) → oc F S c n = oc G S c n
  | 0, _ => rfl
  | n + 1, h => by
    simp only [oc]
    rw [oc_te n (fun i hi => h i (by omega)), h n (by omega)]
theorem odn_te {F G T U : Nat → Int} {n : Nat} {ow S : Int} (h : ∀ i, i < n → F i = G i) (g : ∀ i, i < n → T i = U i) : ∀ c : Nat, odn F T n ow S c = odn G U n ow S c
  | 0 => rfl
  | c + 1 => by
    simp only [odn]
    rw [odn_te h g c, oc_te n h, oc_te n g]
theorem HG_te {F G T U : Nat → Int} {n : Nat} {S : Int} (h : ∀ i, i < n → F i = G i) (g : ∀ i, i < n → T i = U i) (hH : HG F T n S) : HG G U n S := by
  intro P h1 h2 k hk hb
  rw [← h k hk]
  refine hH P (fun k hk hb => ?_) ?_ k hk hb
  · rw [h k hk, g k hk]
    exact h1 k hk hb
  · obtain ⟨k, hk, hb, hp⟩ := h2
    exact ⟨k, hk, hb, by rw [h k hk]; exact hp⟩
theorem ST_te1 {F G T U : Nat → Int} {n : Nat} {ow S c : Int} (h : ∀ i, i < n → F i = G i) (g : ∀ i, i < n → T i = U i) (hS : ST F T n ow S c) : ST G U n ow S c := by
  unfold ST at hS ⊢
  rw [odn_te h g, oc_te n h, oc_te n g] at hS
  rcases hS with hS | hS
  · exact Or.inl hS
  · exact Or.inr ⟨HG_te h g hS.1, hS.2⟩
/-- whether the state's town can be walked so -/
def STV (A : mm_M) (S c : Int) : Prop := ST (A 3) (A 4) (A 2 4).toNat (A 2 5) S c
theorem ST_te0 {A B : mm_M} {S c : Int} (h : TE A B) (hS : STV A S c) : STV B S c := by
  unfold STV at hS ⊢
  rw [← h.1, ← h.2.1]
  exact ST_te1 (fun i hi => (h.2.2.2.2 i (by omega)).1) (fun i hi => (h.2.2.2.2 i (by omega)).2) hS
theorem ST_te {A B : mm_M} {S c : Int} (h : TE A B) : STV A S c ↔ STV B S c := ⟨ST_te0 h, ST_te0 h.sy⟩
theorem whS_te {A B : mm_M} {S c : Int} {s : Nat} (h : TE A B) (hs : s < (A 2 4).toNat) (hw : whS A S c s) : whS B S c s := by
  have e := lv_te (c := c) (s := (s : Int)) h (by omega)
  obtain ⟨h1, h2, h3⟩ := hw
  have h4 : STV A (clr S s) (gl A (lv A s c)) := h3
  rcases lv_in (A := A) (c := c) (s := (s : Int)) (by omega) with g | g
  · omega
  · rw [gl_te h ⟨g.1, g.2.1⟩, e] at h4
    rw [e] at h2
    exact ⟨h1, h2, ST_te0 h h4⟩
theorem onR_det {A B : mm_M} {S c up r r' : Int} (h : TE A B) (hu : up = 0 ∨ up = 1) (h1 : onR A S c up r) (h2 : onR B S c up r') : r = r' := by
  have e : (B 2 4).toNat = (A 2 4).toNat := by rw [h.1]
  have el : ∀ s : Nat, s < (A 2 4).toNat → lv A s c = lv B s c := fun s hs => lv_te h (by omega)
  unfold onR at h1 h2
  rw [e] at h2
  rcases h1 with ⟨a, h1⟩ | ⟨s, h1, b1, a1, a2, a3⟩ <;> rcases h2 with ⟨b, h2⟩ | ⟨t, h2, d1, c1, c2, c3⟩
  · omega
  · have := h1 t h2 d1
    rw [el t h2] at this
    omega
  · have := h2 s h1 b1
    rw [← el s h1] at this
    omega
  · rcases Nat.lt_trichotomy s t with g | g | g
    · rcases hu with hu | hu
      · have := a3 t h2 (fun e => by omega) (fun _ => g) d1
        rw [el t h2] at this
        omega
      · have := c3 s h1 (fun _ => g) (fun e => by omega) b1
        rw [← el s h1] at this
        omega
    · subst g
      rw [a1, c1, el s h1]
    · rcases hu with hu | hu
      · have := c3 s h1 (fun e => by omega) (fun _ => g) b1
        rw [← el s h1] at this
        omega
      · have := a3 t h2 (fun _ => g) (fun e => by omega) d1
        rw [el t h2] at this
        omega
theorem whR_det {A B : mm_M} {S c b up r r' : Int} (h : TE A B) (hu : up = 0 ∨ up = 1) (h1 : whR A S c b up r) (h2 : whR B S c b up r') : r = r' := by
  have e : (B 2 4).toNat = (A 2 4).toNat := by rw [h.1]
  have el : ∀ s : Nat, s < (A 2 4).toNat → lv A s c = lv B s c := fun s hs => lv_te h (by omega)
  have ew : ∀ s : Nat, s < (A 2 4).toNat → whS A S c s → whS B S c s := fun s hs => whS_te h hs
  have ew2 : ∀ s : Nat, s < (A 2 4).toNat → whS B S c s → whS A S c s := fun s hs => whS_te h.sy (by omega)
  unfold whR at h1 h2
  rw [e] at h2
  rcases h1 with ⟨a, h1⟩ | ⟨s, h1, p1, p2, b1, a1, a2, a3⟩ <;> rcases h2 with ⟨b, h2⟩ | ⟨t, h2, q1, q2, d1, c1, c2, c3⟩
  · omega
  · exact absurd (ew2 t h2 d1) (h1 t h2 q1 q2)
  · exact absurd (ew s h1 b1) (h2 s h1 p1 p2)
  · rcases Nat.lt_trichotomy s t with g | g | g
    · rcases hu with hu | hu
      · exact absurd (ew2 t h2 d1) (a3 t h2 (fun e => by omega) (fun _ => ⟨q2 hu, g⟩))
      · exact absurd (ew s h1 b1) (c3 s h1 (fun _ => ⟨p1 hu, g⟩) (fun e => by omega))
    · subst g
      rw [a1, c1, el s h1]
    · rcases hu with hu | hu
      · exact absurd (ew s h1 b1) (c3 s h1 (fun e => by omega) (fun _ => ⟨p2 hu, g⟩))
      · exact absurd (ew2 t h2 d1) (a3 t h2 (fun _ => ⟨q1 hu, g⟩) (fun e => by omega))
theorem put_det {A A' B B' : mm_M} {w : Nat} {p s : Int} (h : SW A B w) (h1 : putR A A' w p s) (h2 : putR B B' w p s) : SW A' B' w := by
  have e := h.1
  rcases h1 with ⟨a0, a1, a2, a3⟩ | ⟨a0, rfl⟩ <;> rcases h2 with ⟨b0, b1, b2, b3⟩ | ⟨b0, rfl⟩
  · refine ⟨by omega, by rw [a2, b2]; exact h.2.1, fun i hi => ?_⟩
    obtain ⟨c1, c2, c3⟩ := a3 i (by omega)
    obtain ⟨d1, d2, d3⟩ := b3 i (by omega)
    rcases Int.lt_trichotomy (i : Int) p with g | g | g
    · rw [c1 g, d1 g]
      exact h.2.2 i (by omega)
    · rw [c2 g, d2 g]
    · rw [c3 g, d3 g]
      exact h.2.2 (i - 1) (by omega)
  · rw [e] at a0
    exact absurd a0 b0
  · rw [← e] at b0
    exact absurd b0 a0
  · exact h
theorem tak_det {A A' B B' : mm_M} {w : Nat} {p : Int} (h : SW A B w) (h1 : takR A A' w p) (h2 : takR B B' w p) : SW A' B' w := by
  have e := h.1
  rcases h1 with ⟨a0, a1, a2, a3⟩ | ⟨a0, rfl⟩ <;> rcases h2 with ⟨b0, b1, b2, b3⟩ | ⟨b0, rfl⟩
  · refine ⟨by omega, by rw [a2, b2]; exact h.2.1, fun i hi => ?_⟩
    obtain ⟨c1, c2⟩ := a3 i (by omega)
    obtain ⟨d1, d2⟩ := b3 i (by omega)
    rcases Int.lt_or_le (i : Int) p with g | g
    · rw [c1 g, d1 g]
      exact h.2.2 i (by omega)
    · rw [c2 g, d2 g]
      exact h.2.2 (i + 1) (by omega)
  · rw [e] at a0
    exact absurd a0 b0
  · rw [← e] at b0
    exact absurd b0 a0
  · exact h
theorem goR_det {up : Int} {w : Nat} (hu : up = 0 ∨ up = 1) (hw : isK w) : ∀ (r r' : Nat) (p : Int) (A B A' B' : mm_M), TE A B → SW A B w → wV A w → goR up w r p A A' → goR up w r' p B B' → r = r' ∧ SW A' B' w
  | 0, 0, p, A, B, A', B', hT, hW, hv, h1, h2 => ⟨rfl, by rw [h1.2, h2.2]; exact hW⟩
  | 0, r' + 1, p, A, B, A', B', hT, hW, hv, h1, h2 => by
    have v1 := hv.1
    obtain ⟨s, V1, g1, g2, -⟩ := h2
    have := h1.1
    rw [nwk_te hT hW _ (by omega), hW.1, cor_te hT hW hv] at this
    have := onR_det hT hu this g1
    omega
  | r + 1, 0, p, A, B, A', B', hT, hW, hv, h1, h2 => by
    have v1 := hv.1
    obtain ⟨s, V1, g1, g2, -⟩ := h1
    rw [nwk_te hT hW _ (by omega), hW.1, cor_te hT hW hv] at g1
    have := onR_det hT hu g1 h2.1
    omega
  | r + 1, r' + 1, p, A, B, A', B', hT, hW, hv, h1, h2 => by
    have v1 := hv.1
    obtain ⟨s, A1, g1, g2, g3, g4, g5, g6⟩ := h1
    obtain ⟨t, B1, k1, k2, k3, k4, k5, k6⟩ := h2
    rw [nwk_te hT hW _ (by omega), hW.1, cor_te hT hW hv] at g1
    have e := onR_det hT hu g1 k1
    subst e
    have h9 := goR_det hu hw r r' (p + 1) A1 B1 A' B' ((TE.frk hw g5).sy.tr (hT.tr (TE.frk hw k5))) (put_det hW g4 k4) (put_wV hw hv ⟨g2, g3⟩ g5 g4) g6 k6
    exact ⟨by omega, h9.2⟩
theorem goR_fr {up : Int} {w : Nat} : ∀ (r : Nat) (p : Int) (A A' : mm_M), goR up w r p A A' → fr [w, w + 1] A A'
  | 0, p, A, A', h => by rw [h.2]; exact fr.rf
  | r + 1, p, A, A', h => by
    obtain ⟨s, A1, g1, g2, g3, g4, g5, g6⟩ := h
    exact g5.tr (goR_fr r (p + 1) A1 A' g6)
theorem goR_wV {up : Int} {w : Nat} (hw : isK w) : ∀ (r : Nat) (p : Int) (A A' : mm_M), wV A w → goR up w r p A A' → wV A' w
  | 0, p, A, A', hv, h => by rw [h.2]; exact hv
  | r + 1, p, A, A', hv, h => by
    obtain ⟨s, A1, g1, g2, g3, g4, g5, g6⟩ := h
    exact goR_wV hw r (p + 1) A1 A' (put_wV hw hv ⟨g2, g3⟩ g5 g4) g6
theorem comL_det {up : Int} {w : Nat} (hu : up = 0 ∨ up = 1) (hw : isK w) : ∀ (m m' : Nat) (p : Int) (A B A' B' : mm_M) (c c' : Nat), TE A B → SW A B w → wV A w → comL up w m p A A' c → comL up w m' p B B' c' → c = c' ∧ SW A' B' w
  | 0, 0, p, A, B, A', B', c, c', hT, hW, hv, h1, h2 => ⟨by rw [h1.2.2, h2.2.2], by rw [h1.2.1, h2.2.1]; exact hW⟩
  | 0, m' + 1, p, A, B, A', B', c, c', hT, hW, hv, h1, h2 => by
    have a := h1.1
    have b := h2.1
    rw [hW.1] at a
    omega
  | m + 1, 0, p, A, B, A', B', c, c', hT, hW, hv, h1, h2 => by
    have a := h1.1
    have b := h2.1
    rw [hW.1] at a
    omega
  | m + 1, m' + 1, p, A, B, A', B', c, c', hT, hW, hv, h1, h2 => by
    obtain ⟨-, r, A1, x, g1, g2, g3⟩ := h1
    obtain ⟨-, r', B1, y, k1, k2, k3⟩ := h2
    have h8 := goR_det hu hw r r' p A B A1 B1 hT hW hv g1 k1
    have h9 := comL_det hu hw m m' (p + 1) A1 B1 A' B' x y ((TE.frk hw (goR_fr _ _ _ _ g1)).sy.tr (hT.tr (TE.frk hw (goR_fr _ _ _ _ k1)))) h8.2 (goR_wV hw _ _ _ _ hv g1) g2 k2
    exact ⟨by omega, h9.2⟩
theorem comR_det {up : Int} {w : Nat} {A B A' B' : mm_M} {c c' : Nat} (hu : up = 0 ∨ up = 1) (hw : isK w) (hT : TE A B) (hW : SW A B w) (hv : wV A w) (h1 : comR up w A A' c) (h2 : comR up w B B' c') : c = c' ∧ SW A' B' w := by
  obtain ⟨r, A1, m, x, g1, g2, g3⟩ := h1
  obtain ⟨r', B1, m', y, k1, k2, k3⟩ := h2
  rw [← hW.1] at k1
  have h8 := goR_det hu hw r r' _ A B A1 B1 hT hW hv g1 k1
  have h9 := comL_det hu hw m m' 0 A1 B1 A' B' x y ((TE.frk hw (goR_fr _ _ _ _ g1)).sy.tr (hT.tr (TE.frk hw (goR_fr _ _ _ _ k1)))) h8.2 (goR_wV hw _ _ _ _ hv g1) g2 k2
  exact ⟨by omega, h9.2⟩
theorem filR_det {up : Int} {w : Nat} (hu : up = 0 ∨ up = 1) (hw : isK w) : ∀ (r r' : Nat) (A B A' B' : mm_M), TE A B → SW A B w → wV A w → filR up w r A A' → filR up w r' B B' → r = r' ∧ SW A' B' w
  | 0, 0, A, B, A', B', hT, hW, hv, h1, h2 => ⟨rfl, (SW.fr5 hw h1.2).sy.tr (hW.tr (SW.fr5 hw h2.2))⟩
  | 0, r' + 1, A, B, A', B', hT, hW, hv, h1, h2 => by
    have v1 := hv.1
    obtain ⟨s, V0, V1, g1, g2, -⟩ := h2
    have := h1.1
    rw [nwk_te hT hW _ (by omega), cor_te hT hW hv, hW.1, show filB A up = filB B up by unfold filB; rw [hT.1]] at this
    have := whR_det hT hu this g1
    omega
  | r + 1, 0, A, B, A', B', hT, hW, hv, h1, h2 => by
    have v1 := hv.1
    obtain ⟨s, V0, V1, g1, g2, -⟩ := h1
    rw [nwk_te hT hW _ (by omega), cor_te hT hW hv, hW.1, show filB A up = filB B up by unfold filB; rw [hT.1]] at g1
    have := whR_det hT hu g1 h2.1
    omega
  | r + 1, r' + 1, A, B, A', B', hT, hW, hv, h1, h2 => by
    have v1 := hv.1
    obtain ⟨s, A0, A1, g1, g2, g3, g4, g5, g6, g7⟩ := h1
    obtain ⟨t, B0, B1, k1, k2, k3, k4, k5, k6, k7⟩ := h2
    rw [nwk_te hT hW _ (by omega), cor_te hT hW hv, hW.1, show filB A up = filB B up by unfold filB; rw [hT.1]] at g1
    have e := whR_det hT hu g1 k1
    subst e
    have hW0 : SW A0 B0 w := (SW.fr5 hw g4).sy.tr (hW.tr (SW.fr5 hw k4))
    have hT0 : TE A0 B0 := (TE.fr5 g4).sy.tr (hT.tr (TE.fr5 k4))
    rw [← hW0.1] at k5
    have hv0 : wV A0 w := by
      have := wk_no hw
      exact hv.to (g4 w (by simp; omega)) (g4 (w + 1) (by simp; omega)) (g4 2 (by simp))
    have e2 : A0 2 4 = A 2 4 := by rw [g4 2 (by simp)]
    have h9 := filR_det hu hw r r' A1 B1 A' B' ((TE.frk hw g6).sy.tr (hT0.tr (TE.frk hw k6))) (put_det hW0 g5 k5) (put_wV hw hv0 ⟨g2, by omega⟩ g6 g5) g7 k7
    exact ⟨by omega, h9.2⟩
theorem cpy_det {A A' B B' : mm_M} {w v : Nat} (h : SW A B v) (h1 : cpyR A A' w v) (h2 : cpyR B B' w v) : SW A' B' w := by
  refine ⟨by rw [h1.1, h2.1, h.1], by rw [h1.2.1, h2.2.1, h.2.1], fun i hi => ?_⟩
  rw [h1.1] at hi
  rw [h1.2.2 i hi, h2.2.2 i (by rw [← h.1]; exact hi)]
  exact h.2.2 i hi
theorem rev_det {A A' B B' : mm_M} {w : Nat} (hT : TE A B) (h : SW A B w) (hv : wV A w) (h1 : revR A A' w) (h2 : revR B B' w) : SW A' B' w := by
  refine ⟨by rw [h1.1, h2.1, h.1], by rw [h1.2.1, h2.2.1, cor_te hT h hv, h.1], fun i hi => ?_⟩
  rw [h1.1] at hi
  rw [h1.2.2 i hi, h2.2.2 i (by rw [← h.1]; exact hi), ← h.1]
  exact h.2.2 _ (by omega)
theorem rot_det {A A' B B' : mm_M} {w t : Nat} (hT : TE A B) (h : SW A B w) (hv : wV A w) (h1 : rotR A A' w t) (h2 : rotR B B' w t) : SW A' B' w := by
  have v1 := hv.1
  obtain ⟨a1, a2, a3, a4⟩ := h1
  obtain ⟨b1, b2, b3, b4⟩ := h2
  refine ⟨by rw [a1, b1, h.1], ?_, fun i hi => ?_⟩
  · by_cases e : t = 0 ∨ A w 2 = 0
    · rw [a3 e, b3 (by rw [← h.1]; exact e), h.2.1]
    · have hm := Nat.mod_lt (t - 1) (show 0 < (A w 2).toNat by omega)
      rw [a4 (by omega) (by omega), b4 (by omega) (by have := h.1; omega), ← h.1, ← h.2.2 _ (by omega)]
      exact gl_te hT (hv.2.2 _ (by omega))
  · rw [a1] at hi
    have hm := Nat.mod_lt (i + t) (show 0 < (A w 2).toNat by omega)
    rw [a2 i hi, b2 i (by rw [← h.1]; exact hi), ← h.1]
    exact h.2.2 _ (by omega)
theorem smR_te {A B : mm_M} {w v : Nat} (h : SW A B w) (g : SW A B v) : smR A w v ↔ smR B w v := by
  unfold smR
  rw [← h.1, ← g.1, ← h.2.1, ← g.2.1]
  refine ⟨fun ⟨a, b, c⟩ => ⟨a, b, fun i hi => ?_⟩, fun ⟨a, b, c⟩ => ⟨a, b, fun i hi => ?_⟩⟩
  · rw [← h.2.2 i hi, ← g.2.2 i (by omega)]
    exact c i hi
  · rw [h.2.2 i hi, g.2.2 i (by omega)]
    exact c i hi
theorem tnR_te {A B : mm_M} {w v b : Nat} (hT : TE A B) (h : SW A B w) (g : SW A B v) (hv : wV A w) (e : A w 2 = A v 2) : tnR A w v b ↔ tnR B w v b := by
  unfold tnR
  rw [← h.1, ← g.2.1, cor_te hT h hv]
  have v1 := hv.1
  refine ⟨fun ⟨a, c⟩ => ⟨a, fun i hi => ?_⟩, fun ⟨a, c⟩ => ⟨a, fun i hi => ?_⟩⟩
  · have hm := Nat.mod_lt (i + b) (show 0 < (A w 2).toNat by omega)
    rw [← h.2.2 _ (by omega), ← g.2.2 i (by omega)]
    exact c i hi
  · have hm := Nat.mod_lt (i + b) (show 0 < (A w 2).toNat by omega)
    rw [h.2.2 _ (by omega), g.2.2 i (by omega)]
    exact c i hi
theorem tuR_det {A B : mm_M} {w v : Nat} {r r' : Int} (hT : TE A B) (h : SW A B w) (g : SW A B v) (hv : wV A w) (h1 : tuR A w v r) (h2 : tuR B w v r') : r = r' := by
  have es := smR_te h g
  have en := fun b e => tnR_te (b := b) hT h g hv e
  unfold tuR at h1 h2
  rw [← es, ← h.1, ← g.1, ← h.2.1, ← cor_te hT h hv] at h2
  rcases h1 with ⟨a1, a2⟩ | ⟨a1, a2⟩ <;> rcases h2 with ⟨b1, b2⟩ | ⟨b1, b2⟩
  · omega
  · exact absurd a1 b1
  · exact absurd b1 a1
  · rcases a2 with ⟨c1, c2⟩ | ⟨c1, c2⟩ <;> rcases b2 with ⟨d1, d2⟩ | ⟨d1, d2⟩
    · omega
    · exact absurd d1 c1
    · exact absurd c1 d1
    · rcases c2 with ⟨k1, k2⟩ | ⟨b, k1, k2, k3, k4, k5⟩ <;> rcases d2 with ⟨l1, l2⟩ | ⟨b', l1, l2, l3, l4, l5⟩
      · omega
      · exact absurd ((en b' c1.2).mpr l4) (k2 b' l2 l3)
      · exact absurd ((en b c1.2).mp k4) (l2 b k2 k3)
      · rcases Nat.lt_trichotomy b b' with e | e | e
        · exact absurd ((en b c1.2).mp k4) (l5 b k2 e)
        · omega
        · exact absurd ((en b' c1.2).mpr l4) (k5 b' l2 e)
theorem rdw_te {A B : mm_M} {w p : Nat} (hT : TE A B) (h : SW A B w) (h0 : 0 < A w 2) : ∀ m : Nat, rdw A w p m = rdw B w p m
  | 0 => rfl
  | m + 1 => by
    have hm := Nat.mod_lt (p + m) (show 0 < (A w 2).toNat by omega)
    simp only [rdw]
    rw [rdw_te hT h h0 m, hT.2.2.1, ← h.1, h.2.2 _ (by omega)]
theorem wdR_det {A B : mm_M} {w : Nat} {x f r r' : Int} (hT : TE A B) (h : SW A B w) (h1 : wdR A w x f r) (h2 : wdR B w x f r') : r = r' := by
  have er := fun (p : Nat) (hp : (p : Int) < A w 2) => rdw_te (p := p) hT h (by omega) (B 2 7).toNat
  unfold wdR at h1 h2
  rw [← h.1, ← hT.1, ← hT.2.2.1] at h2
  rw [hT.2.2.2.1] at h1
  rcases h1 with ⟨a1, a2⟩ | ⟨a1, a2⟩ <;> rcases h2 with ⟨b1, b2⟩ | ⟨b1, b2⟩
  · omega
  · exact absurd a1 b1
  · exact absurd b1 a1
  · rcases a2 with ⟨k1, k2⟩ | ⟨b, k1, k2, k3, k4, k5⟩ <;> rcases b2 with ⟨l1, l2⟩ | ⟨b', l1, l2, l3, l4, l5⟩
    · omega
    · exact absurd (by rw [er b' l3]; exact l4) (k2 b' l2 l3)
    · exact absurd (by rw [← er b k3]; exact k4) (l2 b k2 k3)
    · rcases Nat.lt_trichotomy b b' with e | e | e
      · exact absurd (by rw [← er b k3]; exact k4) (l5 b k2 e)
      · omega
      · exact absurd (by rw [er b' l3]; exact l4) (k5 b' l2 e)
theorem rdR_te {A B : mm_M} {w v : Nat} (hT : TE A B) (h : SW A B w) (g : SW A B v) (hv : wV A v) : rdR A w v ↔ rdR B w v := by
  unfold rdR
  rw [← g.1, ← g.2.1, cor_te hT g hv]
  refine ⟨fun ⟨a, b, c, d⟩ => ⟨a, b, c, fun j hj => ?_⟩, fun ⟨a, b, c, d⟩ => ⟨a, b, c, fun j hj => ?_⟩⟩
  · rw [← g.2.2 j hj, ← wN_te h]
    exact d j hj
  · rw [g.2.2 j hj, wN_te h]
    exact d j hj
theorem spl_det {A A' B B' : mm_M} {w v : Nat} {p : Int} (h : SW A B w) (g : SW A B v) (hw : 0 ≤ A w 2) (hv : 0 ≤ A v 2) (hp : 0 ≤ p ∧ p ≤ A w 2) (h1 : splR A A' w v p) (h2 : splR B B' w v p) : SW A' B' w ∧ SW A' B' v := by
  obtain ⟨a1, a2, a3, a4, a5⟩ := h1
  obtain ⟨b1, b2, b3, b4, b5⟩ := h2
  have e1 := h.1
  have e2 := g.1
  refine ⟨⟨by omega, by rw [a2, b2, h.2.1], fun i hi => ?_⟩, ⟨by rw [a3, b3], by rw [a4, b4, g.2.1], fun i hi => by omega⟩⟩
  obtain ⟨c1, c2, c3⟩ := a5 i hi
  obtain ⟨d1, d2, d3⟩ := b5 i (by omega)
  rcases Int.lt_or_le (i : Int) p with k | k
  · rw [c1 k, d1 k]
    exact h.2.2 i (by omega)
  · rcases Int.lt_or_le (i : Int) (p + A v 2) with l | l
    · rw [c2 k l, d2 k (by omega)]
      exact g.2.2 _ (by omega)
    · rw [c3 l, d3 (by omega), ← e2]
      exact h.2.2 _ (by omega)
theorem flp_te {A B : mm_M} {s : Int} (h : TE A B) (hs : 0 ≤ s ∧ s < 2 * A 2 4) : flp A s = flp B s := by
  have := h.2.2.2.2 (s / 2).toNat (by omega)
  unfold flp
  rw [this.1, this.2]
theorem ts_det {A A' B B' : mm_M} {w : Nat} (hT : TE A B) (h : SW A B w) (hv : wV A w) (h1 : tsR A A' w) (h2 : tsR B B' w) : SW A' B' w := by
  refine ⟨by rw [h1.1, h2.1, h.1], by rw [h1.2.1, h2.2.1, h.2.1], fun i hi => ?_⟩
  rw [h1.1] at hi
  rw [h1.2.2 i hi, h2.2.2 i (by rw [← h.1]; exact hi), ← h.2.2 i hi]
  exact flp_te hT (hv.2.2 i hi)
theorem ren_det {A A' B B' : mm_M} {w : Nat} {s : Int} (h : SW A B w) (h1 : renR A A' w s) (h2 : renR B B' w s) : SW A' B' w := by
  refine ⟨by rw [h1.1, h2.1, h.1], by rw [h1.2.1, h2.2.1, h.2.1], fun i hi => ?_⟩
  rw [h1.1] at hi
  rw [h1.2.2 i hi, h2.2.2 i (by rw [← h.1]; exact hi), ← h.2.2 i hi]
theorem giv_det {A A' B B' : mm_M} {w v : Nat} {a b : Int} (hT : TE A B) (h : SW A B w) (hv : wV A w) (ha : 0 ≤ a ∧ a ≤ b ∧ b ≤ A w 2) (h1 : givR A A' w v a b) (h2 : givR B B' w v a b) : SW A' B' w ∧ SW A' B' v := by
  obtain ⟨a1, a2, a3, a4, a5, a6⟩ := h1
  obtain ⟨b1, b2, b3, b4, b5, b6⟩ := h2
  have e1 := h.1
  refine ⟨⟨by omega, by rw [a2, b2, h.2.1], fun i hi => ?_⟩, ⟨by omega, by rw [a4, b4, cor_te hT h hv], fun i hi => ?_⟩⟩
  · obtain ⟨c1, c2⟩ := a5 i (by omega)
    obtain ⟨d1, d2⟩ := b5 i (by omega)
    rcases Int.lt_or_le (i : Int) a with k | k
    · rw [c1 k, d1 k]
      exact h.2.2 i (by omega)
    · rw [c2 k, d2 k]
      exact h.2.2 _ (by omega)
  · rw [a6 i (by omega), b6 i (by omega)]
    exact h.2.2 _ (by omega)
theorem wsF_te {A B : mm_M} {w : Nat} {s a : Int} (hT : TE A B) (h : SW A B w) (hv : wV A w) (hs : 0 ≤ s ∧ s < A 2 4) : wsF A w s a = wsF B w s a := by
  unfold wsF
  rw [cm_te hT hs, lv_te hT hs, h.2.1, h.1, cor_te hT h hv]
theorem wsF_in {A : mm_M} {w : Nat} {s a : Int} (hs : 0 ≤ s ∧ s < A 2 4) : wsF A w s a = -1 ∨ (0 ≤ wsF A w s a ∧ wsF A w s a < 2 * A 2 4 ∧ wsF A w s a / 2 = s) := by
  unfold wsF
  split
  · exact cm_in hs
  · exact lv_in hs
theorem ws_det {A A' B B' : mm_M} {w : Nat} {s a r r' : Int} (hT : TE A B) (h : SW A B w) (hw : isK w) (hv : wV A w) (hs : 0 ≤ s ∧ s < A 2 4) (h1 : wsR A A' w s a r) (h2 : wsR B B' w s a r') : r = r' ∧ SW A' B' w := by
  unfold wsR at h1 h2
  have hin := wsF_in (A := A) (w := w) (a := a) hs
  rw [← wsF_te hT h hv hs, ← wN_te h] at h2
  rcases h1 with ⟨a1, a2, a3⟩ | ⟨a1, a2, a3, a4⟩ <;> rcases h2 with ⟨b1, b2, b3⟩ | ⟨b1, b2, b3, b4⟩
  · exact ⟨by omega, by rw [a3, b3]; exact h⟩
  · rcases a1 with a1 | a1
    · exact absurd a1 b1
    · exact absurd b2 a1
  · rcases b1 with b1 | b1
    · exact absurd b1 a1
    · exact absurd a2 b1
  · rcases a4 with ⟨c1, c2, A1, c3, c4, c5⟩ | ⟨c1, c2, c3⟩ <;> rcases b4 with ⟨d1, d2, B1, d3, d4, d5⟩ | ⟨d1, d2, d3⟩
    · have e : r = r' := by rw [c2, d2, sr_te hT (by omega)]
      refine ⟨e, ?_⟩
      have g := put_det h c4 d4
      rw [c5, d5, e]
      have hz := wk_no hw
      refine ⟨by simpa [mm_up] using g.1, by simp [mm_up], fun i hi => ?_⟩
      rw [mm_up_o _ (by omega), mm_up_o _ (by omega)]
      exact g.2.2 i (by simpa [mm_up] using hi)
    · omega
    · omega
    · refine ⟨by rw [c2, d2, gl_te hT (by omega)], ?_⟩
      rw [← h.1] at d3
      exact put_det h c3 d3
theorem ct_TE {A : mm_M} {w k : Nat} (hw : isK w) : TE A (ctW A w k) := by
  have hz := wk_no hw
  exact .of (mm_up_o _ (by omega)) (mm_up_o _ (by omega)) (mm_up_o _ (by omega))
theorem ct_SW {A B : mm_M} {w k : Nat} (h : SW A B w) (hk : k < A w 2) : SW (ctW A w k) (ctW B w k) w := by
  refine ⟨by simp [ctW, mm_up], by simpa [ctW, mm_up] using h.2.1, fun i hi => ?_⟩
  have hi2 : (i : Int) < k := by simpa [ctW, mm_up] using hi
  rw [ctW, ctW, mm_up_o _ (by omega), mm_up_o _ (by omega)]
  exact h.2.2 i (by omega)
theorem ct_wV {A : mm_M} {w k : Nat} (hw : isK w) (hv : wV A w) (hk : k < A w 2) : wV (ctW A w k) w := by
  have hz := wk_no hw
  have v1 := hv.1
  refine ⟨by simp [ctW, mm_up]; omega, by simpa [ctW, mm_up] using hv.2.1, fun i hi => ?_⟩
  have hi2 : (i : Int) < k := by simpa [ctW, mm_up] using hi
  rw [ctW, mm_up_o _ (by omega), mm_up_o _ (by omega)]
  exact hv.2.2 i (by omega)
theorem nxS_det {A B : mm_M} {w k : Nat} {up s s' : Int} (hu : up = 0 ∨ up = 1) (hT : TE A B) (h : SW A B w) (hw : isK w) (hv : wV A w) (hk : k < A w 2) (h1 : nxS A w k up s) (h2 : nxS B w k up s') : s = s' := by
  have hT2 : TE (ctW A w k) (ctW B w k) := ((ct_TE hw).sy.tr hT).tr (ct_TE hw)
  have hS := ct_SW h hk
  have hV := ct_wV hw hv hk
  unfold nxS at h1 h2
  rw [nwk_te hT2 hS k (by simp [ctW, mm_up]), cor_te hT2 hS hV, h.2.2 k (by omega)] at h1
  exact whR_det hT2 hu h1 h2
theorem nx_det {A A' B B' : mm_M} {w : Nat} {up r r' : Int} (hu : up = 0 ∨ up = 1) (hT : TE A B) (h : SW A B w) (hw : isK w) (hv : wV A w) (h1 : nxR up w A A' r) (h2 : nxR up w B B' r') : r = r' ∧ (0 ≤ r → SW A' B' w) := by
  have e1 := h.1
  have hd := fun k s s' hk => nxS_det (k := k) (s := s) (s' := s') hu hT h hw hv hk
  rcases h1 with ⟨a1, a2⟩ | ⟨k, a1, a2, a3, s, A1, A2, m, a4, a5, a6, a7, a8, a9, a10, a11, a12, a13⟩ <;> rcases h2 with ⟨b1, b2⟩ | ⟨l, b1, b2, b3, t, B1, B2, m2, b4, b5, b6, b7, b8, b9, b10, b11, b12, b13⟩
  · exact ⟨by omega, fun _ => by omega⟩
  · have := hd l _ _ (by omega) (a2 l (by omega)) b4
    omega
  · have := hd k _ _ (by omega) a4 (b2 k (by omega))
    omega
  · rcases Nat.lt_trichotomy k l with g | g | g
    · have := hd l _ _ (by omega) (a3 l g (by omega)) b4
      omega
    · subst g
      have e := hd k _ _ a2 a4 b4
      subst e
      refine ⟨by omega, fun _ => ?_⟩
      have hz := wk_no hw
      have hT1 : TE A1 B1 := ((TE.ofr a7 (by simp; omega) (by simp; omega) (by simp; omega)).sy.tr hT).tr (TE.ofr b7 (by simp; omega) (by simp; omega) (by simp; omega))
      have hS1 : SW A1 B1 w := ⟨by omega, by rw [a9, b9, h.2.1], fun i hi => by rw [a10, b10]; exact h.2.2 i (by omega)⟩
      have hv1 : wV A1 w := by
        have v1 := hv.1
        refine ⟨by omega, by rw [a9]; exact hv.2.1, fun i hi => ?_⟩
        rw [a10, a7 2 (by simp; omega)]
        exact hv.2.2 i (by omega)
      exact (filR_det hu hw m m2 A2 B2 A' B' ((TE.frk hw a12).sy.tr (hT1.tr (TE.frk hw b12))) (put_det hS1 a11 b11) (put_wV hw hv1 ⟨a5, by rw [a7 2 (by simp; omega)]; exact a6⟩ a12 a11) a13 b13).2
    · have := hd k _ _ a2 a4 (b3 k g (by omega))
      omega
/-- a set of just the streets that aren't on the walk -/
def lfX (M : mm_M) (w : Nat) (S : Int) : Prop := ∀ k : Nat, k < 32 → (bt S k = 1 ↔ ((k : Int) < M 2 4 ∧ wN M w k))
theorem nwk_lfX {M : mm_M} {w : Nat} (ht : tW M) (hv : wV M w) : lfX M w (nwk M w (M w 2).toNat) := fun k hk => by
  have v1 := hv.1
  rw [nwk_bt ht hv hk (M w 2).toNat (by omega)]
  exact ⟨fun h => ⟨h.1, fun i hi => h.2 i (by omega)⟩, fun h => ⟨h.1, fun i hi => h.2 i (by omega)⟩⟩
theorem onR_bits {M : mm_M} {S S' c up r : Int} (h : ∀ s : Nat, s < (M 2 4).toNat → (bt S s = 1 ↔ bt S' s = 1)) (hr : onR M S c up r) : onR M S' c up r := by
  rcases hr with ⟨a, b⟩ | ⟨s, a, b, c1, c2, c3⟩
  · exact Or.inl ⟨a, fun s hs hb => b s hs ((h s hs).mpr hb)⟩
  · exact Or.inr ⟨s, a, (h s a).mp b, c1, c2, fun t ht e1 e2 hb => c3 t ht e1 e2 ((h t ht).mpr hb)⟩
/-- what was put in -/
theorem put_at {M M' : mm_M} {w : Nat} {p s : Int} (h : putR M M' w p s) (hp : 0 ≤ p ∧ p ≤ M w 2 ∧ M w 2 < 30) : M' w 2 = M w 2 + 1 ∧ M' w 3 = M w 3 ∧ M' (w + 1) p.toNat = s := by
  rcases h with ⟨h0, h1, h2, h3⟩ | h
  · exact ⟨h1, h2, (h3 p.toNat (by omega)).2.1 (by omega)⟩
  · exact absurd hp h.1
theorem put_cor {M M' : mm_M} {w : Nat} {p s : Int} (hw : isK w) (hf : fr [w, w + 1] M M') (h : putR M M' w p s) (hp : 0 ≤ p ∧ p ≤ M w 2 ∧ M w 2 < 30) : cor M' w (p + 1) = gl M s := by
  obtain ⟨h1, h2, h3⟩ := put_at h hp
  have e := hf.k hw
  unfold cor
  rw [if_pos (by omega), show p + 1 - 1 = p by omega, h3]
  unfold gl
  rw [e.2.1, e.2.2]
theorem put_wN' {M M' : mm_M} {w : Nat} {p s t : Int} (h : putR M M' w p s) (hp : 0 ≤ p ∧ p ≤ M w 2 ∧ M w 2 < 30) (hN : wN M' w t) : wN M w t ∧ s / 2 ≠ t := by
  obtain ⟨h1, h2, h3⟩ := put_at h hp
  rcases h with ⟨h0, -, -, h4⟩ | h
  · refine ⟨fun i hi => ?_, ?_⟩
    · rcases Int.lt_or_le (i : Int) p with g | g
      · rw [← (h4 i (by omega)).1 g]
        exact hN i (by omega)
      · have := (h4 (i + 1) (by omega)).2.2 (by omega)
        rw [show i + 1 - 1 = i by omega] at this
        rw [← this]
        exact hN (i + 1) (by omega)
    · have := hN p.toNat (by omega)
      rw [h3] at this
      exact this
  · exact absurd hp h.1
theorem lfX_put {M M' : mm_M} {w : Nat} {p s S : Int} (hw : isK w) (hS : 0 ≤ S ∧ S < 1073741824) (hs : 0 ≤ s ∧ s < 60) (hl : lfX M w S) (hf : fr [w, w + 1] M M') (h : putR M M' w p s) (hp : 0 ≤ p ∧ p ≤ M w 2 ∧ M w 2 < 30) : lfX M' w (clr S (s / 2).toNat) := fun k hk => by
  rw [(clr_spec hS (s := (s / 2).toNat) (by omega)).2 k hk, (hf.k hw).1]
  split
  · refine ⟨fun h => by omega, fun h2 => ?_⟩
    have := (put_wN' h hp h2.2).2
    omega
  · rw [hl k hk]
    refine ⟨fun h2 => ⟨h2.1, put_wN h2.2 (by omega) h⟩, fun h2 => ⟨h2.1, (put_wN' h hp h2.2).1⟩⟩
/-- a walk with all places taken has nothing left -/
theorem full_on {M : mm_M} {w : Nat} {S c up : Int} (ht : tW M) (hv : wV M w) (hD : wD M w) (h : M 2 4 ≤ M w 2) (hl : lfX M w S) : onR M S c up (-1) := by
  have t1 := ht.1
  refine Or.inl ⟨rfl, fun s hs hb => ?_⟩
  have := wD_lt hv hD (s := (s : Int)) (by omega) ((hl s (by omega)).mp hb).2
  omega
/-- nothing is left to be walked whole -/
theorem full_wh {M : mm_M} {w : Nat} {S c b up : Int} (ht : tW M) (hv : wV M w) (hD : wD M w) (h : M 2 4 ≤ M w 2) (hl : lfX M w S) : whR M S c b up (-1) := by
  have t1 := ht.1
  refine Or.inl ⟨rfl, fun s hs _ _ hw => ?_⟩
  have := wD_lt hv hD (s := (s : Int)) (by omega) ((hl s (by omega)).mp hw.1).2
  omega
theorem whR_te {A B : mm_M} {S c b up r : Int} (h : TE A B) (h1 : whR A S c b up r) : whR B S c b up r := by
  have e : (B 2 4).toNat = (A 2 4).toNat := by rw [h.1]
  unfold whR at h1 ⊢
  rw [e]
  rcases h1 with ⟨a, h1⟩ | ⟨s, h1, p1, p2, b1, a1, a2, a3⟩
  · exact Or.inl ⟨a, fun s hs g1 g2 g3 => h1 s hs g1 g2 (whS_te h.sy (by omega) g3)⟩
  · exact Or.inr ⟨s, h1, p1, p2, whS_te h h1 b1, by rw [a1]; exact lv_te h (by omega), a2, fun t ht g1 g2 g3 => a3 t ht g1 g2 (whS_te h.sy (by omega) g3)⟩
theorem sm_tn {M : mm_M} {w v : Nat} (hv : 0 ≤ M w 2) : smR M w v ↔ (M w 2 = M v 2 ∧ tnR M w v 0) := by
  unfold smR tnR
  have hc : cor M w ((0 : Nat) : Int) = M w 3 := by unfold cor; rw [if_neg (by omega)]
  rw [hc]
  refine ⟨fun ⟨a, b, c⟩ => ⟨b, a, fun i hi => ?_⟩, fun ⟨b, a, c⟩ => ⟨a, b, fun i hi => ?_⟩⟩
  · rw [show (i + 0) % (M w 2).toNat = i from Nat.mod_eq_of_lt (by omega)]
    exact c i hi
  · have := c i hi
    rw [show (i + 0) % (M w 2).toNat = i from Nat.mod_eq_of_lt (by omega)] at this
    exact this
theorem mod_cst {i b n : Nat} : (((i : Int) + (b : Int)) % (n : Int)).toNat = (i + b) % n := by
  rw [show (i : Int) + (b : Int) = ((i + b : Nat) : Int) by omega, ← Int.natCast_emod, Int.toNat_natCast]
theorem mod_pw {s m : Nat} {y : Nat} : y % s ^ (m + 1) = y / s % s ^ m * s + y % s := by
  rw [Nat.pow_succ, Nat.mul_comm, Nat.mod_mul, Nat.mul_comm s, Nat.add_comm]
theorem mod_pwI {s y : Int} {m : Nat} (hs : 0 < s) (hy : 0 ≤ y) : y % s ^ (m + 1) = y / s % s ^ m * s + y % s := by
  obtain ⟨a, rfl⟩ := Int.eq_ofNat_of_zero_le hy
  obtain ⟨b, rfl⟩ := Int.eq_ofNat_of_zero_le (show 0 ≤ s by omega)
  have := mod_pw (s := b) (m := m) (y := a)
  exact_mod_cast this
/-- the town's words are not more than its signs make -/
def WI (M : mm_M) : Prop := 0 < M 2 6 → M 2 4 ≤ M 2 6 ^ (M 2 7).toNat
theorem rot_0 {V : mm_M} {w : Nat} (hv : wV V w) : rotR V V w 0 := by
  have v1 := hv.1
  exact ⟨rfl, fun x hx => by rw [show (x + 0) % (V w 2).toNat = x from Nat.mod_eq_of_lt (by omega)], fun _ => rfl, fun h => by omega⟩
theorem gl_in {V : mm_M} {s : Int} (ht : tW V) (hs : 0 ≤ s ∧ s < 2 * V 2 4) : 0 ≤ gl V s ∧ gl V s < 10 := by
  have t1 := ht.1
  have t2 := ht.2.1 (s / 2).toNat (by omega)
  unfold gl
  split <;> omega
theorem rot_wV {V V' : mm_M} {w t : Nat} (ht : tW V) (hv : wV V w) (h2 : V' 2 = V 2) (h : rotR V V' w t) : wV V' w := by
  obtain ⟨a, b, c⟩ := hv
  obtain ⟨h1, h3, h4, h5⟩ := h
  have hm : 0 < V w 2 → ∀ x, x % (V w 2).toNat < (V w 2).toNat := fun h x => Nat.mod_lt _ (by omega)
  refine ⟨by rw [h1]; exact a, ?_, fun i hi => ?_⟩
  · by_cases e : t = 0 ∨ V w 2 = 0
    · rw [h4 e]; exact b
    · rw [h5 (by omega) (by omega)]
      have := hm (by omega) (t - 1)
      exact gl_in ht (c _ (by omega))
  · rw [h1] at hi
    rw [h3 i hi, h2]
    have := hm (by omega) (i + t)
    exact c _ (by omega)
theorem mod_inj {i j t n : Nat} (hi : i < n) (hj : j < n) (h : (i + t) % n = (j + t) % n) : i = j := by
  have h1 := Nat.div_add_mod (i + t) n
  have h2 := Nat.div_add_mod (j + t) n
  rw [h] at h1
  rcases Nat.lt_trichotomy ((i + t) / n) ((j + t) / n) with h3 | h3 | h3
  · have : n * ((i + t) / n) + n ≤ n * ((j + t) / n) := by rw [← Nat.mul_succ]; exact Nat.mul_le_mul_left n h3
    omega
  · rw [h3] at h1; omega
  · have : n * ((j + t) / n) + n ≤ n * ((i + t) / n) := by rw [← Nat.mul_succ]; exact Nat.mul_le_mul_left n h3
    omega
theorem rot_wD {V V' : mm_M} {w t : Nat} (hd : wD V w) (h : rotR V V' w t) : wD V' w := by
  obtain ⟨h1, h3, -, -⟩ := h
  intro i j hi hj e
  rw [h1] at hi hj
  rw [h3 i hi, h3 j hj] at e
  have hm : ∀ x, x % (V w 2).toNat < (V w 2).toNat := fun x => Nat.mod_lt _ (by omega)
  have a := hm (i + t)
  have b := hm (j + t)
  exact mod_inj (by omega) (by omega) (hd _ _ (by omega) (by omega) e)
/-- once more: the first one out, behind the last one in -/
theorem rot_s {V V1 V2 V3 V4 : mm_M} {w t : Nat} (hw : isK w) (hv : wV V w) (h0 : 0 < V w 2) (hr : rotR V V1 w t) (h2 : V1 2 = V 2 ∧ V1 3 = V 3 ∧ V1 4 = V 4) (ht : takR V1 V2 w 0) (hf2 : fr [w, w + 1] V1 V2) (h3 : V3 w 2 = V2 w 2 ∧ V3 w 3 = gl V1 (V1 (w + 1) 0) ∧ V3 (w + 1) = V2 (w + 1)) (hp : putR V3 V4 w (V3 w 2) (V1 (w + 1) 0)) : rotR V V4 w (t + 1) := by
  have v1 := hv.1
  obtain ⟨r1, r2, r3, r4⟩ := hr
  obtain ⟨e2, e3, e4⟩ := h2
  obtain ⟨n, hn⟩ := Int.eq_ofNat_of_zero_le v1.1
  rcases ht with ⟨a1, a2, a3, a4⟩ | ⟨a1, -⟩
  · rcases hp with ⟨b1, b2, b3, b4⟩ | ⟨b1, -⟩
    · have s0 := r2 0 (by omega)
      rw [hn] at r1 r2 s0
      simp only [Int.toNat_natCast, Nat.zero_add] at r2 s0
      refine ⟨by rw [b2, h3.1, a2, r1, hn]; omega, fun x hx => ?_, fun h => by omega, fun _ _ => ?_⟩
      · rw [hn] at hx ⊢
        simp only [Int.toNat_natCast]
        obtain ⟨c1, c2, c3⟩ := b4 x (by rw [h3.1, a2, r1]; omega)
        by_cases e : x = n - 1
        · rw [c2 (by rw [h3.1, a2, r1]; omega), s0]
          subst e
          rw [show n - 1 + (t + 1) = t + n by omega, Nat.add_mod_right]
        · rw [c1 (by rw [h3.1, a2, r1]; omega), h3.2.2, (a4 x (by rw [r1]; omega)).2 (by omega), r2 (x + 1) (by omega)]
          congr 2
          omega
      · rw [b3, h3.2.1, s0, hn]
        unfold gl
        rw [e3, e4]
        simp
    · exact absurd ⟨by rw [h3.1, a2, r1]; omega, Int.le_refl _, by rw [h3.1, a2, r1]; omega⟩ b1
  · exact absurd ⟨Int.le_refl _, by rw [r1]; exact h0⟩ a1
theorem rdw_b0 {V : mm_M} {w p : Nat} (hs : 0 < V 2 6) : ∀ m, 0 ≤ rdw V w p m
  | 0 => by simp [rdw]
  | m + 1 => by
    have h1 := rdw_b0 (w := w) (p := p) hs m
    have h2 := Int.emod_nonneg (V (w + 1) ((p + m) % (V w 2).toNat) / 2) (show V 2 6 ≠ 0 by omega)
    have h3 := Int.mul_nonneg h1 (show 0 ≤ V 2 6 by omega)
    simp only [rdw]
    omega
def CE (A B : mm_M) : Prop := A 16 1 = B 16 1 ∧ (A 16 1 ≠ 0 → A 16 4 = B 16 4 ∧ (A 16 4 = 0 → A 16 2 = B 16 2 ∧ A 16 3 = B 16 3))
def NE (A B : mm_M) : Prop := A 1 4 = B 1 4 ∧ A 1 5 = B 1 5 ∧ A 1 6 = B 1 6
/-- the same to all who ask -/
def SE (A B : mm_M) : Prop := TE A B ∧ (∀ w, isW3 w → SW A B w) ∧ CE A B ∧ NE A B
theorem CE.rf {A : mm_M} : CE A A := ⟨rfl, fun _ => ⟨rfl, fun _ => ⟨rfl, rfl⟩⟩⟩
theorem CE.sy {A B : mm_M} (h : CE A B) : CE B A := ⟨h.1.symm, fun g => by have k := h.2 (by rw [h.1]; exact g); exact ⟨k.1.symm, fun l => by have := k.2 (by rw [k.1]; exact l); exact ⟨this.1.symm, this.2.symm⟩⟩⟩
theorem CE.tr {A B C : mm_M} (h : CE A B) (g : CE B C) : CE A C := ⟨h.1.trans g.1, fun k => by
  have a := h.2 k
  have b := g.2 (by rw [← h.1]; exact k)
  exact ⟨a.1.trans b.1, fun l => by have c := a.2 l; have d := b.2 (by rw [← a.1]; exact l); exact ⟨c.1.trans d.1, c.2.trans d.2⟩⟩⟩
theorem CE.of {A B : mm_M} (h : B 16 = A 16) : CE A B := by
  unfold CE
  rw [h]
  exact ⟨rfl, fun _ => ⟨rfl, fun _ => ⟨rfl, rfl⟩⟩⟩
theorem NE.of {A B : mm_M} (h : B 1 = A 1) : NE A B := by
  unfold NE
  rw [h]
  exact ⟨rfl, rfl, rfl⟩
theorem SE.rf {A : mm_M} : SE A A := ⟨.rf, fun _ _ => .rf, .rf, rfl, rfl, rfl⟩
theorem SE.sy {A B : mm_M} (h : SE A B) : SE B A := ⟨h.1.sy, fun w hw => (h.2.1 w hw).sy, h.2.2.1.sy, h.2.2.2.1.symm, h.2.2.2.2.1.symm, h.2.2.2.2.2.symm⟩
theorem SE.tr {A B C : mm_M} (h : SE A B) (g : SE B C) : SE A C := ⟨h.1.tr g.1, fun w hw => (h.2.1 w hw).tr (g.2.1 w hw), h.2.2.1.tr g.2.2.1, h.2.2.2.1.trans g.2.2.2.1, h.2.2.2.2.1.trans g.2.2.2.2.1, h.2.2.2.2.2.trans g.2.2.2.2.2⟩
/-- what nobody asks for: the counts of ways, the walk that is tried -/
theorem SE.scr {A B : mm_M} (h : fr [5, 6, 14, 15] A B) : SE A B := ⟨.ofr h (by simp) (by simp) (by simp), fun w hw => by
  rcases hw with rfl | rfl | rfl <;> exact .ofr h (by simp) (by simp), .of (h 16 (by simp)), .of (h 1 (by simp))⟩
theorem lv_sr {V : mm_M} {s c : Int} (hs : 0 ≤ s) (h : lv V s c ≠ -1) : sr V (lv V s c) = c := by
  unfold lv at h ⊢
  by_cases h1 : V 3 s.toNat = c
  · rw [if_pos h1]
    unfold sr
    rw [if_pos (by omega), show 2 * s / 2 = s by omega, h1]
  · rw [if_neg h1] at h ⊢
    by_cases h2 : V 2 5 = 0 ∧ V 4 s.toNat = c
    · rw [if_pos h2]
      unfold sr
      rw [if_neg (by omega), show (2 * s + 1) / 2 = s by omega, h2.2]
    · rw [if_neg h2] at h
      exact absurd rfl h
theorem bw_cc {V : mm_M} {s c : Int} (hs : 0 ≤ s) : bw V s c c = if V 3 s.toNat = c ∧ V 4 s.toNat = c then 2 * s else -1 := by
  unfold bw lv
  by_cases h1 : V 3 s.toNat = c
  · rw [if_pos h1]
    unfold gl
    rw [if_pos (show 2 * s % 2 = 0 by omega), show 2 * s / 2 = s by omega]
    by_cases h2 : V 4 s.toNat = c
    · rw [if_pos ⟨by omega, h2⟩, if_pos ⟨h1, h2⟩]
    · rw [if_neg (fun h => h2 h.2), if_neg (fun h => h2 h.2)]
  · rw [if_neg h1, if_neg (show ¬ (V 3 s.toNat = c ∧ V 4 s.toNat = c) from fun h => h1 h.1)]
    by_cases h2 : V 2 5 = 0 ∧ V 4 s.toNat = c
    · rw [if_pos h2]
      unfold gl
      rw [if_neg (show ¬ (2 * s + 1) % 2 = 0 by omega), show (2 * s + 1) / 2 = s by omega, if_neg (fun h => h1 h.2)]
    · rw [if_neg h2, if_neg (by omega)]
theorem loop_sr {V : mm_M} {s : Int} : sr V s = gl V s ↔ V 3 (s / 2).toNat = V 4 (s / 2).toNat := by
  unfold sr gl
  split
  · exact Iff.rfl
  · exact ⟨fun h => h.symm, fun h => h.symm⟩

