/-! is all so, and the checksum: what they are of a state -/
def lsR (V : mm_M) (r : Int) : Prop := (r = -1 ∧ ∀ c : Nat, c < 10 → ¬ STV V (al V) c) ∨ (0 ≤ r ∧ r < 10 ∧ STV V (al V) r ∧ ∀ c : Nat, c < r → ¬ STV V (al V) c)
/-- each word stands in the fourth walk at just one place, in a ONE-WAY TOWN OF WORDS -/
def ewO (V : mm_M) (w : Nat) : Prop := (0 < V 2 6 ∧ V 2 5 ≠ 0) → ∀ x : Nat, x < V 2 4 → ∃ p, wdR V w x 0 p ∧ 0 ≤ p ∧ wdR V w x (p + 1) (-1)
def gdR (V V1 : mm_M) (kd : Int) : Prop := V1 14 2 = V 2 4 ∧ (hmP V1 14 ↔ kd = 2) ∧ ewO V1 14
def aTW (V : mm_M) : Prop := ∀ w, isW3 w → TWk V w
def cmpR (V : mm_M) (r : Int) : Prop := ∃ kd ls, kdR (V 3) (V 4) (V 2 4).toNat (V 2 5) kd ∧ lsR V ls ∧ ((¬ (0 < kd ↔ 0 ≤ ls) ∧ r = 0) ∨ ((0 < kd ↔ 0 ≤ ls) ∧ ((ls = -1 ∧ r = 1) ∨ (0 ≤ ls ∧ ∃ V0 V1 c, fr [5, 6] V V0 ∧ comR 1 14 (bgM V0 14 ls) V1 c ∧ fr [14, 15] (bgM V0 14 ls) V1 ∧ b01 (gdR V V1 kd) r))))
def sndR (V : mm_M) (r : Int) : Prop := (¬ aTW V ∧ r = 0) ∨ (aTW V ∧ cmpR V r)
theorem WI_2' {V V' : mm_M} (h : V' 2 = V 2) (hI : WI V) : WI V' := by
  unfold WI
  rw [h]
  exact hI
def C_isSound (V V' : mm_M) (e r : Int) : Prop := e = 0 ∧ (WI V → sndR V r) ∧ SE V V'
/-! the checksum's rows -/
noncomputable def ind1 (P : Prop) : Int := @ite Int P (Classical.propDecidable P) 1 0
theorem ind1_t {P : Prop} (h : P) : ind1 P = 1 := @if_pos P (Classical.propDecidable P) h Int 1 0
theorem ind1_f {P : Prop} (h : ¬ P) : ind1 P = 0 := @if_neg P (Classical.propDecidable P) h Int 1 0
theorem ind1_i {P R : Prop} (h : P ↔ R) : ind1 P = ind1 R := by
  rcases Classical.em P with a | a
  · rw [ind1_t a, ind1_t (h.mp a)]
  · rw [ind1_f a, ind1_f (fun h2 => a (h.mpr h2))]
theorem b01_ind {P : Prop} {r : Int} (h : b01 P r) : r = ind1 P := by
  obtain ⟨a, b⟩ := h
  rcases Classical.em P with c | c
  · rw [ind1_t c]
    exact b.mpr c
  · rw [ind1_f c]
    rcases a with a | a
    · exact a
    · exact absurd (b.mp a) c
theorem ind1_r {P : Prop} {r : Int} (h : (P → r = 1) ∧ (¬ P → r = 0)) : r = ind1 P := b01_ind (b01.of h)
noncomputable def dgF (V : mm_M) (s : Int) : Nat → Int
  | 0 => s
  | i + 1 => (dgF V s i * 31 + V 3 i) * 31 + V 4 i
noncomputable def dgC (V : mm_M) (s : Int) : Nat → Int
  | 0 => s
  | c + 1 => ((dgC V s c * 31 + (oc (V 3) (al V) c (V 2 4).toNat + oc (V 4) (al V) c (V 2 4).toNat)) * 31 + oc (V 3) (al V) c (V 2 4).toNat) * 31 + ind1 (STV V (al V) c)
noncomputable def dgT (V : mm_M) (s kd : Int) : Int := (((((dgC V (dgF V (s * 31 + V 2 4) (V 2 4).toNat) 10 * 31 + odn (V 3) (V 4) (V 2 4).toNat (V 2 5) (al V) 10) * 31 + ind1 (HG (V 3) (V 4) (V 2 4).toNat (al V))) * 31 + kd) * 31 + V 2 6) * 31 + V 2 7) * 31 + V 2 5
noncomputable def dgS (V : mm_M) (w : Nat) (s : Int) : Nat → Int
  | 0 => s
  | i + 1 => dgS V w s i * 31 + V (w + 1) i
noncomputable def dgW (V : mm_M) (s : Int) (w : Nat) (t : Int) : Int := (dgS V w (((s * 31 + V w 2) * 31 + V w 3) * 31 + cor V w (V w 2)) (V w 2).toNat * 31 + ind1 (V w 2 = V 2 4)) * 31 + t
noncomputable def dgE (V : mm_M) (s sd : Int) : Int := (((((((s * 31 + paF V 1) * 31 + paF V 0) * 31 + ind1 (hsP V 1)) * 31 + ind1 (hsP V 0)) * 31 + mm_w (V 1 4)) * 31 + mm_w (V 1 5)) * 31 + mm_w (V 1 6)) * 31 + sd
/-- nobody sees what the counting of ways leaves (5, 6): so the rest is of the state behind it -/
def dgR (V : mm_M) (r : Int) : Prop := ∃ V1 kd t8 t10 t12 sd, fr [5, 6] V V1 ∧ kdR (V 3) (V 4) (V 2 4).toNat (V 2 5) kd ∧ tuR V1 8 10 t8 ∧ tuR V1 10 12 t10 ∧ tuR V1 12 8 t12 ∧ sndR V1 sd ∧ r = dgE V1 (dgW V1 (dgW V1 (dgW V1 (dgT V 7692 kd) 8 t8) 10 t10) 12 t12) sd
def C_digest (V V' : mm_M) (e r : Int) : Prop := e = 0 ∧ (WI V → dgR V r) ∧ SE V V'
theorem mw_id {x : Int} (h : InI x) : mm_w x = x := by
  unfold mm_w
  exact Int32.toInt_ofInt_of_le h.1 h.2
theorem mw_01 {r : Int} (h : r = 0 ∨ r = 1) : mm_w r = r := mw_id (by rcases h with h | h <;> subst h <;> exact ⟨by omega, by omega⟩)
theorem mw_ind {P : Prop} {r : Int} (h : (P → r = 1) ∧ (¬ P → r = 0)) : mm_w r = ind1 P := by rw [mw_01 (in01 h), ind1_r h]
theorem mw_b01 {P : Prop} {r : Int} (h : b01 P r) : mm_w r = ind1 P := by rw [mw_01 h.1, b01_ind h]

