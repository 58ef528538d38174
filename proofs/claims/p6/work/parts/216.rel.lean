/-! the relations that class and model share -/
theorem mm_up_ob2 {M : mm_M} {o a b : Nat} {x : Int} (h : b ≠ a) : mm_up M o a x o b = M o b := by
  simp [mm_up, h]
theorem bt_sub_le {a b : Int} (ha : 0 ≤ a) (hb : 0 ≤ b) (h : ∀ k, bt a k = 1 → bt b k = 1) : a ≤ b := by
  obtain ⟨n, rfl⟩ := Int.eq_ofNat_of_zero_le ha
  obtain ⟨m, rfl⟩ := Int.eq_ofNat_of_zero_le hb
  have e : n &&& m = n := by
    apply Nat.eq_of_testBit_eq
    intro i
    rw [Nat.testBit_and]
    have := h i
    rw [bt_nat, bt_nat] at this
    cases h1 : n.testBit i <;> cases h2 : m.testBit i <;> simp [h1, h2] at this ⊢
  have := Nat.and_le_right (n := n) (m := m)
  omega
theorem bt_hi30 {x : Int} (h : 0 ≤ x ∧ x < 1073741824) {k : Nat} (hk : 30 ≤ k) : bt x k = 0 := by
  obtain ⟨n, rfl⟩ := Int.eq_ofNat_of_zero_le h.1
  rw [bt_nat, Nat.testBit_lt_two_pow (Nat.lt_of_lt_of_le (by omega : n < 2 ^ 30) (Nat.pow_le_pow_right (by decide) hk))]
  simp
theorem bt_ext2 {a b : Int} (ha : 0 ≤ a) (hb : 0 ≤ b) (h : ∀ k, bt a k = 1 ↔ bt b k = 1) : a = b := by
  have h1 := bt_sub_le ha hb (fun k => (h k).mp)
  have h2 := bt_sub_le hb ha (fun k => (h k).mpr)
  omega
/-- the streets that a walk has left after i steps -/
def nwk (M : mm_M) (w : Nat) : Nat → Int
  | 0 => 2 ^ (M 2 4).toNat - 1
  | i + 1 => clr (nwk M w i) (M (w + 1) i / 2).toNat
theorem nwk_b {M : mm_M} {w : Nat} (ht : tW M) (hv : wV M w) : ∀ i : Nat, i ≤ M w 2 → 0 ≤ nwk M w i ∧ nwk M w i < 1073741824
  | 0, _ => by
    have h1 := ht.1
    have h2 := pw_le (k := (M 2 4).toNat) (n := 30) (by omega)
    have h3 := pw_lt (k := (M 2 4).toNat) (by omega)
    simp only [nwk]
    omega
  | i + 1, h => by
    have h1 := ht.1
    have h2 := hv.2.2 i (by omega)
    exact (clr_spec (nwk_b ht hv i (by omega)) (by omega)).1
theorem nwk_bt {M : mm_M} {w : Nat} (ht : tW M) (hv : wV M w) {k : Nat} (hk : k < 32) : ∀ i : Nat, i ≤ M w 2 → (bt (nwk M w i) k = 1 ↔ (k < M 2 4 ∧ ∀ j : Nat, j < i → M (w + 1) j / 2 ≠ k))
  | 0, _ => by
    have h1 := ht.1
    have h2 := bt_all (M 2 4).toNat k
    simp only [nwk]
    rw [h2]
    split
    · exact ⟨fun _ => ⟨by omega, fun j hj => by omega⟩, fun _ => rfl⟩
    · exact ⟨fun h => by omega, fun h => by omega⟩
  | i + 1, h => by
    have h1 := ht.1
    have h2 := hv.2.2 i (by omega)
    have h3 := (clr_spec (nwk_b ht hv i (by omega)) (s := (M (w + 1) i / 2).toNat) (by omega)).2 k hk
    have h4 := nwk_bt ht hv hk i (by omega)
    simp only [nwk]
    rw [h3]
    split
    · refine ⟨fun h => by omega, fun h => absurd ?_ (h.2 i (by omega))⟩
      omega
    · rw [h4]
      refine ⟨fun h => ⟨h.1, fun j hj => ?_⟩, fun h => ⟨h.1, fun j hj => h.2 j (by omega)⟩⟩
      by_cases e : j = i
      · subst e
        omega
      · exact h.2 j (by omega)
/-- a set of streets that aren't on the walk -/
def lft (M : mm_M) (w : Nat) (S : Int) : Prop := ∀ k : Nat, k < 32 → bt S k = 1 → wN M w k
theorem nwk_lft {M : mm_M} {w : Nat} (ht : tW M) (hv : wV M w) : lft M w (nwk M w (M w 2).toNat) := fun k hk hb i hi => ((nwk_bt ht hv hk (M w 2).toNat (by have := hv.1; omega)).mp hb).2 i (by omega)
theorem lft_r {M : mm_M} {w : Nat} {S r : Int} (h : lft M w S) (hr : 0 ≤ r ∧ r < 64) (hb : bt S (r / 2).toNat = 1) : wN M w (r / 2) := by
  have := h (r / 2).toNat (by omega) hb
  rw [show (((r / 2).toNat : Nat) : Int) = r / 2 by omega] at this
  exact this
/-- going on from a place: r steps come -/
def goR (up : Int) (w : Nat) : Nat → Int → mm_M → mm_M → Prop
  | 0, p, V, V' => onR V (nwk V w (V w 2).toNat) (cor V w p) up (-1) ∧ V' = V
  | r + 1, p, V, V' => ∃ s V1, onR V (nwk V w (V w 2).toNat) (cor V w p) up s ∧ 0 ≤ s ∧ s < 2 * V 2 4 ∧ putR V V1 w p s ∧ fr [w, w + 1] V V1 ∧ goR up w r (p + 1) V1 V'
/-- the rounds come in from a place on -/
def comL (up : Int) (w : Nat) : Nat → Int → mm_M → mm_M → Nat → Prop
  | 0, p, V, V', c => V w 2 < p ∧ V' = V ∧ c = 0
  | m + 1, p, V, V', c => p ≤ V w 2 ∧ ∃ r V1 c', goR up w r p V V1 ∧ comL up w m (p + 1) V1 V' c' ∧ c = r + c'
def comR (up : Int) (w : Nat) (V V' : mm_M) (c : Nat) : Prop := ∃ r V1 m c', goR up w r (V w 2) V V1 ∧ comL up w m 0 V1 V' c' ∧ c = r + c'
def filB (V : mm_M) (up : Int) : Int := if up = 1 then -1 else V 2 4
/-- all that is left, by the least or the greatest: r steps come -/
def filR (up : Int) (w : Nat) : Nat → mm_M → mm_M → Prop
  | 0, V, V' => whR V (nwk V w (V w 2).toNat) (cor V w (V w 2)) (filB V up) up (-1) ∧ fr [5, 6] V V'
  | r + 1, V, V' => ∃ s V0 V1, whR V (nwk V w (V w 2).toNat) (cor V w (V w 2)) (filB V up) up s ∧ 0 ≤ s ∧ s < 2 * V 2 4 ∧ fr [5, 6] V V0 ∧ putR V0 V1 w (V0 w 2) s ∧ fr [w, w + 1] V0 V1 ∧ filR up w r V1 V'
def cpyR (V V' : mm_M) (w v : Nat) : Prop := V' w 2 = V v 2 ∧ V' w 3 = V v 3 ∧ ∀ j : Nat, j < V v 2 → V' (w + 1) j = V (v + 1) j
/-- the steps in turned order -/
def revR (V V' : mm_M) (w : Nat) : Prop := V' w 2 = V w 2 ∧ V' w 3 = cor V w (V w 2) ∧ ∀ i : Nat, i < V w 2 → V' (w + 1) i = V (w + 1) ((V w 2).toNat - 1 - i)
/-- t times the first step becomes the last one -/
def rotR (V V' : mm_M) (w t : Nat) : Prop := V' w 2 = V w 2 ∧ (∀ x : Nat, x < V w 2 → V' (w + 1) x = V (w + 1) ((x + t) % (V w 2).toNat)) ∧ ((t = 0 ∨ V w 2 = 0) → V' w 3 = V w 3) ∧ (0 < t → 0 < V w 2 → V' w 3 = gl V (V (w + 1) ((t - 1) % (V w 2).toNat)))
def smR (V : mm_M) (w v : Nat) : Prop := V w 3 = V v 3 ∧ V w 2 = V v 2 ∧ ∀ i : Nat, i < V w 2 → V (w + 1) i = V (v + 1) i
def tnR (V : mm_M) (w v b : Nat) : Prop := cor V w b = V v 3 ∧ ∀ i : Nat, i < V w 2 → V (w + 1) ((i + b) % (V w 2).toNat) = V (v + 1) i
/-- by how much turned it is the other one -/
def tuR (V : mm_M) (w v : Nat) (r : Int) : Prop := (smR V w v ∧ r = 0) ∨ (¬ smR V w v ∧ ((¬ (cor V w (V w 2) = V w 3 ∧ V w 2 = V v 2) ∧ r = -1) ∨ ((cor V w (V w 2) = V w 3 ∧ V w 2 = V v 2) ∧
  ((r = -1 ∧ ∀ b : Nat, 1 ≤ b → b < V w 2 → ¬ tnR V w v b) ∨ ∃ b : Nat, r = b ∧ 1 ≤ b ∧ b < V w 2 ∧ tnR V w v b ∧ ∀ b' : Nat, 1 ≤ b' → b' < b → ¬ tnR V w v b'))))
def rdw (V : mm_M) (w p : Nat) : Nat → Int
  | 0 => 0
  | m + 1 => rdw V w p m * V 2 6 + V (w + 1) ((p + m) % (V w 2).toNat) / 2 % V 2 6
def wdR (V : mm_M) (w : Nat) (x f r : Int) : Prop := ((V 2 6 = 0 ∨ V 2 4 ≤ x) ∧ r = -1) ∨ (¬ (V 2 6 = 0 ∨ V 2 4 ≤ x) ∧ ((r = -1 ∧ ∀ p : Nat, f ≤ p → p < V w 2 → rdw V w p (V 2 7).toNat ≠ x) ∨ ∃ p : Nat, r = p ∧ f ≤ p ∧ p < V w 2 ∧ rdw V w p (V 2 7).toNat = x ∧ ∀ p' : Nat, f ≤ p' → p' < p → rdw V w p' (V 2 7).toNat ≠ x))
/-- all streets and steps go -/
def emR (V V' : mm_M) : Prop := fr [2, 8, 10, 12, 16] V V' ∧ V' 2 4 = 0 ∧ V' 2 5 = V 2 5 ∧ V' 2 6 = 0 ∧ V' 2 7 = 0 ∧ (∀ k, k < 3 → V' (8 + 2 * k) 2 = 0 ∧ V' (8 + 2 * k) 3 = 0) ∧ V' 16 1 = 0 ∧ V' 16 2 = V 16 2 ∧ V' 16 3 = V 16 3 ∧ V' 16 4 = V 16 4
def rdR (V : mm_M) (w v : Nat) : Prop := w ≠ v ∧ V v 2 ≠ 0 ∧ cor V v (V v 2) = V v 3 ∧ ∀ j : Nat, j < V v 2 → wN V w (V (v + 1) j / 2)
/-- a round comes in, its own walk is empty then; a cursor on one of the two is lost -/
def splR (V V' : mm_M) (w v : Nat) (p : Int) : Prop := V' w 2 = V w 2 + V v 2 ∧ V' w 3 = V w 3 ∧ V' v 2 = 0 ∧ V' v 3 = V v 3 ∧ (∀ i : Nat, i < V' w 2 → (i < p → V' (w + 1) i = V (w + 1) i) ∧ (p ≤ i → i < p + V v 2 → V' (w + 1) i = V (v + 1) (i - p.toNat)) ∧ (p + V v 2 ≤ i → V' (w + 1) i = V (w + 1) (i - (V v 2).toNat)))
def losF (V : mm_M) (w : Nat) : Int := if V 16 1 = w then 1 else V 16 4
def fhF (V : mm_M) (w : Nat) (s : Int) : Int := if V 16 2 = V w 2 then lv V s (cor V w (V 16 2)) else if V 16 2 = 0 then cm V s (cor V w (V 16 2)) else if V 3 s.toNat = cor V w (V 16 2) ∧ V 4 s.toNat = cor V w (V 16 2) then 2 * s else -1
def isW3 (w : Nat) : Prop := w = 8 ∨ w = 10 ∨ w = 12
theorem isW3.k {w : Nat} (h : isW3 w) : isK w := by
  rcases h with h | h | h
  · exact Or.inl h
  · exact Or.inr (Or.inl h)
  · exact Or.inr (Or.inr (Or.inl h))
/-- the steps walked the other way -/
def flp (V : mm_M) (s : Int) : Int := if V 3 (s / 2).toNat = V 4 (s / 2).toNat then s else if s % 2 = 0 then s + 1 else s - 1
def tsR (V V' : mm_M) (w : Nat) : Prop := V' w 2 = V w 2 ∧ V' w 3 = V w 3 ∧ ∀ i : Nat, i < V w 2 → V' (w + 1) i = flp V (V (w + 1) i)
/-- the streets behind one have their numbers anew -/
def renR (V V' : mm_M) (w : Nat) (s : Int) : Prop := V' w 2 = V w 2 ∧ V' w 3 = V w 3 ∧ ∀ i : Nat, i < V w 2 → V' (w + 1) i = if s < V (w + 1) i / 2 then V (w + 1) i - 2 else V (w + 1) i
/-- a round is given out -/
def givR (V V' : mm_M) (w v : Nat) (a b : Int) : Prop := V' w 2 = V w 2 - (b - a) ∧ V' w 3 = V w 3 ∧ V' v 2 = b - a ∧ V' v 3 = cor V w a ∧ (∀ i : Nat, i < V w 2 - (b - a) → (i < a → V' (w + 1) i = V (w + 1) i) ∧ (a ≤ i → V' (w + 1) i = V (w + 1) (i + (b - a).toNat))) ∧ ∀ i : Nat, i < b - a → V' (v + 1) i = V (w + 1) (a.toNat + i)
/-- a street is walked at an end -/
def wsF (V : mm_M) (w : Nat) (s a : Int) : Int := if a = 1 then cm V s (V w 3) else lv V s (cor V w (V w 2))
def wsR (V V' : mm_M) (w : Nat) (s a r : Int) : Prop := ((wsF V w s a = -1 ∨ ¬ wN V w s) ∧ r = -9 ∧ V' = V) ∨ (wsF V w s a ≠ -1 ∧ wN V w s ∧ fr [w, w + 1] V V' ∧
  ((a = 1 ∧ r = sr V (wsF V w s a) ∧ ∃ V1, fr [w, w + 1] V V1 ∧ putR V V1 w 0 (wsF V w s a) ∧ V' = mm_up V1 w 3 r) ∨ (a = 0 ∧ r = gl V (wsF V w s a) ∧ putR V V' w (V w 2) (wsF V w s a))))
/-- cut down to k steps; the first street behind the one that stood there, up or down -/
def ctW (V : mm_M) (w k : Nat) : mm_M := mm_up V w 2 k
def nxS (V : mm_M) (w k : Nat) (up s : Int) : Prop := whR (ctW V w k) (nwk (ctW V w k) w k) (cor (ctW V w k) w k) (V (w + 1) k / 2) up s
def nxR (up : Int) (w : Nat) (V V' : mm_M) (r : Int) : Prop := (r = -1 ∧ ∀ k : Nat, k < V w 2 → nxS V w k up (-1)) ∨
  ∃ k : Nat, r = k ∧ k < V w 2 ∧ (∀ j : Nat, k < j → j < V w 2 → nxS V w j up (-1)) ∧ ∃ s V1 V2 m, nxS V w k up s ∧ 0 ≤ s ∧ s < 2 * V 2 4 ∧ fr [w, w + 1, 5, 6] V V1 ∧ V1 w 2 = k ∧ V1 w 3 = V w 3 ∧ V1 (w + 1) = V (w + 1) ∧ putR V1 V2 w k s ∧ fr [w, w + 1] V1 V2 ∧ filR up w m V2 V'
/-- the cursor: whether it can go on, or back; its place as it is told -/
def hsP (V : mm_M) (f : Int) : Prop := V 16 1 ≠ 0 ∧ V 16 4 = 0 ∧ (f ≠ 0 → V 16 2 < V (V 16 1).toNat 2) ∧ (f = 0 → 0 < V 16 2)
def paF (V : mm_M) (f : Int) : Int := if V 16 1 ≠ 0 ∧ V 16 4 = 0 then (if f = 0 then V 16 2 - 1 else V 16 2) else -2
/-- the cursor goes on, or back -/
def tlP (V : mm_M) (f : Int) : Int := if f = 0 then V 16 2 - 1 else V 16 2
def tlR (V V' : mm_M) (f r : Int) : Prop := (¬ hsP V f ∧ r = -9 ∧ V' = V) ∨ (hsP V f ∧ r = V ((V 16 1).toNat + 1) (tlP V f).toNat ∧ fr [16] V V' ∧ V' 16 1 = V 16 1 ∧ V' 16 4 = V 16 4 ∧ V' 16 3 = tlP V f ∧ V' 16 2 = if f = 0 then V 16 2 - 1 else V 16 2 + 1)
/-- the told step is exchanged -/
def etO (V : mm_M) : Int := V ((V 16 1).toNat + 1) (V 16 3).toNat
def etS (V : mm_M) (s : Int) : Int := bw V s (sr V (etO V)) (gl V (etO V))
def etP (V : mm_M) (s : Int) : Prop := (V 16 1 ≠ 0 ∧ V 16 4 = 0 ∧ 0 ≤ V 16 3) ∧ etS V s ≠ -1 ∧ ∀ i : Nat, i < V (V 16 1).toNat 2 → V ((V 16 1).toNat + 1) i / 2 = s → (i : Int) = V 16 3
def etR (V V' : mm_M) (s r : Int) : Prop := (¬ etP V s ∧ r = -9 ∧ V' = V) ∨ (etP V s ∧ r = etO V ∧ V' = mm_up V ((V 16 1).toNat + 1) (V 16 3).toNat (etS V s))
/-- a street comes in at the cursor -/
def liP (V : mm_M) (s : Int) : Prop := (V 16 1 ≠ 0 ∧ V 16 4 = 0) ∧ wN V (V 16 1).toNat s ∧ fhF V (V 16 1).toNat s ≠ -1
def liR (V V' : mm_M) (s r : Int) : Prop := (¬ liP V s ∧ r = -9 ∧ V' = V) ∨ (liP V s ∧ r = V 16 2 + 1 ∧ ∃ V1, fr [(V 16 1).toNat, (V 16 1).toNat + 1] V V1 ∧ putR V V1 (V 16 1).toNat (V 16 2) (fhF V (V 16 1).toNat s) ∧
  fr [(V 16 1).toNat, (V 16 1).toNat + 1, 16] V V' ∧ V' (V 16 1).toNat 2 = V1 (V 16 1).toNat 2 ∧ V' ((V 16 1).toNat + 1) = V1 ((V 16 1).toNat + 1) ∧ V' (V 16 1).toNat 3 = (if V 16 2 = 0 then sr V (fhF V (V 16 1).toNat s) else V (V 16 1).toNat 3) ∧ V' 16 1 = V 16 1 ∧ V' 16 2 = V 16 2 + 1 ∧ V' 16 3 = -1 ∧ V' 16 4 = V 16 4)
/-- the told step is taken out -/
def rtP (V : mm_M) : Prop := (V 16 1 ≠ 0 ∧ V 16 4 = 0 ∧ 0 ≤ V 16 3) ∧ (V 16 3 = 0 ∨ V 16 3 = V (V 16 1).toNat 2 - 1 ∨ sr V (etO V) = gl V (etO V))
def rtR (V V' : mm_M) (r : Int) : Prop := (¬ rtP V ∧ r = -9 ∧ V' = V) ∨ (rtP V ∧ r = etO V ∧ ∃ V1, fr [(V 16 1).toNat, (V 16 1).toNat + 1] V V1 ∧ takR V V1 (V 16 1).toNat (V 16 3) ∧
  fr [(V 16 1).toNat, (V 16 1).toNat + 1, 16] V V' ∧ V' (V 16 1).toNat 2 = V1 (V 16 1).toNat 2 ∧ V' ((V 16 1).toNat + 1) = V1 ((V 16 1).toNat + 1) ∧ V' (V 16 1).toNat 3 = (if V 16 3 = 0 ∧ V 16 3 ≠ V (V 16 1).toNat 2 - 1 then gl V (etO V) else V (V 16 1).toNat 3) ∧ V' 16 1 = V 16 1 ∧ V' 16 2 = (if V 16 3 < V 16 2 then V 16 2 - 1 else V 16 2) ∧ V' 16 3 = -1 ∧ V' 16 4 = V 16 4)

