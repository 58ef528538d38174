section
/-! what each call does: answer, what is thrown (0 nothing, 1 the first kind that it names, 2 the second), and the state behind, up to what nobody asks for -/
def cnF (V : mm_M) (r : Int) : mm_M := if r = -9 then mm_up V 1 5 (V 1 5 + 1) else mm_up V 1 4 (V 1 4 + 1)
def losM (V : mm_M) (w : Nat) : mm_M := if V 16 1 = w then mm_up V 16 4 1 else V
def losI (P : Prop) [Decidable P] (V : mm_M) (w : Nat) : mm_M := if P then losM V w else V
def endM (V : mm_M) : mm_M := mm_up (mm_up V 2 6 0) 2 7 0
def bgM (V : mm_M) (w : Nat) (c : Int) : mm_M := mm_up (mm_up V w 2 0) w 3 c
def stM (V : mm_M) (w : Nat) (p : Int) : mm_M := mm_up (mm_up (mm_up (mm_up V 16 1 w) 16 2 p) 16 3 (-1)) 16 4 0
def ok1 (P : Prop) (V V' : mm_M) (e : Int) (R : Prop) : Prop := (¬ P ∧ e = 1 ∧ SE V V') ∨ (P ∧ e = 0 ∧ R)
def ok2 (P1 P2 : Prop) (V V' : mm_M) (e : Int) (R : Prop) : Prop := (¬ P1 ∧ e = 1 ∧ SE V V') ∨ (P1 ∧ ¬ P2 ∧ e = 2 ∧ SE V V') ∨ (P1 ∧ P2 ∧ e = 0 ∧ R)
def no9 (P : Prop) (V V' : mm_M) (r : Int) (R : Prop) : Prop := (¬ P ∧ r = -9 ∧ SE (cnF V (-9)) V') ∨ (P ∧ R)
def iw (a : Int) : Prop := 0 ≤ a ∧ a < 3
def ic (a : Int) : Prop := 0 ≤ a ∧ a < 10
def is (V : mm_M) (a : Int) : Prop := 0 ≤ a ∧ a < V 2 4
def wk (a : Int) : Nat := 8 + 2 * a.toNat
def al (V : mm_M) : Int := 2 ^ (V 2 4).toNat - 1
def hmP (V : mm_M) (w : Nat) : Prop := cor V w (V w 2) = V w 3
def b01 (P : Prop) (r : Int) : Prop := (r = 0 ∨ r = 1) ∧ (r = 1 ↔ P)
def rgR (V V1 : mm_M) (a b : Int) : Prop := fr [2, 3, 4] V V1 ∧ (∀ j, j ≠ 4 → V1 2 j = V 2 j) ∧ V1 2 4 = V 2 4 + a ∧ (∀ i : Nat, i < V 2 4 → V1 3 i = V 3 i ∧ V1 4 i = V 4 i) ∧ ∀ k : Nat, k < a → V1 3 ((V 2 4).toNat + k) = k ∧ V1 4 ((V 2 4).toNat + k) = (k + b) % a
def wdsR (V V1 : mm_M) (a b : Int) : Prop := NE V V1 ∧ V1 2 4 = a ^ b.toNat ∧ V1 2 5 = 1 ∧ V1 2 6 = a ∧ V1 2 7 = b ∧ (∀ k : Nat, k < a ^ b.toNat → V1 3 k = k / a ∧ V1 4 k = k % a ^ (b.toNat - 1)) ∧ (∀ w, isW3 w → V1 w 2 = 0 ∧ V1 w 3 = 0) ∧ V1 16 1 = 0
def clrR (V V1 : mm_M) : Prop := NE V V1 ∧ V1 2 4 = 0 ∧ V1 2 5 = 0 ∧ V1 2 6 = 0 ∧ V1 2 7 = 0 ∧ (∀ w, isW3 w → V1 w 2 = 0 ∧ V1 w 3 = 0) ∧ V1 16 1 = 0
def clsR (V V1 : mm_M) (s : Int) : Prop := NE V V1 ∧ CE V V1 ∧ V1 2 4 = V 2 4 - 1 ∧ V1 2 5 = V 2 5 ∧ V1 2 6 = 0 ∧ V1 2 7 = 0 ∧ (∀ i : Nat, i < s → V1 3 i = V 3 i ∧ V1 4 i = V 4 i) ∧ (∀ i : Nat, s ≤ i → i + 1 < V 2 4 → V1 3 i = V 3 (i + 1) ∧ V1 4 i = V 4 (i + 1)) ∧ ∀ w, isW3 w → renR V V1 w s
def bkP (V : mm_M) : Prop := ∃ w, isW3 w ∧ ∃ i : Nat, i < V w 2 ∧ V (w + 1) i % 2 = 1
def ttR (V V1 : mm_M) : Prop := NE V V1 ∧ CE V V1 ∧ V1 2 4 = V 2 4 ∧ V1 2 5 = V 2 5 ∧ V1 2 6 = 0 ∧ V1 2 7 = 0 ∧ (∀ i : Nat, i < V 2 4 → V1 3 i = V 4 i ∧ V1 4 i = V 3 i) ∧ ∀ w, isW3 w → revR V V1 w
def bckR (V V1 : mm_M) (w : Nat) (f : Int) : Prop := fr [w, w + 1] V V1 ∧ V1 w 2 = V w 2 - 1 ∧ V1 w 3 = (if f = 0 then V w 3 else cor V w 1) ∧ ∀ i : Nat, i + 1 < V w 2 → V1 (w + 1) i = V (w + 1) (if f = 0 then i else i + 1)
def kdR (F T : Nat → Int) (n : Nat) (ow r : Int) : Prop := ((HG F T n (2 ^ n - 1) ∧ odn F T n ow (2 ^ n - 1) 10 = 0) ∧ r = 2) ∨ (¬ (HG F T n (2 ^ n - 1) ∧ odn F T n ow (2 ^ n - 1) 10 = 0) ∧ ((r = 1 ∧ ∃ c : Nat, c < 10 ∧ ST F T n ow (2 ^ n - 1) c) ∨ (r = 0 ∧ ∀ c : Nat, c < 10 → ¬ ST F T n ow (2 ^ n - 1) c)))
def plR (V : mm_M) (w : Nat) (s r : Int) : Prop := (r = -1 ∧ ∀ i : Nat, i < V w 2 → V (w + 1) i / 2 ≠ s) ∨ (0 ≤ r ∧ r < V w 2 ∧ V (w + 1) r.toNat / 2 = s ∧ ∀ i : Nat, i < r → V (w + 1) i / 2 ≠ s)
/-- the first places where two walks are on one corner -/
def mtR (V : mm_M) (w v i j : Nat) : Prop := i ≤ V w 2 ∧ j < V v 2 ∧ cor V w i = cor V v j ∧ (∀ i' j' : Nat, i' < i → j' < V v 2 → cor V w i' ≠ cor V v j') ∧ ∀ j' : Nat, j' < j → cor V w i ≠ cor V v j'
def cutP (V : mm_M) (w : Nat) (p q : Int) (v : Nat) : Prop := w ≠ v ∧ p < q ∧ cor V w p = cor V w q
def onW (V : mm_M) (w : Nat) (p : Int) : Prop := 0 ≤ p ∧ p ≤ V w 2
def C_lay (a b : Int) (V V' : mm_M) (e r : Int) : Prop := ok1 (ic a ∧ ic b) V V' e (no9 (V 2 4 < 30) V V' r (r = V 2 4 ∧ SE (cnF (addS (endM V) a b) r) V'))
def C_layRing (a b : Int) (V V' : mm_M) (e r : Int) : Prop := ok1 ((1 ≤ a ∧ a ≤ 10) ∧ (0 ≤ b ∧ b ≤ 9)) V V' e (no9 (V 2 4 + a ≤ 30) V V' r (r = V 2 4 + a ∧ ∃ V1, rgR (endM V) V1 a b ∧ SE (cnF V1 r) V'))
def C_words (a b : Int) (V V' : mm_M) (e r : Int) : Prop := ok1 ((2 ≤ a ∧ a ≤ 5) ∧ (1 ≤ b ∧ b ≤ 4)) V V' e (no9 (a ^ b.toNat ≤ 30) V V' r (r = a ^ b.toNat ∧ ∃ V1, wdsR V V1 a b ∧ SE (cnF V1 r) V'))
def C_close (s : Int) (V V' : mm_M) (e r : Int) : Prop := ok1 (is V s) V V' e (no9 (∀ w, isW3 w → wN V w s) V V' r (r = V 2 4 - 1 ∧ ∃ V1, clsR V V1 s ∧ SE (cnF V1 r) V'))
def C_clear (V V' : mm_M) (e r : Int) : Prop := e = 0 ∧ r = V 2 4 ∧ ∃ V1, clrR V V1 ∧ SE (cnF V1 r) V'
def C_oneWay (f : Int) (V V' : mm_M) (e r : Int) : Prop := e = 0 ∧ no9 (¬ (f ≠ 0 ∧ bkP V)) V V' r (r = (if V 2 5 = f then 0 else 1) ∧ SE (cnF (mm_up V 2 5 f) r) V')
def C_turnTown (V V' : mm_M) (e r : Int) : Prop := e = 0 ∧ r = V 2 4 ∧ ∃ V1, ttR V V1 ∧ SE (cnF V1 r) V'
def C_streets (V V' : mm_M) (e r : Int) : Prop := e = 0 ∧ r = V 2 4 ∧ SE V V'
def C_end (s f : Int) (V V' : mm_M) (e r : Int) : Prop := ok1 (is V s) V V' e (r = (if f = 0 then V 3 s.toNat else V 4 s.toNat) ∧ SE V V')
def C_ways (c x : Int) (V V' : mm_M) (e r : Int) : Prop := ok2 (ic c) (0 ≤ x ∧ x ≤ 2) V V' e (r = (if x = 0 then oc (V 3) (al V) c (V 2 4).toNat + oc (V 4) (al V) c (V 2 4).toNat else if x = 1 then oc (V 3) (al V) c (V 2 4).toNat else oc (V 4) (al V) c (V 2 4).toNat) ∧ SE V V')
def C_odd (V V' : mm_M) (e r : Int) : Prop := e = 0 ∧ r = odn (V 3) (V 4) (V 2 4).toNat (V 2 5) (al V) 10 ∧ SE V V'
def C_hangs (V V' : mm_M) (e r : Int) : Prop := e = 0 ∧ b01 (HG (V 3) (V 4) (V 2 4).toNat (al V)) r ∧ SE V V'
def C_kind (V V' : mm_M) (e r : Int) : Prop := e = 0 ∧ kdR (V 3) (V 4) (V 2 4).toNat (V 2 5) r ∧ SE V V'
def C_isStart (c : Int) (V V' : mm_M) (e r : Int) : Prop := ok1 (ic c) V V' e (b01 (STV V (al V) c) r ∧ SE V V')
def C_rule (x : Int) (V V' : mm_M) (e r : Int) : Prop := ok1 (0 ≤ x ∧ x ≤ 2) V V' e (r = (if x = 0 then V 2 6 else if x = 1 then V 2 7 else V 2 5) ∧ SE V V')
def C_begin (a c : Int) (V V' : mm_M) (e r : Int) : Prop := ok1 (iw a ∧ ic c) V V' e (r = V (wk a) 2 ∧ SE (cnF (losI (0 < V (wk a) 2) (bgM V (wk a) c) (wk a)) r) V')
def C_step (a s f : Int) (V V' : mm_M) (e r : Int) : Prop := ok1 (iw a ∧ is V s) V V' e (∃ V1, wsR V V1 (wk a) s f r ∧ SE (cnF (losI (r ≠ -9) V1 (wk a)) r) V')
def C_back (a f : Int) (V V' : mm_M) (e r : Int) : Prop := ok1 (iw a) V V' e (no9 (0 < V (wk a) 2) V V' r (r = V (wk a + 1) (if f = 0 then (V (wk a) 2 - 1).toNat else 0) ∧ ∃ V1, bckR V V1 (wk a) f ∧ SE (cnF (losM V1 (wk a)) r) V'))
def C_on (a f : Int) (V V' : mm_M) (e r : Int) : Prop := ok1 (iw a) V V' e (∃ V1 n, goR f (wk a) n (V (wk a) 2) V V1 ∧ r = n ∧ SE (cnF (losI (0 < r) V1 (wk a)) r) V')
def C_complete (a f : Int) (V V' : mm_M) (e r : Int) : Prop := ok1 (iw a) V V' e (no9 (STV V (al V) (V (wk a) 3)) V V' r (∃ V0 V1 n, fr [5, 6] V V0 ∧ comR f (wk a) V0 V1 n ∧ fr [wk a, wk a + 1] V0 V1 ∧ r = n ∧ SE (cnF (losI (0 < r) V1 (wk a)) r) V'))
def C_splice (a b p : Int) (V V' : mm_M) (e r : Int) : Prop := ok1 (iw a ∧ iw b ∧ onW V (wk a) p) V V' e (no9 (rdR V (wk a) (wk b) ∧ V (wk b) 3 = cor V (wk a) p) V V' r (r = V (wk a) 2 + V (wk b) 2 ∧ ∃ V1, splR V V1 (wk a) (wk b) p ∧ fr [wk a, wk a + 1, wk b] V V1 ∧ SE (cnF (losM (losM V1 (wk b)) (wk a)) r) V'))
def C_join (a b : Int) (V V' : mm_M) (e r : Int) : Prop := ok1 (iw a ∧ iw b) V V' e (no9 (rdR V (wk a) (wk b) ∧ ∃ i j : Nat, i ≤ V (wk a) 2 ∧ j < V (wk b) 2 ∧ cor V (wk a) i = cor V (wk b) j) V V' r (∃ i j : Nat, mtR V (wk a) (wk b) i j ∧ r = i ∧ ∃ V1 V2, rotR V V1 (wk b) j ∧ fr [wk b, wk b + 1] V V1 ∧ splR V1 V2 (wk a) (wk b) i ∧ fr [wk a, wk a + 1, wk b] V1 V2 ∧ SE (cnF (losM (losM V2 (wk b)) (wk a)) r) V'))
def C_cut (a p q b : Int) (V V' : mm_M) (e r : Int) : Prop := ok1 (iw a ∧ iw b ∧ onW V (wk a) p ∧ onW V (wk a) q) V V' e (no9 (cutP V (wk a) p q (wk b)) V V' r (r = q - p ∧ ∃ V1, givR V V1 (wk a) (wk b) p q ∧ fr [wk a, wk a + 1, wk b, wk b + 1] V V1 ∧ SE (cnF (losM (losM V1 (wk b)) (wk a)) r) V'))
def C_turnRound (a : Int) (V V' : mm_M) (e r : Int) : Prop := ok1 (iw a) V V' e (no9 (V 2 5 = 0) V V' r (∃ V1 V2, revR V V1 (wk a) ∧ fr [wk a, wk a + 1] V V1 ∧ tsR V1 V2 (wk a) ∧ fr [wk a, wk a + 1] V1 V2 ∧ r = V2 (wk a) 3 ∧ SE (cnF V2 r) V'))
def C_rotate (a b : Int) (V V' : mm_M) (e r : Int) : Prop := ok2 (iw a) (0 ≤ b ∧ b ≤ 30) V V' e (no9 (hmP V (wk a)) V V' r (∃ V1, rotR V V1 (wk a) (if V (wk a) 2 = 0 then 0 else (b % V (wk a) 2).toNat) ∧ fr [wk a, wk a + 1] V V1 ∧ r = V1 (wk a) 3 ∧ SE (cnF (losI (0 < b ∧ 0 < V (wk a) 2) V1 (wk a)) r) V'))
def C_first (a c f : Int) (V V' : mm_M) (e r : Int) : Prop := ok1 (iw a ∧ ic c) V V' e (no9 (STV V (al V) c) V V' r (∃ V0 V1 V2 n, fr [5, 6, 16] V V0 ∧ filR f (wk a) n (bgM V0 (wk a) c) V1 ∧ fr [wk a, wk a + 1, 5, 6] (bgM V0 (wk a) c) V1 ∧ r = n ∧ fr [16] V1 V2 ∧ V2 16 = losI (0 < V (wk a) 2 ∨ 0 < r) V (wk a) 16 ∧ SE (cnF V2 r) V'))
def C_next (a f : Int) (V V' : mm_M) (e r : Int) : Prop := ok1 (iw a) V V' e (no9 (V (wk a) 2 = V 2 4) V V' r (∃ V1 V2 q, cpyR V V1 14 (wk a) ∧ fr [14, 15] V V1 ∧ nxR f 14 V1 V2 q ∧ fr [14, 15, 5, 6] V1 V2 ∧ no9 (0 ≤ q) V V' r (r = q ∧ ∃ V3, cpyR V2 V3 (wk a) 14 ∧ fr [wk a, wk a + 1] V2 V3 ∧ SE (cnF (losM V3 (wk a)) r) V')))
def C_copy (a b : Int) (V V' : mm_M) (e r : Int) : Prop := ok1 (iw a ∧ iw b) V V' e (no9 (wk a ≠ wk b) V V' r (r = V (wk a) 2 ∧ ∃ V0 V1, V0 = losI (0 < V (wk a) 2 ∨ 0 < V (wk b) 2) V (wk b) ∧ cpyR V0 V1 (wk b) (wk a) ∧ fr [wk b, wk b + 1] V0 V1 ∧ SE (cnF V1 r) V'))
def C_length (a : Int) (V V' : mm_M) (e r : Int) : Prop := ok1 (iw a) V V' e (r = V (wk a) 2 ∧ SE V V')
def C_cornerAt (a p : Int) (V V' : mm_M) (e r : Int) : Prop := ok1 (iw a ∧ onW V (wk a) p) V V' e (r = cor V (wk a) p ∧ SE V V')
def C_stepAt (a p : Int) (V V' : mm_M) (e r : Int) : Prop := ok1 (iw a ∧ 0 ≤ p ∧ p < V (wk a) 2) V V' e (r = V (wk a + 1) p.toNat ∧ SE V V')
def C_find (a s : Int) (V V' : mm_M) (e r : Int) : Prop := ok1 (iw a ∧ is V s) V V' e (plR V (wk a) s r ∧ SE V V')
def C_is (a f : Int) (V V' : mm_M) (e r : Int) : Prop := ok1 (iw a) V V' e (b01 (if f = 0 then hmP V (wk a) else V (wk a) 2 = V 2 4) r ∧ SE V V')
def C_same (a b : Int) (V V' : mm_M) (e r : Int) : Prop := ok1 (iw a ∧ iw b) V V' e (b01 (smR V (wk a) (wk b)) r ∧ SE V V')
def C_turnOf (a b : Int) (V V' : mm_M) (e r : Int) : Prop := ok1 (iw a ∧ iw b) V V' e (tuR V (wk a) (wk b) r ∧ SE V V')
def C_wordAt (a x f : Int) (V V' : mm_M) (e r : Int) : Prop := ok2 (iw a) ((0 ≤ x ∧ x ≤ 29) ∧ (0 ≤ f ∧ f ≤ 29)) V V' e ((WI V → wdR V (wk a) x f r) ∧ SE V V')
def C_cursor (a p : Int) (V V' : mm_M) (e r : Int) : Prop := ok1 (iw a ∧ onW V (wk a) p) V V' e (r = cor V (wk a) p ∧ SE (cnF (stM V (wk a) p) r) V')
def C_cursorGo (f : Int) (V V' : mm_M) (e r : Int) : Prop := e = 0 ∧ ∃ V1, tlR V V1 f r ∧ SE (cnF V1 r) V'
def C_cursorSet (s : Int) (V V' : mm_M) (e r : Int) : Prop := ok1 (is V s) V V' e (∃ V1, etR V V1 s r ∧ SE (cnF V1 r) V')
def C_cursorAdd (s : Int) (V V' : mm_M) (e r : Int) : Prop := ok1 (is V s) V V' e (∃ V1, liR V V1 s r ∧ SE (cnF V1 r) V')
def C_cursorRemove (V V' : mm_M) (e r : Int) : Prop := e = 0 ∧ ∃ V1, rtR V V1 r ∧ SE (cnF V1 r) V'
def C_cursorCan (f : Int) (V V' : mm_M) (e r : Int) : Prop := e = 0 ∧ b01 (hsP V f) r ∧ SE V V'
def C_cursorPlace (f : Int) (V V' : mm_M) (e r : Int) : Prop := e = 0 ∧ r = paF V f ∧ SE V V'
def C_house (x : Int) (V V' : mm_M) (e r : Int) : Prop := ok1 (0 ≤ x ∧ x ≤ 2) V V' e (r = (if x = 0 then V 1 4 else if x = 1 then V 1 5 else V 1 6) ∧ SE V V')
def C_knock (V V' : mm_M) (e r : Int) : Prop := e = 0 ∧ r = V 1 6 + 1 ∧ SE (mm_up V 1 6 (V 1 6 + 1)) V'
/-- calls whose answer is left open -/
def C_text (a x : Int) (V V' : mm_M) (e : Int) : Prop := ok2 (iw a) (0 ≤ x ∧ x ≤ 2) V V' e (SE V V')
theorem ok1.y {P : Prop} {V V' : mm_M} {R : Prop} (h : P) (r : R) : ok1 P V V' 0 R := Or.inr ⟨h, rfl, r⟩
theorem ok1.n {P : Prop} {V : mm_M} {R : Prop} (h : ¬ P) : ok1 P V V 1 R := Or.inl ⟨h, rfl, .rf⟩
theorem ok2.y {P1 P2 : Prop} {V V' : mm_M} {R : Prop} (h : P1) (g : P2) (r : R) : ok2 P1 P2 V V' 0 R := Or.inr (Or.inr ⟨h, g, rfl, r⟩)
theorem ok2.n1 {P1 P2 : Prop} {V : mm_M} {R : Prop} (h : ¬ P1) : ok2 P1 P2 V V 1 R := Or.inl ⟨h, rfl, .rf⟩
theorem ok2.n2 {P1 P2 : Prop} {V : mm_M} {R : Prop} (h : P1) (g : ¬ P2) : ok2 P1 P2 V V 2 R := Or.inr (Or.inl ⟨h, g, rfl, .rf⟩)
theorem no9.y {P : Prop} {V V' : mm_M} {r : Int} {R : Prop} (h : P) (g : R) : no9 P V V' r R := Or.inr ⟨h, g⟩
theorem no9.n {P : Prop} {V V' : mm_M} {R : Prop} (h : ¬ P) (g : V' = cnF V (-9)) : no9 P V V' (-9) R := Or.inl ⟨h, rfl, by rw [g]; exact .rf⟩
theorem SE.eq {A B : mm_M} (h : B = A) : SE A B := by rw [h]; exact .rf
theorem b01.of {P : Prop} {r : Int} (h : (P → r = 1) ∧ (¬ P → r = 0)) : b01 P r := ⟨in01 h, fun h2 => inI_y h (by omega), h.1⟩
theorem losM.of {M M' : mm_M} {w : Nat} (h : (M 16 1 = w ∧ M' = mm_up M 16 4 1) ∨ (M 16 1 ≠ w ∧ M' = M)) : M' = losM M w := by
  unfold losM
  rcases h with ⟨a, b⟩ | ⟨a, b⟩
  · rw [if_pos a, b]
  · rw [if_neg a, b]
theorem losI_y {P : Prop} [Decidable P] {V : mm_M} {w : Nat} (h : P) : losI P V w = losM V w := if_pos h
theorem losI_n {P : Prop} [Decidable P] {V : mm_M} {w : Nat} (h : ¬ P) : losI P V w = V := if_neg h
theorem losM_o {V : mm_M} {w o : Nat} (h : o ≠ 16) : losM V w o = V o := by
  unfold losM
  split
  · exact mm_up_o _ (by omega)
  · rfl
theorem losI_o {P : Prop} [Decidable P] {V : mm_M} {w o : Nat} (h : o ≠ 16) : losI P V w o = V o := by
  unfold losI
  split
  · exact losM_o h
  · rfl
theorem losM_16 {V W : mm_M} {w : Nat} (h : V 16 = W 16) : losM V w 16 = losM W w 16 := by
  unfold losM
  rw [h]
  split
  · funext k
    simp [mm_up, h]
  · exact h
theorem losI_16 {P : Prop} [Decidable P] {V W : mm_M} {w : Nat} (h : V 16 = W 16) : losI P V w 16 = losI P W w 16 := by
  unfold losI
  split
  · exact losM_16 h
  · exact h
theorem cnF_o {V : mm_M} {r : Int} {o : Nat} (h : o ≠ 1) : cnF V r o = V o := by
  unfold cnF
  split <;> exact mm_up_o _ h
theorem cnF_14 {V : mm_M} {r : Int} : cnF V r 1 4 = (if r = -9 then V 1 4 else V 1 4 + 1) ∧ cnF V r 1 5 = (if r = -9 then V 1 5 + 1 else V 1 5) ∧ cnF V r 1 6 = V 1 6 := by
  unfold cnF
  split <;> simp [mm_up]
theorem SE.mk {A B A' B' : mm_M} (h : SE A B) (ht : TE A' B') (hw : ∀ w, isW3 w → SW A' B' w) (hc : CE A' B') (ha : A' 1 = A 1) (hb : B' 1 = B 1) : SE A' B' := ⟨ht, hw, hc, by unfold NE; rw [ha, hb]; exact h.2.2.2⟩
theorem SE.cnF {A B : mm_M} {r : Int} (h : SE A B) : SE (cnF A r) (cnF B r) := by
  obtain ⟨a, b, c, d1, d2, d3⟩ := h
  refine ⟨(TE.of (cnF_o (by omega)) (cnF_o (by omega)) (cnF_o (by omega))).sy.tr (a.tr (.of (cnF_o (by omega)) (cnF_o (by omega)) (cnF_o (by omega)))), fun w hw => ?_, (CE.of (cnF_o (by omega))).sy.tr (c.tr (.of (cnF_o (by omega)))), ?_⟩
  · have : w ≠ 1 ∧ w + 1 ≠ 1 := by rcases hw with rfl | rfl | rfl <;> omega
    exact (SW.of (cnF_o this.1) (cnF_o this.2)).sy.tr ((b w hw).tr (.of (cnF_o this.1) (cnF_o this.2)))
  · unfold NE
    rw [cnF_14.1, cnF_14.1, cnF_14.2.1, cnF_14.2.1, cnF_14.2.2, cnF_14.2.2, d1, d2, d3]
    exact ⟨rfl, rfl, rfl⟩
theorem no9.s {P : Prop} {V V0 V' : mm_M} {R : Prop} (h : ¬ P) (g : SE V V0) (e : V' = cnF V0 (-9)) : no9 P V V' (-9) R := Or.inl ⟨h, rfl, by rw [e]; exact g.cnF⟩
end
section
/-! the class: checks and counting -/
theorem mm_is1 (M : mm_M) (d : List Nat) : mm_is M d 1 10 := ⟨rfl, by simp [mm_ids, mm_st]⟩
theorem wA.n {M M' : mm_M} (h : wA M) (hf : fr [1] M M') (hk : M' 1 6 = M 1 6) : cP M M' := by
  refine ⟨⟨h.1.fr hf (by simp) (by simp) (by simp), fun w hw => ?_, h.2.2.to (hf 16 (by simp)) (fun h1 h2 => ?_)⟩, cF.of hf (by simp), hk⟩
  · have := isK_le hw.k
    exact wV.me (h.2.1 w hw) (hf w (by simp; omega)) (hf (w + 1) (by simp; omega)) (hf 2 (by simp))
  · have := isK_le ((h.2.2.1.resolve_left h1).k)
    rw [hf _ (by simp; omega)]
    exact Int.le_refl _
def sp_X3_counted : mm_S := fun av M d Q => match av with
  | [.inr (.inr (.inl o)), .inl r] =>  o = 1 ∧ wA M ∧ InI r ∧ ∀ M', cP M M' ∧ M' = cnF M r → Q (.inl (some (mm_I r))) M' d
  | _ => False
def ct_X3_counted : List (Nat × mm_Ca) := []
abbrev rr_X3_counted (Q : mm_Q) := mm_run (mm_look flX3) (mm_look ct_X3_counted) mm_x0 (mm_look ([] : List (Nat × Int))) (fun _ => none) 1 0 (fun _ _ => none) Q kdX3_counted
set_option maxRecDepth 20000 in
theorem rn_X3_counted : mm_RN flX3 ct_X3_counted mm_x0 [] 1 0 2 kdX3_counted sp_X3_counted := by
  intro av M d Q h
  unfold sp_X3_counted at h
  split at h
  · rename_i o r
    obtain ⟨rfl, ha, hr, hq⟩ := h
    refine ⟨Nat.le_of_ble_eq_true rfl, mm_run_at (stop := []) (S := mm_F0) kkX3_counted 80 ?_ mm_F0h⟩
    simp only [mm_wp, mm_op, mm_nxt, mm_jmp, mm_at, mm_in, mm_nth, mm_set, mm_ok, mm_isL, mm_ret, mm_isRet, mm_bool, mm_call, mm_push, mm_rv, mm_cats, mm_cat, mm_look, mm_ft, mm_fv, mm_pf, mm_thr, mm_ent, mm_pad, mm_fl, beq_self_eq_true, cond_true, cond_false, Nat.reduceBEq, Nat.reduceEqDiff, List.drop_succ_cons, List.drop_zero, List.take_succ_cons, List.take_zero, List.reverse_cons, List.reverse_nil, List.nil_append, List.cons_append, List.length_cons, List.length_nil, Nat.reduceAdd, Nat.reduceSub, Nat.reduceLeDiff, Bool.not_false, Bool.and_true, Bool.true_and, Nat.zero_add, true_and, and_true, Nat.le_refl, true_or, or_true, reduceCtorEq, Nat.add_zero, Nat.reduceLT, Bool.and_self, Bool.not_true, Fin.isValue, Nat.reduceLeDiff, List.take_nil, List.drop_nil, mm_i1, mm_i2, mm_i3, mm_i4, mm_i5, mm_i6, mm_i7, mm_i16, mm_i17, mm_i18, mm_i19, mm_i20, mm_i21, mm_i22, mm_i23, mm_l3, mm_l4, mm_l5, mm_l6, mm_l7, mm_l18, mm_l19, mm_l20, mm_l21, mm_l22, kdX3_counted, ct_X3_counted, flX3]
    exact ⟨by omega, hr, ⟨by omega, by omega⟩, fun h => hq _ ⟨ha.n (fr.rf.up (by simp)) (by simp [mm_up]), by unfold cnF; first | rw [if_pos (by omega)] | rw [if_neg (by omega)]⟩, fun h => hq _ ⟨ha.n (fr.rf.up (by simp)) (by simp [mm_up]), by unfold cnF; first | rw [if_pos (by omega)] | rw [if_neg (by omega)]⟩⟩
  · exact h.elim
theorem me_X3_counted {l : Launch} (hl : l.stackTraces = false) : mm_Met l yX3_counted cX3_counted 2 (some .int) [] 6 100 0 sp_X3_counted := mm_mt hl rn_X3_counted ⟨plX3, rfl⟩ kkX3_counted rfl ⟨Nat.le_of_ble_eq_true rfl, Nat.le_of_ble_eq_true rfl⟩ flkX3 (fun _ h => nomatch h) (trivial) (mm_xe0 _) n9X3
def sp_X3_checkCorner : mm_S := fun av M d Q => match av with
  | [.inr (.inr (.inl o)), .inl c] =>  o = 1 ∧ InI c ∧ ((0 ≤ c ∧ c < 10) → Q (.inl none) M d) ∧ (¬ (0 ≤ c ∧ c < 10) → Q (.inr 0) M d)
  | _ => False
def ct_X3_checkCorner : List (Nat × mm_Ca) := [(349, (1, 1, 0, sp_X1_isCorner, 0))]
abbrev rr_X3_checkCorner (Q : mm_Q) := mm_run (mm_look flX3) (mm_look ct_X3_checkCorner) mm_x3 (mm_look ([] : List (Nat × Int))) (fun _ => none) 0 1 (fun _ _ => none) Q kdX3_checkCorner
set_option maxRecDepth 20000 in
theorem rn_X3_checkCorner : mm_RN flX3 ct_X3_checkCorner mm_x3 [] 0 1 2 kdX3_checkCorner sp_X3_checkCorner := by
  intro av M d Q h
  unfold sp_X3_checkCorner at h
  split at h
  · rename_i o c
    obtain ⟨rfl, hc, hq1, hq2⟩ := h
    refine ⟨Nat.le_of_ble_eq_true rfl, mm_run_at (stop := []) (S := mm_F0) kkX3_checkCorner 80 ?_ mm_F0h⟩
    simp only [mm_wp, mm_op, mm_nxt, mm_jmp, mm_at, mm_in, mm_nth, mm_set, mm_ok, mm_isL, mm_ret, mm_isRet, mm_bool, mm_call, mm_push, mm_rv, mm_cats, mm_cat, mm_look, mm_ft, mm_fv, mm_pf, mm_thr, mm_ent, mm_pad, mm_fl, beq_self_eq_true, cond_true, cond_false, Nat.reduceBEq, Nat.reduceEqDiff, List.drop_succ_cons, List.drop_zero, List.take_succ_cons, List.take_zero, List.reverse_cons, List.reverse_nil, List.nil_append, List.cons_append, List.length_cons, List.length_nil, Nat.reduceAdd, Nat.reduceSub, Nat.reduceLeDiff, Bool.not_false, Bool.and_true, Bool.true_and, Nat.zero_add, true_and, and_true, Nat.le_refl, true_or, or_true, reduceCtorEq, Nat.add_zero, Nat.reduceLT, Bool.and_self, Bool.not_true, Fin.isValue, Nat.reduceLeDiff, List.take_nil, List.drop_nil, mm_i1, mm_i2, mm_i3, mm_i4, mm_i5, mm_i6, mm_i7, mm_i16, mm_i17, mm_i18, mm_i19, mm_i20, mm_i21, mm_i22, mm_i23, mm_l3, mm_l4, mm_l5, mm_l6, mm_l7, mm_l18, mm_l19, mm_l20, mm_l21, mm_l22, kdX3_checkCorner, ct_X3_checkCorner, flX3, sp_X1_isCorner, mm_x3, Bool.or_true, Bool.or_false, Bool.false_or, Bool.true_or]
    refine ⟨hc, fun r hr => ⟨inI2 hr, fun h => hq1 (Classical.byContradiction fun h2 => h (hr.2 h2)), fun h => hq2 (fun h2 => ?_)⟩⟩
    have := hr.1 h2
    omega
  · exact h.elim
theorem me_X3_checkCorner {l : Launch} (hl : l.stackTraces = false) : mm_Met l yX3_checkCorner cX3_checkCorner 2 none [] 7 120 1 sp_X3_checkCorner := mm_mt hl rn_X3_checkCorner ⟨plX3, rfl⟩ kkX3_checkCorner rfl ⟨Nat.le_of_ble_eq_true rfl, Nat.le_of_ble_eq_true rfl⟩ flkX3 (fun _ h => nomatch h) (⟨mm_pe (me_X1_isCorner hl) mwX1_isCorner (mm_t3 84 rfl rfl) (Nat.le_of_ble_eq_true rfl) (Nat.le_of_ble_eq_true rfl), trivial⟩) mm_xe3 n9X3
def sp_X3_checkStreet : mm_S := fun av M d Q => match av with
  | [.inr (.inr (.inl o)), .inl c] =>  o = 1 ∧ wA M ∧ InI c ∧ ((0 ≤ c ∧ c < M 2 4) → Q (.inl none) M d) ∧ (¬ (0 ≤ c ∧ c < M 2 4) → Q (.inr 0) M d)
  | _ => False
def ct_X3_checkStreet : List (Nat × mm_Ca) := [(55, (0, 1, 11, sp_X1_size, 0))]
abbrev rr_X3_checkStreet (Q : mm_Q) := mm_run (mm_look flX3) (mm_look ct_X3_checkStreet) mm_x3 (mm_look ([] : List (Nat × Int))) (fun _ => none) 0 1 (fun _ _ => none) Q kdX3_checkStreet
set_option maxRecDepth 20000 in
theorem rn_X3_checkStreet : mm_RN flX3 ct_X3_checkStreet mm_x3 [] 0 1 2 kdX3_checkStreet sp_X3_checkStreet := by
  intro av M d Q h
  unfold sp_X3_checkStreet at h
  split at h
  · rename_i o c
    obtain ⟨rfl, ha, hc, hq1, hq2⟩ := h
    have t1 := ha.1.1
    refine ⟨Nat.le_of_ble_eq_true rfl, mm_run_at (stop := []) (S := mm_F0) kkX3_checkStreet 80 ?_ mm_F0h⟩
    simp only [mm_wp, mm_op, mm_nxt, mm_jmp, mm_at, mm_in, mm_nth, mm_set, mm_ok, mm_isL, mm_ret, mm_isRet, mm_bool, mm_call, mm_push, mm_rv, mm_cats, mm_cat, mm_look, mm_ft, mm_fv, mm_pf, mm_thr, mm_ent, mm_pad, mm_fl, beq_self_eq_true, cond_true, cond_false, Nat.reduceBEq, Nat.reduceEqDiff, List.drop_succ_cons, List.drop_zero, List.take_succ_cons, List.take_zero, List.reverse_cons, List.reverse_nil, List.nil_append, List.cons_append, List.length_cons, List.length_nil, Nat.reduceAdd, Nat.reduceSub, Nat.reduceLeDiff, Bool.not_false, Bool.and_true, Bool.true_and, Nat.zero_add, true_and, and_true, Nat.le_refl, true_or, or_true, reduceCtorEq, Nat.add_zero, Nat.reduceLT, Bool.and_self, Bool.not_true, Fin.isValue, Nat.reduceLeDiff, List.take_nil, List.drop_nil, mm_i1, mm_i2, mm_i3, mm_i4, mm_i5, mm_i6, mm_i7, mm_i16, mm_i17, mm_i18, mm_i19, mm_i20, mm_i21, mm_i22, mm_i23, mm_l3, mm_l4, mm_l5, mm_l6, mm_l7, mm_l18, mm_l19, mm_l20, mm_l21, mm_l22, kdX3_checkStreet, ct_X3_checkStreet, flX3, sp_X1_size, mm_x3, Bool.or_true, Bool.or_false, Bool.false_or, Bool.true_or]
    exact ⟨hc, fun h => hq2 (by omega), fun h => ⟨hc, ⟨by omega, by omega⟩, fun h2 => hq1 (by omega), fun h2 => hq2 (by omega)⟩⟩
  · exact h.elim
theorem me_X3_checkStreet {l : Launch} (hl : l.stackTraces = false) : mm_Met l yX3_checkStreet cX3_checkStreet 2 none [] 7 120 1 sp_X3_checkStreet := mm_mt hl rn_X3_checkStreet ⟨plX3, rfl⟩ kkX3_checkStreet rfl ⟨Nat.le_of_ble_eq_true rfl, Nat.le_of_ble_eq_true rfl⟩ flkX3 (fun _ h => nomatch h) (⟨mm_pe (me_X1_size hl) mwX1_size (mm_t1 131 rfl rfl) (Nat.le_of_ble_eq_true rfl) (Nat.le_of_ble_eq_true rfl), trivial⟩) mm_xe3 n9X3
def sp_X3_checkIndex : mm_S := fun av M d Q => match av with
  | [.inl c, .inl n] =>  InI c ∧ InI n ∧ ((0 ≤ c ∧ c ≤ n) → Q (.inl none) M d) ∧ (¬ (0 ≤ c ∧ c ≤ n) → Q (.inr 0) M d)
  | _ => False
def ct_X3_checkIndex : List (Nat × mm_Ca) := []
abbrev rr_X3_checkIndex (Q : mm_Q) := mm_run (mm_look flX3) (mm_look ct_X3_checkIndex) mm_x3 (mm_look ([] : List (Nat × Int))) (fun _ => none) 0 1 (fun _ _ => none) Q kdX3_checkIndex
set_option maxRecDepth 20000 in
theorem rn_X3_checkIndex : mm_RN flX3 ct_X3_checkIndex mm_x3 [] 0 1 2 kdX3_checkIndex sp_X3_checkIndex := by
  intro av M d Q h
  unfold sp_X3_checkIndex at h
  split at h
  · rename_i c n
    obtain ⟨hc, hn, hq1, hq2⟩ := h
    refine ⟨Nat.le_of_ble_eq_true rfl, mm_run_at (stop := []) (S := mm_F0) kkX3_checkIndex 80 ?_ mm_F0h⟩
    simp only [mm_wp, mm_op, mm_nxt, mm_jmp, mm_at, mm_in, mm_nth, mm_set, mm_ok, mm_isL, mm_ret, mm_isRet, mm_bool, mm_call, mm_push, mm_rv, mm_cats, mm_cat, mm_look, mm_ft, mm_fv, mm_pf, mm_thr, mm_ent, mm_pad, mm_fl, beq_self_eq_true, cond_true, cond_false, Nat.reduceBEq, Nat.reduceEqDiff, List.drop_succ_cons, List.drop_zero, List.take_succ_cons, List.take_zero, List.reverse_cons, List.reverse_nil, List.nil_append, List.cons_append, List.length_cons, List.length_nil, Nat.reduceAdd, Nat.reduceSub, Nat.reduceLeDiff, Bool.not_false, Bool.and_true, Bool.true_and, Nat.zero_add, true_and, and_true, Nat.le_refl, true_or, or_true, reduceCtorEq, Nat.add_zero, Nat.reduceLT, Bool.and_self, Bool.not_true, Fin.isValue, Nat.reduceLeDiff, List.take_nil, List.drop_nil, mm_i1, mm_i2, mm_i3, mm_i4, mm_i5, mm_i6, mm_i7, mm_i16, mm_i17, mm_i18, mm_i19, mm_i20, mm_i21, mm_i22, mm_i23, mm_l3, mm_l4, mm_l5, mm_l6, mm_l7, mm_l18, mm_l19, mm_l20, mm_l21, mm_l22, kdX3_checkIndex, ct_X3_checkIndex, flX3, mm_x3, Bool.or_true, Bool.or_false, Bool.false_or, Bool.true_or]
    exact ⟨hc, fun h => hq2 (by omega), fun h => ⟨hc, hn, fun h2 => hq1 (by omega), fun h2 => hq2 (by omega)⟩⟩
  · exact h.elim
theorem me_X3_checkIndex {l : Launch} (hl : l.stackTraces = false) : mm_Met l yX3_checkIndex cX3_checkIndex 2 none [] 6 100 1 sp_X3_checkIndex := mm_mt hl rn_X3_checkIndex ⟨plX3, rfl⟩ kkX3_checkIndex rfl ⟨Nat.le_of_ble_eq_true rfl, Nat.le_of_ble_eq_true rfl⟩ flkX3 (fun _ h => nomatch h) (trivial) mm_xe3 n9X3
def sp_X3_checkRange : mm_S := fun av M d Q => match av with
  | [.inl c, .inl l, .inl n] =>  InI c ∧ InI l ∧ InI n ∧ ((l ≤ c ∧ c ≤ n) → Q (.inl none) M d) ∧ (¬ (l ≤ c ∧ c ≤ n) → Q (.inr 1) M d)
  | _ => False
def ct_X3_checkRange : List (Nat × mm_Ca) := []
abbrev rr_X3_checkRange (Q : mm_Q) := mm_run (mm_look flX3) (mm_look ct_X3_checkRange) mm_x3 (mm_look ([] : List (Nat × Int))) (fun _ => none) 0 1 (fun _ _ => none) Q kdX3_checkRange
set_option maxRecDepth 20000 in
theorem rn_X3_checkRange : mm_RN flX3 ct_X3_checkRange mm_x3 [] 0 1 3 kdX3_checkRange sp_X3_checkRange := by
  intro av M d Q h
  unfold sp_X3_checkRange at h
  split at h
  · rename_i c l n
    obtain ⟨hc, hl, hn, hq1, hq2⟩ := h
    refine ⟨Nat.le_of_ble_eq_true rfl, mm_run_at (stop := []) (S := mm_F0) kkX3_checkRange 80 ?_ mm_F0h⟩
    simp only [mm_wp, mm_op, mm_nxt, mm_jmp, mm_at, mm_in, mm_nth, mm_set, mm_ok, mm_isL, mm_ret, mm_isRet, mm_bool, mm_call, mm_push, mm_rv, mm_cats, mm_cat, mm_look, mm_ft, mm_fv, mm_pf, mm_thr, mm_ent, mm_pad, mm_fl, beq_self_eq_true, cond_true, cond_false, Nat.reduceBEq, Nat.reduceEqDiff, List.drop_succ_cons, List.drop_zero, List.take_succ_cons, List.take_zero, List.reverse_cons, List.reverse_nil, List.nil_append, List.cons_append, List.length_cons, List.length_nil, Nat.reduceAdd, Nat.reduceSub, Nat.reduceLeDiff, Bool.not_false, Bool.and_true, Bool.true_and, Nat.zero_add, true_and, and_true, Nat.le_refl, true_or, or_true, reduceCtorEq, Nat.add_zero, Nat.reduceLT, Bool.and_self, Bool.not_true, Fin.isValue, Nat.reduceLeDiff, List.take_nil, List.drop_nil, mm_i1, mm_i2, mm_i3, mm_i4, mm_i5, mm_i6, mm_i7, mm_i16, mm_i17, mm_i18, mm_i19, mm_i20, mm_i21, mm_i22, mm_i23, mm_l3, mm_l4, mm_l5, mm_l6, mm_l7, mm_l18, mm_l19, mm_l20, mm_l21, mm_l22, kdX3_checkRange, ct_X3_checkRange, flX3, mm_x3, Bool.or_true, Bool.or_false, Bool.false_or, Bool.true_or]
    exact ⟨hc, hl, fun h => hq2 (by omega), fun h => ⟨hc, hn, fun h2 => hq1 (by omega), fun h2 => hq2 (by omega)⟩⟩
  · exact h.elim
theorem me_X3_checkRange {l : Launch} (hl : l.stackTraces = false) : mm_Met l yX3_checkRange cX3_checkRange 3 none [] 6 100 1 sp_X3_checkRange := mm_mt hl rn_X3_checkRange ⟨plX3, rfl⟩ kkX3_checkRange rfl ⟨Nat.le_of_ble_eq_true rfl, Nat.le_of_ble_eq_true rfl⟩ flkX3 (fun _ h => nomatch h) (trivial) mm_xe3 n9X3
def sp_X3_walkOf : mm_S := fun av M d Q => match av with
  | [.inr (.inr (.inl o)), .inl a] =>  o = 1 ∧ InI a ∧ (∀ w, (0 ≤ a ∧ a < 3) → w = 8 + 2 * a.toNat → isW3 w → Q (.inl (some (mm_R w))) M d) ∧ (¬ (0 ≤ a ∧ a < 3) → Q (.inr 0) M d)
  | _ => False
def ct_X3_walkOf : List (Nat × mm_Ca) := []
abbrev rr_X3_walkOf (Q : mm_Q) := mm_run (mm_look flX3) (mm_look ct_X3_walkOf) mm_x3 (mm_look ([] : List (Nat × Int))) (fun _ => none) 4 1 (fun _ _ => none) Q kdX3_walkOf
set_option maxRecDepth 20000 in
theorem rn_X3_walkOf : mm_RN flX3 ct_X3_walkOf mm_x3 [] 4 1 2 kdX3_walkOf sp_X3_walkOf := by
  intro av M d Q h
  unfold sp_X3_walkOf at h
  split at h
  · rename_i o a
    obtain ⟨rfl, ha, hq1, hq2⟩ := h
    refine ⟨Nat.le_of_ble_eq_true rfl, mm_run_at (stop := []) (S := mm_F0) kkX3_walkOf 80 ?_ mm_F0h⟩
    simp only [mm_wp, mm_op, mm_nxt, mm_jmp, mm_at, mm_in, mm_nth, mm_set, mm_ok, mm_isL, mm_ret, mm_isRet, mm_bool, mm_call, mm_push, mm_rv, mm_cats, mm_cat, mm_look, mm_ft, mm_fv, mm_pf, mm_thr, mm_ent, mm_pad, mm_fl, beq_self_eq_true, cond_true, cond_false, Nat.reduceBEq, Nat.reduceEqDiff, List.drop_succ_cons, List.drop_zero, List.take_succ_cons, List.take_zero, List.reverse_cons, List.reverse_nil, List.nil_append, List.cons_append, List.length_cons, List.length_nil, Nat.reduceAdd, Nat.reduceSub, Nat.reduceLeDiff, Bool.not_false, Bool.and_true, Bool.true_and, Nat.zero_add, true_and, and_true, Nat.le_refl, true_or, or_true, reduceCtorEq, Nat.add_zero, Nat.reduceLT, Bool.and_self, Bool.not_true, Fin.isValue, Nat.reduceLeDiff, List.take_nil, List.drop_nil, mm_i1, mm_i2, mm_i3, mm_i4, mm_i5, mm_i6, mm_i7, mm_i16, mm_i17, mm_i18, mm_i19, mm_i20, mm_i21, mm_i22, mm_i23, mm_l3, mm_l4, mm_l5, mm_l6, mm_l7, mm_l18, mm_l19, mm_l20, mm_l21, mm_l22, kdX3_walkOf, ct_X3_walkOf, flX3, mm_x3, Bool.or_true, Bool.or_false, Bool.false_or, Bool.true_or]
    refine ⟨ha, fun h => hq2 (by omega), fun h => ⟨ha, ⟨by omega, by omega⟩, fun h2 => ⟨by omega, hq1 _ (by omega) rfl ?_⟩, fun h2 => hq2 (by omega)⟩⟩
    unfold isW3
    omega
  · exact h.elim
theorem me_X3_walkOf {l : Launch} (hl : l.stackTraces = false) : mm_Met l yX3_walkOf cX3_walkOf 2 (some (.object "Allstreets$Walk")) [] 6 100 1 sp_X3_walkOf := mm_mt hl rn_X3_walkOf ⟨plX3, rfl⟩ kkX3_walkOf rfl ⟨Nat.le_of_ble_eq_true rfl, Nat.le_of_ble_eq_true rfl⟩ flkX3 (fun _ h => nomatch h) (trivial) mm_xe3 n9X3
/-- all in order, but that a cursor on w may be off its end -/
def wL (M : mm_M) (w : Nat) : Prop := tW M ∧ (∀ v, isW3 v → wV M v ∧ wD M v) ∧ (M 16 1 = 0 ∨ isW3 (M 16 1).toNat) ∧ (M 16 1 ≠ w → cV M)
theorem wL.lose {M : mm_M} {w : Nat} (h : wL M w) : wA (mm_up M 16 4 1) := by
  have hf : fr [16] M (mm_up M 16 4 1) := fr.rf.up (by simp)
  refine ⟨h.1.fr hf (by simp) (by simp) (by simp), fun v hv => ?_, cV.lost (by simpa [mm_up] using h.2.2.1) (by simp [mm_up])⟩
  have := isK_le hv.k
  exact wV.me (h.2.1 v hv) (hf v (by simp; omega)) (hf (v + 1) (by simp; omega)) (hf 2 (by simp))
theorem wL.off {M : mm_M} {w : Nat} (h : wL M w) (h1 : M 16 1 ≠ w) : wA M := ⟨h.1, h.2.1, h.2.2.2 h1⟩
theorem wA.L {M : mm_M} {w : Nat} (h : wA M) : wL M w := ⟨h.1, h.2.1, h.2.2.1, fun _ => h.2.2⟩
/-- one walk is another -/
theorem wL.w {M M' : mm_M} {w : Nat} (h : wL M w) (hw : isK w) (hf : fr [w, w + 1, 5, 6] M M') (h1 : wV M' w) (h2 : wD M' w) : wL M' w := by
  have hl := isK_le hw
  have e16 : M' 16 = M 16 := hf 16 (by simp; omega)
  refine ⟨h.1.fr hf (by simp; omega) (by simp; omega) (by simp; omega), fun v hv => ?_, by rw [e16]; exact h.2.2.1, fun h3 => ?_⟩
  · by_cases e : v = w
    · subst e
      exact ⟨h1, h2⟩
    · have := isK_le hv.k
      have := wk_ap hv.k hw e
      exact wV.me (h.2.1 v hv) (hf v (by simp; omega)) (hf (v + 1) (by simp; omega)) (hf 2 (by simp; omega))
  · rw [e16] at h3
    refine (h.2.2.2 h3).to e16 (fun h4 h5 => ?_)
    have hk := (h.2.2.1.resolve_left h4).k
    have := isK_le hk
    have hne : (M 16 1).toNat ≠ w := by omega
    have := wk_ap hk hw hne
    rw [hf (M 16 1).toNat (by simp; omega)]
    exact Int.le_refl _
theorem wL.cf {M M' : mm_M} {w : Nat} (hw : isK w) (hf : fr [w, w + 1, 5, 6] M M') : cF M M' ∧ M' 1 6 = M 1 6 := by
  have hl := isK_le hw
  exact ⟨cF.of hf (by simp; omega), by rw [hf 1 (by simp; omega)]⟩
def sp_X3_countedMove : mm_S := fun av M d Q => match av with
  | [.inr (.inr (.inl o)), .inr (.inr (.inl w)), .inl r] =>  o = 1 ∧ isW3 w ∧ InI r ∧ wL M w ∧ (r = -9 → wA M) ∧ ∀ M', cP M M' ∧ M' = cnF (losI (r ≠ -9) M w) r → Q (.inl (some (mm_I r))) M' d
  | _ => False
def ct_X3_countedMove : List (Nat × mm_Ca) := [(153, (0, 2, 13, sp_X0_loseOn, 0)), (44, (0, 2, 10, sp_X3_counted, 0))]
abbrev rr_X3_countedMove (Q : mm_Q) := mm_run (mm_look flX3) (mm_look ct_X3_countedMove) mm_x0 (mm_look ([] : List (Nat × Int))) (fun _ => none) 1 0 (fun _ _ => none) Q kdX3_countedMove
set_option maxRecDepth 20000 in
theorem rn_X3_countedMove : mm_RN flX3 ct_X3_countedMove mm_x0 [] 1 0 3 kdX3_countedMove sp_X3_countedMove := by
  intro av M d Q h
  unfold sp_X3_countedMove at h
  split at h
  · rename_i o w r
    obtain ⟨rfl, hw, hr, hL, ha, hq⟩ := h
    have hk := hw.k
    refine ⟨Nat.le_of_ble_eq_true rfl, mm_run_at (stop := []) (S := mm_F0) kkX3_countedMove 80 ?_ mm_F0h⟩
    simp only [mm_wp, mm_op, mm_nxt, mm_jmp, mm_at, mm_in, mm_nth, mm_set, mm_ok, mm_isL, mm_ret, mm_isRet, mm_bool, mm_call, mm_push, mm_rv, mm_cats, mm_cat, mm_look, mm_ft, mm_fv, mm_pf, mm_thr, mm_ent, mm_pad, mm_fl, beq_self_eq_true, cond_true, cond_false, Nat.reduceBEq, Nat.reduceEqDiff, List.drop_succ_cons, List.drop_zero, List.take_succ_cons, List.take_zero, List.reverse_cons, List.reverse_nil, List.nil_append, List.cons_append, List.length_cons, List.length_nil, Nat.reduceAdd, Nat.reduceSub, Nat.reduceLeDiff, Bool.not_false, Bool.and_true, Bool.true_and, Nat.zero_add, true_and, and_true, Nat.le_refl, true_or, or_true, reduceCtorEq, Nat.add_zero, Nat.reduceLT, Bool.and_self, Bool.not_true, Fin.isValue, Nat.reduceLeDiff, List.take_nil, List.drop_nil, mm_i1, mm_i2, mm_i3, mm_i4, mm_i5, mm_i6, mm_i7, mm_i16, mm_i17, mm_i18, mm_i19, mm_i20, mm_i21, mm_i22, mm_i23, mm_l3, mm_l4, mm_l5, mm_l6, mm_l7, mm_l18, mm_l19, mm_l20, mm_l21, mm_l22, kdX3_countedMove, ct_X3_countedMove, flX3, sp_X0_loseOn, sp_X3_counted, wk_mm hk, wk_is hk]
    refine ⟨by omega, hr, ⟨by omega, by omega⟩, fun h => ⟨ha h, hr, fun M2 h3 => hq M2 ⟨h3.1, by unfold losI; rw [if_neg (by omega)]; exact h3.2⟩⟩, fun h => ⟨hL.2.2.1, hk, fun M' h2 => ?_⟩⟩
    rcases h2 with ⟨e, h2⟩ | ⟨e, h2⟩
    · subst h2
      exact ⟨hL.lose, hr, fun M2 h3 => hq M2 ⟨⟨h3.1.1, (cF.rf.up (by simp)).tr h3.1.2.1, by rw [h3.1.2.2]; simp [mm_up]⟩, by unfold losI losM; rw [if_pos (by omega), if_pos e]; exact h3.2⟩⟩
    · rw [h2]
      exact ⟨hL.off e, hr, fun M2 h3 => hq M2 ⟨h3.1, by unfold losI losM; rw [if_pos (by omega), if_neg e]; exact h3.2⟩⟩
  · exact h.elim
theorem me_X3_countedMove {l : Launch} (hl : l.stackTraces = false) : mm_Met l yX3_countedMove cX3_countedMove 3 (some .int) [] 7 121 0 sp_X3_countedMove := mm_mt hl rn_X3_countedMove ⟨plX3, rfl⟩ kkX3_countedMove rfl ⟨Nat.le_of_ble_eq_true rfl, Nat.le_of_ble_eq_true rfl⟩ flkX3 (fun _ h => nomatch h) (⟨mm_pe (me_X0_loseOn hl) mwX0_loseOn (mm_t3 200 rfl rfl) (Nat.le_of_ble_eq_true rfl) (Nat.le_of_ble_eq_true rfl), mm_pe (me_X3_counted hl) mwX3_counted (mm_t1 155 rfl rfl) (Nat.le_of_ble_eq_true rfl) (Nat.le_of_ble_eq_true rfl), trivial⟩) (mm_xe0 _) n9X3
def sp_X3_countedGrowth : mm_S := fun av M d Q => match av with
  | [.inr (.inr (.inl o)), .inr (.inr (.inl w)), .inl r] =>  o = 1 ∧ isW3 w ∧ InI r ∧ wL M w ∧ (r ≤ 0 → wA M) ∧ ∀ M', cP M M' ∧ M' = cnF (losI (0 < r) M w) r → Q (.inl (some (mm_I r))) M' d
  | _ => False
def ct_X3_countedGrowth : List (Nat × mm_Ca) := [(153, (0, 2, 13, sp_X0_loseOn, 0)), (44, (0, 2, 10, sp_X3_counted, 0))]
abbrev rr_X3_countedGrowth (Q : mm_Q) := mm_run (mm_look flX3) (mm_look ct_X3_countedGrowth) mm_x0 (mm_look ([] : List (Nat × Int))) (fun _ => none) 1 0 (fun _ _ => none) Q kdX3_countedGrowth
set_option maxRecDepth 20000 in
theorem rn_X3_countedGrowth : mm_RN flX3 ct_X3_countedGrowth mm_x0 [] 1 0 3 kdX3_countedGrowth sp_X3_countedGrowth := by
  intro av M d Q h
  unfold sp_X3_countedGrowth at h
  split at h
  · rename_i o w r
    obtain ⟨rfl, hw, hr, hL, ha, hq⟩ := h
    have hk := hw.k
    refine ⟨Nat.le_of_ble_eq_true rfl, mm_run_at (stop := []) (S := mm_F0) kkX3_countedGrowth 80 ?_ mm_F0h⟩
    simp only [mm_wp, mm_op, mm_nxt, mm_jmp, mm_at, mm_in, mm_nth, mm_set, mm_ok, mm_isL, mm_ret, mm_isRet, mm_bool, mm_call, mm_push, mm_rv, mm_cats, mm_cat, mm_look, mm_ft, mm_fv, mm_pf, mm_thr, mm_ent, mm_pad, mm_fl, beq_self_eq_true, cond_true, cond_false, Nat.reduceBEq, Nat.reduceEqDiff, List.drop_succ_cons, List.drop_zero, List.take_succ_cons, List.take_zero, List.reverse_cons, List.reverse_nil, List.nil_append, List.cons_append, List.length_cons, List.length_nil, Nat.reduceAdd, Nat.reduceSub, Nat.reduceLeDiff, Bool.not_false, Bool.and_true, Bool.true_and, Nat.zero_add, true_and, and_true, Nat.le_refl, true_or, or_true, reduceCtorEq, Nat.add_zero, Nat.reduceLT, Bool.and_self, Bool.not_true, Fin.isValue, Nat.reduceLeDiff, List.take_nil, List.drop_nil, mm_i1, mm_i2, mm_i3, mm_i4, mm_i5, mm_i6, mm_i7, mm_i16, mm_i17, mm_i18, mm_i19, mm_i20, mm_i21, mm_i22, mm_i23, mm_l3, mm_l4, mm_l5, mm_l6, mm_l7, mm_l18, mm_l19, mm_l20, mm_l21, mm_l22, kdX3_countedGrowth, ct_X3_countedGrowth, flX3, sp_X0_loseOn, sp_X3_counted, wk_mm hk, wk_is hk]
    refine ⟨hr, fun h => ⟨ha h, hr, fun M2 h3 => hq M2 ⟨h3.1, by unfold losI; rw [if_neg (by omega)]; exact h3.2⟩⟩, fun h => ⟨hL.2.2.1, hk, fun M' h2 => ?_⟩⟩
    rcases h2 with ⟨e, h2⟩ | ⟨e, h2⟩
    · subst h2
      exact ⟨hL.lose, hr, fun M2 h3 => hq M2 ⟨⟨h3.1.1, (cF.rf.up (by simp)).tr h3.1.2.1, by rw [h3.1.2.2]; simp [mm_up]⟩, by unfold losI losM; rw [if_pos (by omega), if_pos e]; exact h3.2⟩⟩
    · rw [h2]
      exact ⟨hL.off e, hr, fun M2 h3 => hq M2 ⟨h3.1, by unfold losI losM; rw [if_pos (by omega), if_neg e]; exact h3.2⟩⟩
  · exact h.elim
theorem me_X3_countedGrowth {l : Launch} (hl : l.stackTraces = false) : mm_Met l yX3_countedGrowth cX3_countedGrowth 3 (some .int) [] 7 121 0 sp_X3_countedGrowth := mm_mt hl rn_X3_countedGrowth ⟨plX3, rfl⟩ kkX3_countedGrowth rfl ⟨Nat.le_of_ble_eq_true rfl, Nat.le_of_ble_eq_true rfl⟩ flkX3 (fun _ h => nomatch h) (⟨mm_pe (me_X0_loseOn hl) mwX0_loseOn (mm_t3 200 rfl rfl) (Nat.le_of_ble_eq_true rfl) (Nat.le_of_ble_eq_true rfl), mm_pe (me_X3_counted hl) mwX3_counted (mm_t1 155 rfl rfl) (Nat.le_of_ble_eq_true rfl) (Nat.le_of_ble_eq_true rfl), trivial⟩) (mm_xe0 _) n9X3
end
