/-! words for the state -/
def fr (S : List Nat) (M M' : mm_M) : Prop := ∀ o, o ∉ S → M' o = M o
theorem fr.rf {S : List Nat} {M : mm_M} : fr S M M := fun _ _ => rfl
theorem fr.tr {S : List Nat} {M M' M'' : mm_M} (h : fr S M M') (h2 : fr S M' M'') : fr S M M'' := fun o ho => (h2 o ho).trans (h o ho)
theorem fr.up {S : List Nat} {M M' : mm_M} {o k : Nat} {v : Int} (h : fr S M M') (ho : o ∈ S) : fr S M (mm_up M' o k v) := by
  intro x hx
  rw [mm_up_o x (fun e => hx (by rw [e]; exact ho))]
  exact h x hx
theorem fr.mono {S S' : List Nat} {M M' : mm_M} (h : fr S M M') (hs : ∀ o ∈ S, o ∈ S') : fr S' M M' := fun o ho => h o (fun x => ho (hs o x))
/-- the class's town is in order -/
def tW (M : mm_M) : Prop := (0 ≤ M 2 4 ∧ M 2 4 ≤ 30) ∧ (∀ i : Nat, i < 30 → (0 ≤ M 3 i ∧ M 3 i < 10) ∧ (0 ≤ M 4 i ∧ M 4 i < 10)) ∧ (M 2 5 = 0 ∨ M 2 5 = 1) ∧ (0 ≤ M 2 6 ∧ M 2 6 ≤ 5) ∧ (0 ≤ M 2 7 ∧ M 2 7 ≤ 4)
theorem tW.fr {S : List Nat} {M M' : mm_M} (h : tW M) (hf : fr S M M') (h2 : 2 ∉ S) (h3 : 3 ∉ S) (h4 : 4 ∉ S) : tW M' := by
  unfold tW
  rw [hf 2 h2, hf 3 h3, hf 4 h4]
  exact h
/-- where a step comes to, and from; by which step a street leaves a corner, comes to it, goes from one to another -/
def gl (M : mm_M) (s : Int) : Int := if s % 2 = 0 then M 4 (s / 2).toNat else M 3 (s / 2).toNat
def sr (M : mm_M) (s : Int) : Int := if s % 2 = 0 then M 3 (s / 2).toNat else M 4 (s / 2).toNat
def lv (M : mm_M) (s c : Int) : Int := if M 3 s.toNat = c then 2 * s else if M 2 5 = 0 ∧ M 4 s.toNat = c then 2 * s + 1 else -1
def cm (M : mm_M) (s c : Int) : Int := if M 4 s.toNat = c then 2 * s else if M 2 5 = 0 ∧ M 3 s.toNat = c then 2 * s + 1 else -1
def bw (M : mm_M) (s a b : Int) : Int := if 0 ≤ lv M s a ∧ gl M (lv M s a) = b then lv M s a else -1
/-- how many streets of a set have the corner c in the row F -/
def oc (F : Nat → Int) (S c : Int) : Nat → Int
  | 0 => 0
  | k + 1 => oc F S c k + (if F k = c then bt S k else 0)
theorem oc_le (F : Nat → Int) (S c : Int) : ∀ n, 0 ≤ oc F S c n ∧ oc F S c n ≤ n
  | 0 => by simp [oc]
  | k + 1 => by
    have h := oc_le F S c k
    have h2 := bt_01 S k
    simp only [oc]
    split <;> omega

