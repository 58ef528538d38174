/-! the law's switch and its end; the loop on the machine -/
def offsL : Array Int := #[205, 245, 285, 325, 353, 366, 407, 420, 433, 489, 529, 542, 555, 568, 596, 624, 664, 732, 788, 844, 900, 952, 992, 1056, 1084, 1124, 1192, 1248, 1288, 1316, 1356, 1396, 1436, 1492, 1532, 1572, 1612, 1664, 1704, 1745, 1773, 1801, 1814, 1855, 1896, 1924, 1937, 1950]
theorem dsw : decode code 43 = .ok (.tableswitch 1963 0 47 offsL, 205) := by decide +kernel
theorem dend : decode code 2012 = .ok (.iconst 1, 1) ∧ decode code 2013 = .ok (.ireturn, 1) := by decide +kernel
theorem swT : ∀ k, k < 48 → offsL[k]? = some (offsL.getD k 0) ∧ startsL[k]? = some (startsL.getD k 0) ∧ (43 : Int) + offsL.getD k 0 = ((startsL.getD k 0 : Nat) : Int) := by decide +kernel
section LW2
variable {p : Program} {l : Launch} {e : Env} {s : State} {m : MethodId} {below : List Frame} {meth : Method} {c : Code} {D : va_G} {E : mm_En} {Ad : Nat → Nat} {b : Nat}
theorem zl_switch (X : mm_Cx p s m #[Value.ref b] c code RL 7 mm_U D E (mm_AL s)) : ∀ (a : Int) ls M u, (0 ≤ a ∧ a ≤ 63) → (∀ k, a = (k : Nat) → ∀ t, startsL[k]? = some t → mm_ZL p l e s m below meth c D E Ad b t ls [] M [] u) → (47 < a → mm_ZL p l e s m below meth c D E Ad b 2006 ls [] M [] u) → mm_ZL p l e s m below meth c D E Ad b 43 ls [mm_I a] M [] u := by
  intro a ls M u ha h1 h2 H locs L hL hP hD hS
  have e1 := mm_toInt (x := a) ⟨by omega, by omega⟩
  show W p l e room_1 s m #[Value.ref b] below meth c H locs u (12 * u) _ (F0 m 43 L [.int (Int32.ofInt a)])
  by_cases h : 47 < a
  · exact lv_tableOut (tgt := 2006) X.1 X.2.1 dsw (Or.inr (by rw [e1]; exact h)) rfl (h2 h H locs L hL hP hD hS)
  · obtain ⟨k, rfl⟩ := Int.eq_ofNat_of_zero_le ha.1
    obtain ⟨o1, o2, o3⟩ := swT k (by omega)
    refine lv_tableIn (off := offsL.getD k 0) (tgt := startsL.getD k 0) X.1 X.2.1 dsw (by rw [e1]; omega) (by rw [e1]; omega) ?_ o3 (h1 k rfl _ o2 H locs L hL hP hD hS)
    rw [e1, show ((k : Int) - 0).toNat = k by omega]
    exact o1
theorem zl_end (X : mm_Cx p s m #[Value.ref b] c code RL 7 mm_U D E (mm_AL s)) (hr : meth.sig.returnType = ret) (hlocks : meth.locks = false) : ∀ ls M u, u ≤ 600000 → ls.length = 7 → (∃ n, LI n M) → mm_ZL p l e s m below meth c D E Ad b 2012 ls [] M [] u := by
  intro ls M u hu _ _ H locs L hL hP hD hS
  show W p l e room_1 s m #[Value.ref b] below meth c H locs u (12 * u) _ (F0 m 2012 L [])
  refine lv_iconst (v := 1) X.1 X.2.1 dend.1 (by decide) ?_
  refine va_forget (fun q hq => hS.2.2 q hq) ?_
  refine W.widen (k := 600128) (n := 7301098) (by omega) (by omega) ?_
  exact lw_ret X.1 X.2.1 hr hlocks dend.2
/-- the loop, on the machine: text's case is owed -/
theorem zl_loop {SC : Nat → Option (Nat × (Nat → Int32))} (hl : l.stackTraces = false) (X : mm_Cx p s m #[Value.ref b] c code RL 7 mm_U D E (mm_AL s)) (hG : mm_G (mm_AL s) D E Ad s) (hSX : mm_SX s (mm_AL s) SC) (hr : meth.sig.returnType = ret) (hlocks : meth.locks = false) {L : Nat} {xs : Nat → Int32} (hSC : SC b = some (L, xs)) (hL : L ≤ 320)
    (h35 : ∀ n u i M, (0 ≤ i ∧ i + 5 ≤ (L : Int)) → LI n M → n ≤ 1000 → u + 3000 ≤ 600000 → (∀ M' x5 x6 u', LI (n + 1) M' → u' ≤ u + 3000 → mm_ZL p l e s m below meth c D E Ad b 2006 [some (mm_X b), some (mm_R 1), some (mm_R 17), some (mm_R 23), some (mm_I i), x5, x6] [] M' [] u') → ∀ x5 x6, mm_ZL p l e s m below meth c D E Ad b 1615 [some (mm_X b), some (mm_R 1), some (mm_R 17), some (mm_R 23), some (mm_I i), x5, x6] [] M [] u)
    {M : mm_M} {u : Nat} (hI : LI 0 M) (hu : u ≤ 1000) : mm_ZL p l e s m below meth c D E Ad b 27 [some (mm_X b), some (mm_R 1), some (mm_R 17), some (mm_R 23), some (mm_I 0), none, none] [] M [] u :=
  loopL hl (mm_CZ_law X hG hSX) hSC hL (by decide) (zl_switch X) (zl_end X hr hlocks) h35 65 0 u 0 M none none (by omega) (by decide) (by decide) hI (by decide) (by omega)
end LW2

