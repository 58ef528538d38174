/-! the model's town: what hangs together, starts -/
def hgJ (F T : Nat → Int) (n : Nat) (S w : Int) (i : Nat) (sn C : Int) : Prop :=
  (0 ≤ sn ∧ sn < 1073741824) ∧ (0 ≤ C ∧ C < 1024) ∧ (∀ k, bt sn k = 1 → bt S k = 1) ∧ (∀ k, bt w k = 1 → bt sn k = 1) ∧ (∀ k, k < n → fst S k → bt sn k = 1) ∧
  (∀ P, clo F T n S P → (∀ k, k < n → fst S k → P (F k)) → (∀ c : Nat, bt C c = 1 → P c) ∧ ∀ k, k < n → bt sn k = 1 → P (F k)) ∧
  (∀ k, k < i → bt sn k = 1 → bt C (F k).toNat = 1 ∧ bt C (T k).toNat = 1) ∧
  (sn = w → ∀ k, k < i → bt S k = 1 → (bt C (F k).toNat = 1 ∨ bt C (T k).toNat = 1) → bt sn k = 1) ∧
  (∀ k, k < n → bt w k = 1 → (bt C (F k).toNat = 1 ∧ bt C (T k).toNat = 1) ∨ ∀ j, j < k → bt S j = 0)
theorem hgJ_n {F T : Nat → Int} {n i : Nat} {S w sn C : Int} (h : hgJ F T n S w i sn C) (hs : bt S i = 0 ∨ (¬ (bt C (F i).toNat = 1 ∨ bt C (T i).toNat = 1) ∧ bt sn i = 0)) : hgJ F T n S w (i + 1) sn C := by
  obtain ⟨h1, h2, h3, h4, h5, h6, h7, h8, h9⟩ := h
  refine ⟨h1, h2, h3, h4, h5, h6, fun k hk hb => ?_, fun e k hk hb ht => ?_, h9⟩
  · by_cases e : k = i
    · subst e
      have := h3 k hb
      omega
    · exact h7 k (by omega) hb
  · by_cases e2 : k = i
    · subst e2
      rcases hs with hs | hs
      · omega
      · exact absurd ht hs.1
    · exact h8 e k (by omega) hb ht
theorem hgJ_c {F T : Nat → Int} {n i : Nat} {S w sn C : Int} (h : hgJ F T n S w i sn C) (hi : i < n) (hF : ∀ k, k < n → (0 ≤ F k ∧ F k < 10) ∧ (0 ≤ T k ∧ T k < 10)) (hb : bt sn i = 1) : hgJ F T n S w (i + 1) sn (mm_or C (ens (F i) (T i))) := by
  obtain ⟨h1, h2, h3, h4, h5, h6, h7, h8, h9⟩ := h
  obtain ⟨e1, e2⟩ := ens_spec (hF i hi).1 (hF i hi).2
  obtain ⟨o1, o2⟩ := or_spec h2 e1
  have hS := h3 i hb
  refine ⟨h1, o1, h3, h4, h5, fun P hP hf => ?_, fun k hk hk2 => ?_, fun e k hk hk2 ht => ?_, fun k hk hk2 => ?_⟩
  · obtain ⟨p1, p2⟩ := h6 P hP hf
    refine ⟨fun c hc => ?_, p2⟩
    have pi := p2 i hi hb
    rcases (o2 c).mp hc with h10 | h10
    · exact p1 c h10
    · rw [e2] at h10
      have := hF i hi
      by_cases x : c = (F i).toNat
      · rw [x, show (((F i).toNat : Nat) : Int) = F i by omega]
        exact pi
      · by_cases y : c = (T i).toNat
        · rw [y, show (((T i).toNat : Nat) : Int) = T i by omega]
          exact (hP i hi hS).mp pi
        · rw [if_neg (by omega)] at h10
          omega
  · by_cases x : k = i
    · subst x
      exact ⟨(o2 _).mpr (Or.inr (by rw [e2]; simp)), (o2 _).mpr (Or.inr (by rw [e2]; simp))⟩
    · have := h7 k (by omega) hk2
      exact ⟨(o2 _).mpr (Or.inl this.1), (o2 _).mpr (Or.inl this.2)⟩
  · by_cases x : k = i
    · subst x
      exact hb
    · rcases h9 i hi (by rw [← e]; exact hb) with h10 | h10
      · have hx : ∀ c, bt (mm_or C (ens (F i) (T i))) c = 1 → bt C c = 1 := fun c hc => by
          rcases (o2 c).mp hc with h11 | h11
          · exact h11
          · rw [e2] at h11
            by_cases x : c = (F i).toNat
            · rw [x]; exact h10.1
            · by_cases y : c = (T i).toNat
              · rw [y]; exact h10.2
              · rw [if_neg (by omega)] at h11
                omega
        exact h8 e k (by omega) hk2 (ht.imp (hx _) (hx _))
      · have := h10 k (by omega)
        omega
  · rcases h9 k hk hk2 with h10 | h10
    · exact Or.inl ⟨(o2 _).mpr (Or.inl h10.1), (o2 _).mpr (Or.inl h10.2)⟩
    · exact Or.inr h10
theorem orp_spec {a : Int} {i : Nat} (ha : 0 ≤ a ∧ a < 1073741824) (hi : i < 30) : (0 ≤ mm_or a (1 * 2 ^ i) ∧ mm_or a (1 * 2 ^ i) < 1073741824) ∧ ∀ k, bt (mm_or a (1 * 2 ^ i)) k = 1 ↔ (bt a k = 1 ∨ k = i) := by
  have hp := pw_lt (k := i) (by omega)
  rw [Int.one_mul]
  obtain ⟨h1, h2⟩ := mm_or_bt (a := a) (b := 2 ^ i) ⟨ha.1, by omega⟩ ⟨by omega, by omega⟩
  have h3 : ∀ k, bt (mm_or a (2 ^ i)) k = 1 ↔ (bt a k = 1 ∨ k = i) := by
    intro k
    rw [h2 k, bt_pow]
    rcases bt_01 a k with e | e <;> rw [e] <;> split <;> simp_all
  refine ⟨⟨h1.1, ?_⟩, h3⟩
  have := bt_lt (n := 30) h1 (fun k hk _ => by
    have e1 := bt_hi30 ha hk
    have e2 := h3 k
    have e3 := bt_01 (mm_or a (2 ^ i)) k
    omega)
  simpa using this
theorem hgJ_t {F T : Nat → Int} {n i : Nat} {S w sn C : Int} (h : hgJ F T n S w i sn C) (hi : i < n) (h30 : n ≤ 30) (hF : ∀ k, k < n → (0 ≤ F k ∧ F k < 10) ∧ (0 ≤ T k ∧ T k < 10)) (hS : bt S i = 1) (ht : bt C (F i).toNat = 1 ∨ bt C (T i).toNat = 1) : hgJ F T n S w i (mm_or sn (1 * 2 ^ i)) C := by
  obtain ⟨h1, h2, h3, h4, h5, h6, h7, h8, h9⟩ := h
  obtain ⟨o1, o2⟩ := orp_spec (i := i) h1 (by omega)
  refine ⟨o1, h2, fun k hk => ?_, fun k hk => (o2 k).mpr (Or.inl (h4 k hk)), fun k hk hf => (o2 k).mpr (Or.inl (h5 k hk hf)), fun P hP hf => ?_, fun k hk hk2 => ?_, fun e k hk hk2 ht2 => ?_, h9⟩
  · rcases (o2 k).mp hk with h | h
    · exact h3 k h
    · rw [h]; exact hS
  · obtain ⟨p1, p2⟩ := h6 P hP hf
    refine ⟨p1, fun k hk hk2 => ?_⟩
    rcases (o2 k).mp hk2 with h | h
    · exact p2 k hk h
    · subst h
      have := hF k hi
      rcases ht with ht | ht
      · have := p1 _ ht
        rw [show (((F k).toNat : Nat) : Int) = F k by omega] at this
        exact this
      · have := p1 _ ht
        rw [show (((T k).toNat : Nat) : Int) = T k by omega] at this
        exact (hP k hi hS).mpr this
  · rcases (o2 k).mp hk2 with h | h
    · exact h7 k hk h
    · omega
  · have hb : bt sn i = 1 := h4 i (by rw [← e]; exact (o2 i).mpr (Or.inr rfl))
    have he : sn = mm_or sn (1 * 2 ^ i) := bt_ext h1 o1 (fun j _ => by
      have h10 := o2 j
      have h11 := bt_01 sn j
      have h12 := bt_01 (mm_or sn (1 * 2 ^ i)) j
      by_cases x : j = i
      · subst x
        have := h10.mpr (Or.inr rfl)
        omega
      · by_cases y : bt sn j = 1
        · have := h10.mpr (Or.inl y)
          omega
        · have : ¬ bt (mm_or sn (1 * 2 ^ i)) j = 1 := fun z => (h10.mp z).elim y x
          omega)
    exact (o2 k).mpr (Or.inl (h8 (by rw [he]; exact e) k hk hk2 ht2))
theorem hgJ_0 {F T : Nat → Int} {n : Nat} {S w sn C : Int} (h : hgJ F T n S w n sn C) : hgJ F T n S sn 0 sn C := by
  obtain ⟨h1, h2, h3, h4, h5, h6, h7, h8, h9⟩ := h
  exact ⟨h1, h2, h3, fun _ h => h, h5, h6, fun k hk => by omega, fun _ k hk => by omega, fun k hk hb => Or.inl (h7 k hk hb)⟩
theorem hgJ_s {F T : Nat → Int} {n : Nat} {S : Int} (hS : 0 ≤ S ∧ S < 1073741824) (h30 : n ≤ 30) : hgJ F T n S (mm_and S (-S)) 0 (mm_and S (-S)) 0 := by
  obtain ⟨h1, h2⟩ := low_bit hS
  have h3 : ∀ k, bt (mm_and S (-S)) k = 1 → fst S k := fun k hk => by
    by_cases h : k < 32
    · exact (h2 k h).mp hk
    · rw [bt_hi30 h1 (by omega)] at hk
      omega
  exact ⟨h1, by omega, fun k hk => (h3 k hk).1, fun _ h => h, fun k hk hf => (h2 k (by omega)).mpr hf, fun P hP hf => ⟨fun c hc => by rw [bt_0] at hc; omega, fun k hk hb => hf k hk (h3 k hb)⟩, fun k hk => by omega, fun _ k hk => by omega, fun k hk hb => Or.inr (h3 k hb).2⟩
theorem hgJ_e {F T : Nat → Int} {n : Nat} {S sn C : Int} (hS : 0 ≤ S ∧ S < 1073741824) (hsub : ∀ k, bt S k = 1 → k < n) (h : hgJ F T n S sn n sn C) : sn = S ↔ HG F T n S := by
  obtain ⟨h1, h2, h3, h4, h5, h6, h7, h8, h9⟩ := h
  constructor
  · intro e P hP ⟨k1, hk1, hS1, hp1⟩ k hk hSk
    obtain ⟨k0, hk0, hf⟩ := fst_ex ⟨k, hk, hSk⟩
    by_cases h0 : P (F k0)
    · exact (h6 P hP (fun j hj hfj => by rw [fst_un hfj hf]; exact h0)).2 k hk (by rw [e]; exact hSk)
    · exfalso
      have := (h6 (fun c => ¬ P c) (fun j hj hSj => not_congr (hP j hj hSj)) (fun j hj hfj => by rw [fst_un hfj hf]; exact h0)).2 k1 hk1 (by rw [e]; exact hS1)
      exact this hp1
  · intro hH
    refine bt_ext h1 hS (fun k _ => ?_)
    have b1 := bt_01 sn k
    have b2 := bt_01 S k
    have h10 := h3 k
    have h11 : bt S k = 1 → bt sn k = 1 := fun hSk => by
      have hk := hsub k hSk
      obtain ⟨k0, hk0, hf⟩ := fst_ex ⟨k, hk, hSk⟩
      have cl : clo F T n S (fun c => bt C c.toNat = 1) := fun j hj hSj => ⟨fun h => (h7 j hj (h8 rfl j hj hSj (Or.inl h))).2, fun h => (h7 j hj (h8 rfl j hj hSj (Or.inr h))).1⟩
      have := hH (fun c => bt C c.toNat = 1) cl ⟨k0, hk0, hf.1, (h7 k0 hk0 (h5 k0 hk0 hf)).1⟩ k hk hSk
      exact h8 rfl k hk hSk (Or.inl this)
    omega
theorem at_X5_hang_0 : mm_at 0 kdX5_hang = [(0, .iload_n 1, 0), (1, .iload_n 1, 0), (2, .ineg, 0), (3, .iand, 0), (4, .istore_n 2, 0), (5, .iconst 0, 0), (6, .istore_n 3, 0), (7, .iconst (-1), 0), (8, .istore 4, 0), (10, .iload_n 2, 0), (11, .iload 4, 0), (13, .if_icmp .eq 105, 118), (16, .iload_n 2, 0), (17, .istore 4, 0), (19, .iconst 0, 0), (20, .istore 5, 0), (22, .iload 5, 0), (24, .aload_n 0, 0), (25, .getfield 49, 0), (28, .if_icmp .ge 87, 115), (31, .iload_n 1, 0), (32, .iload 5, 0), (34, .invokestatic 52, 0), (37, .ifCond .ne 6, 43), (40, .goto 69, 109), (43, .iload_n 3, 0), (44, .aload_n 0, 0), (45, .getfield 9, 0), (48, .iload 5, 0), (50, .iaload, 0), (51, .invokestatic 52, 0), (54, .ifCond .ne 17, 71), (57, .iload_n 3, 0), (58, .aload_n 0, 0), (59, .getfield 13, 0), (62, .iload 5, 0), (64, .iaload, 0), (65, .invokestatic 52, 0), (68, .ifCond .eq 10, 78), (71, .iload_n 2, 0), (72, .iconst 1, 0), (73, .iload 5, 0), (75, .ishl, 0), (76, .ior, 0), (77, .istore_n 2, 0), (78, .iload_n 2, 0), (79, .iload 5, 0), (81, .invokestatic 52, 0), (84, .ifCond .eq 25, 109), (87, .iload_n 3, 0), (88, .iconst 1, 0), (89, .aload_n 0, 0), (90, .getfield 9, 0), (93, .iload 5, 0), (95, .iaload, 0), (96, .ishl, 0), (97, .iconst 1, 0), (98, .aload_n 0, 0), (99, .getfield 13, 0), (102, .iload 5, 0), (104, .iaload, 0), (105, .ishl, 0), (106, .ior, 0), (107, .ior, 0), (108, .istore_n 3, 0), (109, .iinc 5 1, 0), (112, .goto (-90), 22), (115, .goto (-105), 10), (118, .iload_n 2, 0), (119, .iload_n 1, 0), (120, .if_icmp .ne 7, 127), (123, .iconst 1, 0), (124, .goto 4, 128), (127, .iconst 0, 0), (128, .ireturn, 0)] := rfl
theorem at_X5_hang_10 : mm_at 10 kdX5_hang = [(10, .iload_n 2, 0), (11, .iload 4, 0), (13, .if_icmp .eq 105, 118), (16, .iload_n 2, 0), (17, .istore 4, 0), (19, .iconst 0, 0), (20, .istore 5, 0), (22, .iload 5, 0), (24, .aload_n 0, 0), (25, .getfield 49, 0), (28, .if_icmp .ge 87, 115), (31, .iload_n 1, 0), (32, .iload 5, 0), (34, .invokestatic 52, 0), (37, .ifCond .ne 6, 43), (40, .goto 69, 109), (43, .iload_n 3, 0), (44, .aload_n 0, 0), (45, .getfield 9, 0), (48, .iload 5, 0), (50, .iaload, 0), (51, .invokestatic 52, 0), (54, .ifCond .ne 17, 71), (57, .iload_n 3, 0), (58, .aload_n 0, 0), (59, .getfield 13, 0), (62, .iload 5, 0), (64, .iaload, 0), (65, .invokestatic 52, 0), (68, .ifCond .eq 10, 78), (71, .iload_n 2, 0), (72, .iconst 1, 0), (73, .iload 5, 0), (75, .ishl, 0), (76, .ior, 0), (77, .istore_n 2, 0), (78, .iload_n 2, 0), (79, .iload 5, 0), (81, .invokestatic 52, 0), (84, .ifCond .eq 25, 109), (87, .iload_n 3, 0), (88, .iconst 1, 0), (89, .aload_n 0, 0), (90, .getfield 9, 0), (93, .iload 5, 0), (95, .iaload, 0), (96, .ishl, 0), (97, .iconst 1, 0), (98, .aload_n 0, 0), (99, .getfield 13, 0), (102, .iload 5, 0), (104, .iaload, 0), (105, .ishl, 0), (106, .ior, 0), (107, .ior, 0), (108, .istore_n 3, 0), (109, .iinc 5 1, 0), (112, .goto (-90), 22), (115, .goto (-105), 10), (118, .iload_n 2, 0), (119, .iload_n 1, 0), (120, .if_icmp .ne 7, 127), (123, .iconst 1, 0), (124, .goto 4, 128), (127, .iconst 0, 0), (128, .ireturn, 0)] := rfl
theorem at_X5_hang_22 : mm_at 22 kdX5_hang = [(22, .iload 5, 0), (24, .aload_n 0, 0), (25, .getfield 49, 0), (28, .if_icmp .ge 87, 115), (31, .iload_n 1, 0), (32, .iload 5, 0), (34, .invokestatic 52, 0), (37, .ifCond .ne 6, 43), (40, .goto 69, 109), (43, .iload_n 3, 0), (44, .aload_n 0, 0), (45, .getfield 9, 0), (48, .iload 5, 0), (50, .iaload, 0), (51, .invokestatic 52, 0), (54, .ifCond .ne 17, 71), (57, .iload_n 3, 0), (58, .aload_n 0, 0), (59, .getfield 13, 0), (62, .iload 5, 0), (64, .iaload, 0), (65, .invokestatic 52, 0), (68, .ifCond .eq 10, 78), (71, .iload_n 2, 0), (72, .iconst 1, 0), (73, .iload 5, 0), (75, .ishl, 0), (76, .ior, 0), (77, .istore_n 2, 0), (78, .iload_n 2, 0), (79, .iload 5, 0), (81, .invokestatic 52, 0), (84, .ifCond .eq 25, 109), (87, .iload_n 3, 0), (88, .iconst 1, 0), (89, .aload_n 0, 0), (90, .getfield 9, 0), (93, .iload 5, 0), (95, .iaload, 0), (96, .ishl, 0), (97, .iconst 1, 0), (98, .aload_n 0, 0), (99, .getfield 13, 0), (102, .iload 5, 0), (104, .iaload, 0), (105, .ishl, 0), (106, .ior, 0), (107, .ior, 0), (108, .istore_n 3, 0), (109, .iinc 5 1, 0), (112, .goto (-90), 22), (115, .goto (-105), 10), (118, .iload_n 2, 0), (119, .iload_n 1, 0), (120, .if_icmp .ne 7, 127), (123, .iconst 1, 0), (124, .goto 4, 128), (127, .iconst 0, 0), (128, .ireturn, 0)] := rfl
theorem at_X5_hang_43 : mm_at 43 kdX5_hang = [(43, .iload_n 3, 0), (44, .aload_n 0, 0), (45, .getfield 9, 0), (48, .iload 5, 0), (50, .iaload, 0), (51, .invokestatic 52, 0), (54, .ifCond .ne 17, 71), (57, .iload_n 3, 0), (58, .aload_n 0, 0), (59, .getfield 13, 0), (62, .iload 5, 0), (64, .iaload, 0), (65, .invokestatic 52, 0), (68, .ifCond .eq 10, 78), (71, .iload_n 2, 0), (72, .iconst 1, 0), (73, .iload 5, 0), (75, .ishl, 0), (76, .ior, 0), (77, .istore_n 2, 0), (78, .iload_n 2, 0), (79, .iload 5, 0), (81, .invokestatic 52, 0), (84, .ifCond .eq 25, 109), (87, .iload_n 3, 0), (88, .iconst 1, 0), (89, .aload_n 0, 0), (90, .getfield 9, 0), (93, .iload 5, 0), (95, .iaload, 0), (96, .ishl, 0), (97, .iconst 1, 0), (98, .aload_n 0, 0), (99, .getfield 13, 0), (102, .iload 5, 0), (104, .iaload, 0), (105, .ishl, 0), (106, .ior, 0), (107, .ior, 0), (108, .istore_n 3, 0), (109, .iinc 5 1, 0), (112, .goto (-90), 22), (115, .goto (-105), 10), (118, .iload_n 2, 0), (119, .iload_n 1, 0), (120, .if_icmp .ne 7, 127), (123, .iconst 1, 0), (124, .goto 4, 128), (127, .iconst 0, 0), (128, .ireturn, 0)] := rfl
theorem at_X5_hang_71 : mm_at 71 kdX5_hang = [(71, .iload_n 2, 0), (72, .iconst 1, 0), (73, .iload 5, 0), (75, .ishl, 0), (76, .ior, 0), (77, .istore_n 2, 0), (78, .iload_n 2, 0), (79, .iload 5, 0), (81, .invokestatic 52, 0), (84, .ifCond .eq 25, 109), (87, .iload_n 3, 0), (88, .iconst 1, 0), (89, .aload_n 0, 0), (90, .getfield 9, 0), (93, .iload 5, 0), (95, .iaload, 0), (96, .ishl, 0), (97, .iconst 1, 0), (98, .aload_n 0, 0), (99, .getfield 13, 0), (102, .iload 5, 0), (104, .iaload, 0), (105, .ishl, 0), (106, .ior, 0), (107, .ior, 0), (108, .istore_n 3, 0), (109, .iinc 5 1, 0), (112, .goto (-90), 22), (115, .goto (-105), 10), (118, .iload_n 2, 0), (119, .iload_n 1, 0), (120, .if_icmp .ne 7, 127), (123, .iconst 1, 0), (124, .goto 4, 128), (127, .iconst 0, 0), (128, .ireturn, 0)] := rfl
theorem at_X5_hang_78 : mm_at 78 kdX5_hang = [(78, .iload_n 2, 0), (79, .iload 5, 0), (81, .invokestatic 52, 0), (84, .ifCond .eq 25, 109), (87, .iload_n 3, 0), (88, .iconst 1, 0), (89, .aload_n 0, 0), (90, .getfield 9, 0), (93, .iload 5, 0), (95, .iaload, 0), (96, .ishl, 0), (97, .iconst 1, 0), (98, .aload_n 0, 0), (99, .getfield 13, 0), (102, .iload 5, 0), (104, .iaload, 0), (105, .ishl, 0), (106, .ior, 0), (107, .ior, 0), (108, .istore_n 3, 0), (109, .iinc 5 1, 0), (112, .goto (-90), 22), (115, .goto (-105), 10), (118, .iload_n 2, 0), (119, .iload_n 1, 0), (120, .if_icmp .ne 7, 127), (123, .iconst 1, 0), (124, .goto 4, 128), (127, .iconst 0, 0), (128, .ireturn, 0)] := rfl
theorem at_X5_hang_109 : mm_at 109 kdX5_hang = [(109, .iinc 5 1, 0), (112, .goto (-90), 22), (115, .goto (-105), 10), (118, .iload_n 2, 0), (119, .iload_n 1, 0), (120, .if_icmp .ne 7, 127), (123, .iconst 1, 0), (124, .goto 4, 128), (127, .iconst 0, 0), (128, .ireturn, 0)] := rfl
theorem at_X5_hang_115 : mm_at 115 kdX5_hang = [(115, .goto (-105), 10), (118, .iload_n 2, 0), (119, .iload_n 1, 0), (120, .if_icmp .ne 7, 127), (123, .iconst 1, 0), (124, .goto 4, 128), (127, .iconst 0, 0), (128, .ireturn, 0)] := rfl
theorem at_X5_hang_118 : mm_at 118 kdX5_hang = [(118, .iload_n 2, 0), (119, .iload_n 1, 0), (120, .if_icmp .ne 7, 127), (123, .iconst 1, 0), (124, .goto 4, 128), (127, .iconst 0, 0), (128, .ireturn, 0)] := rfl
theorem at_X5_hang_127 : mm_at 127 kdX5_hang = [(127, .iconst 0, 0), (128, .ireturn, 0)] := rfl
theorem at_X5_hang_128 : mm_at 128 kdX5_hang = [(128, .ireturn, 0)] := rfl
def sp_X5_hang : mm_S := fun av M d Q => match av with
  | [.inr (.inr (.inl o)), .inl S] =>  o = 17 ∧ tX M ∧ (0 ≤ S ∧ S < 1073741824) ∧ (∀ k, bt S k = 1 → k < (M 17 1).toNat) ∧ ∀ r, (HG (M 18) (M 19) (M 17 1).toNat S → r = 1) ∧ (¬ HG (M 18) (M 19) (M 17 1).toNat S → r = 0) → Q (.inl (some (mm_I r))) M d
  | _ => False
def ct_X5_hang : List (Nat × mm_Ca) := [(52, (1, 2, 0, sp_X5_has, 0))]
abbrev rr_X5_hang (Q : mm_Q) := mm_run (mm_look flX5) (mm_look ct_X5_hang) mm_x0 (mm_look ([] : List (Nat × Int))) (fun _ => none) 2 0 (fun _ _ => none) Q kdX5_hang
set_option maxRecDepth 20000 in
theorem lp2_X5_hang {M : mm_M} {d : List Nat} {Q : mm_Q} {S w : Int} {n : Nat} (ht : tX M) (hS : 0 ≤ S ∧ S < 1073741824) (hn : M 17 1 = n) (hw : InI w) (hq : ∀ sn C x5, hgJ (M 18) (M 19) n S w n sn C → rr_X5_hang Q 10 [some (mm_R 17), some (mm_I S), some (mm_I sn), some (mm_I C), some (mm_I w), x5] [] M d 0) : ∀ (k i : Nat) (sn C : Int), i + k = n → hgJ (M 18) (M 19) n S w i sn C → rr_X5_hang Q 22 [some (mm_R 17), some (mm_I S), some (mm_I sn), some (mm_I C), some (mm_I w), some (mm_I i)] [] M d 0 := by
  obtain ⟨t1, t2, t3, t4, t5⟩ := id ht
  intro k
  induction k with
  | zero =>
    intro i sn C hi hJ
    have e : i = n := by omega
    subst e
    obtain ⟨K, hK, hK2⟩ : ∃ K : Nat → mm_K, (∀ t ls st M d u, K t ls st M d u → rr_X5_hang Q t ls st M d u) ∧ (∀ t ls st M d u, rr_X5_hang Q t ls st M d u → K t ls st M d u) := ⟨rr_X5_hang Q, fun _ _ _ _ _ _ h => h, fun _ _ _ _ _ _ h => h⟩
    have hq2 := fun sn C x5 h => hK2 _ _ _ _ _ _ (hq sn C x5 h)
    refine mm_run_at (stop := [10, 31]) (S := K) kkX5_hang 90 ?_ (fun _ _ _ _ _ _ _ h => hK _ _ _ _ _ _ h)
    repeat' (first | with_reducible assumption | with_reducible exact mm_i17 | with_reducible exact mm_i18 | with_reducible exact mm_i19 | with_reducible exact mm_i20 | with_reducible exact mm_i21 | with_reducible exact mm_i22 | ((with_reducible show mm_rv _ _ _ _ _); first | exact True.intro | exact mm_i17 | exact mm_i18 | exact mm_i19 | exact mm_i20 | exact mm_i21 | exact mm_i22) | ((with_reducible show mm_bool _ _); first | exact True.intro | exact Or.inl rfl | exact Or.inr rfl | (show (_ : Int) = 0 ∨ _ = 1)) | refine And.intro ?_ ?_ | intro _ | with_reducible exact True.intro | exact rfl | with_reducible exact Or.inl rfl | with_reducible exact Or.inr rfl | exact Nat.le_of_ble_eq_true rfl)
    all_goals (try simp (disch := omega) only [InI, Int.toNat_natCast, Int.tmod_eq_emod_of_nonneg, Int.tdiv_eq_ediv_of_nonneg, true_implies, true_or, or_true, mm_l18, mm_l19, mm_l20, mm_l21, mm_l22] at *)
    all_goals first | omega | exact hq2 sn C _ hJ | skip
  | succ k ih =>
    intro i sn C hi hJ
    have b1 := t2 i (by omega)
    have hb := bt_01 S i
    have j1 := hJ.1
    have j2 := hJ.2.1
    have hF : ∀ k, k < n → (0 ≤ M 18 k ∧ M 18 k < 10) ∧ (0 ≤ M 19 k ∧ M 19 k < 10) := fun k hk => t2 k (by omega)
    obtain ⟨o1, o2⟩ := orp_spec (i := i) j1 (by omega)
    have bs := bt_01 sn i
    have cf := bt_01 C (M 18 i).toNat
    have ct := bt_01 C (M 19 i).toNat
    obtain ⟨K, hK, hK2⟩ : ∃ K : Nat → mm_K, (∀ t ls st M d u, K t ls st M d u → rr_X5_hang Q t ls st M d u) ∧ (∀ t ls st M d u, rr_X5_hang Q t ls st M d u → K t ls st M d u) := ⟨rr_X5_hang Q, fun _ _ _ _ _ _ h => h, fun _ _ _ _ _ _ h => h⟩
    have hstep : ∀ sn C, hgJ (M 18) (M 19) n S w (i + 1) sn C → K 22 [some (mm_R 17), some (mm_I S), some (mm_I sn), some (mm_I C), some (mm_I w), some (mm_I ((i : Int) + 1))] [] M d 0 := fun sn C h => hK2 _ _ _ _ _ _ (ih (i + 1) sn C (by omega) h)
    have tail : ∀ sn2, hgJ (M 18) (M 19) n S w i sn2 C → bt S i = 1 → (bt sn2 i = 1 ∨ ¬ (bt C (M 18 i).toNat = 1 ∨ bt C (M 19 i).toNat = 1)) → K 78 [some (mm_R 17), some (mm_I S), some (mm_I sn2), some (mm_I C), some (mm_I w), some (mm_I i)] [] M d 0 := by
      intro sn2 h2 hs hor
      have q1 := h2.1
      have b9 := bt_01 sn2 i
      have nA : ∀ r : Int, ((bt sn2 i = 1 → r = 1) ∧ (bt sn2 i = 0 → r = 0)) → r = 0 → K 22 [some (mm_R 17), some (mm_I S), some (mm_I sn2), some (mm_I C), some (mm_I w), some (mm_I ((i : Int) + 1))] [] M d 0 := fun r hr h => by
        have e0 : bt sn2 i = 0 := by
          rcases b9 with z | z
          · exact z
          · have := hr.1 z
            omega
        exact hstep _ _ (hgJ_n h2 (Or.inr ⟨hor.resolve_left (by omega), e0⟩))
      have nB : ∀ r : Int, ((bt sn2 i = 1 → r = 1) ∧ (bt sn2 i = 0 → r = 0)) → r ≠ 0 → K 22 [some (mm_R 17), some (mm_I S), some (mm_I sn2), some (mm_I (mm_or C (ens (M 18 i) (M 19 i)))), some (mm_I w), some (mm_I ((i : Int) + 1))] [] M d 0 := fun r hr h => by
        have e1 : bt sn2 i = 1 := by
          rcases b9 with z | z
          · exact absurd (hr.2 z) h
          · exact z
        exact hstep _ _ (hgJ_c h2 (by omega) hF e1)
      clear hstep ih hq hJ h2 hor o1 o2 bs cf ct hb hF hs t2 j1 j2
      refine hK2 _ _ _ _ _ _ ?_
      refine mm_run_at (stop := [22]) (S := K) kkX5_hang 90 ?_ (fun _ _ _ _ _ _ _ h => hK _ _ _ _ _ _ h)
      repeat' (first | with_reducible assumption | with_reducible exact mm_i17 | with_reducible exact mm_i18 | with_reducible exact mm_i19 | with_reducible exact mm_i20 | with_reducible exact mm_i21 | with_reducible exact mm_i22 | ((with_reducible show mm_rv _ _ _ _ _); first | exact True.intro | exact mm_i17 | exact mm_i18 | exact mm_i19 | exact mm_i20 | exact mm_i21 | exact mm_i22) | ((with_reducible show mm_bool _ _); first | exact True.intro | exact Or.inl rfl | exact Or.inr rfl | (show (_ : Int) = 0 ∨ _ = 1)) | refine And.intro ?_ ?_ | intro _ | with_reducible exact True.intro | exact rfl | with_reducible exact Or.inl rfl | with_reducible exact Or.inr rfl | exact Nat.le_of_ble_eq_true rfl)
      all_goals (try simp (disch := omega) only [InI, Int.toNat_natCast, Int.tmod_eq_emod_of_nonneg, Int.tdiv_eq_ediv_of_nonneg, true_implies, true_or, or_true, mm_l18, mm_l19, mm_l20, mm_l21, mm_l22] at *)
      all_goals first | omega | exact nA _ (by assumption) (by omega) | exact nB _ (by assumption) (by omega) | skip
    have t71 : bt S i = 1 → (bt C (M 18 i).toNat = 1 ∨ bt C (M 19 i).toNat = 1) → K 71 [some (mm_R 17), some (mm_I S), some (mm_I sn), some (mm_I C), some (mm_I w), some (mm_I i)] [] M d 0 := by
      intro hs ht2
      have h78 := tail _ (hgJ_t hJ (by omega) (by omega) hF hs ht2) hs (Or.inl ((o2 i).mpr (Or.inr rfl)))
      clear tail hstep ih hq hJ ht2 o1 o2 bs cf ct hb hF hs t2
      refine hK2 _ _ _ _ _ _ ?_
      refine mm_run_at (stop := [78]) (S := K) kkX5_hang 90 ?_ (fun _ _ _ _ _ _ _ h => hK _ _ _ _ _ _ h)
      repeat' (first | with_reducible assumption | with_reducible exact mm_i17 | with_reducible exact mm_i18 | with_reducible exact mm_i19 | with_reducible exact mm_i20 | with_reducible exact mm_i21 | with_reducible exact mm_i22 | ((with_reducible show mm_rv _ _ _ _ _); first | exact True.intro | exact mm_i17 | exact mm_i18 | exact mm_i19 | exact mm_i20 | exact mm_i21 | exact mm_i22) | ((with_reducible show mm_bool _ _); first | exact True.intro | exact Or.inl rfl | exact Or.inr rfl | (show (_ : Int) = 0 ∨ _ = 1)) | refine And.intro ?_ ?_ | intro _ | with_reducible exact True.intro | exact rfl | with_reducible exact Or.inl rfl | with_reducible exact Or.inr rfl | exact Nat.le_of_ble_eq_true rfl)
      all_goals (try simp (disch := omega) only [InI, Int.toNat_natCast, Int.tmod_eq_emod_of_nonneg, Int.tdiv_eq_ediv_of_nonneg, true_implies, true_or, or_true, mm_l18, mm_l19, mm_l20, mm_l21, mm_l22] at *)
      all_goals first | omega | exact h78 | skip
    have k57 : bt S i = 1 → bt C (M 18 i).toNat = 0 → K 57 [some (mm_R 17), some (mm_I S), some (mm_I sn), some (mm_I C), some (mm_I w), some (mm_I i)] [] M d 0 := by
      intro hs h0
      have nA : ∀ r : Int, ((bt C (M 19 i).toNat = 1 → r = 1) ∧ (bt C (M 19 i).toNat = 0 → r = 0)) → r = 0 → K 78 [some (mm_R 17), some (mm_I S), some (mm_I sn), some (mm_I C), some (mm_I w), some (mm_I i)] [] M d 0 := fun r hr h => tail sn hJ hs (Or.inr (fun h9 => h9.elim (fun z => by omega) (fun z => by have := hr.1 z; omega)))
      have nB : ∀ r : Int, ((bt C (M 19 i).toNat = 1 → r = 1) ∧ (bt C (M 19 i).toNat = 0 → r = 0)) → r ≠ 0 → K 71 [some (mm_R 17), some (mm_I S), some (mm_I sn), some (mm_I C), some (mm_I w), some (mm_I i)] [] M d 0 := fun r hr h => t71 hs (Or.inr (by
        rcases ct with z | z
        · exact absurd (hr.2 z) h
        · exact z))
      clear tail t71 hstep ih hq hJ o1 o2 bs cf hb hF hs h0 t2 j1
      refine hK2 _ _ _ _ _ _ ?_
      refine mm_run_at (stop := [71, 78]) (S := K) kkX5_hang 90 ?_ (fun _ _ _ _ _ _ _ h => hK _ _ _ _ _ _ h)
      repeat' (first | with_reducible assumption | with_reducible exact mm_i17 | with_reducible exact mm_i18 | with_reducible exact mm_i19 | with_reducible exact mm_i20 | with_reducible exact mm_i21 | with_reducible exact mm_i22 | ((with_reducible show mm_rv _ _ _ _ _); first | exact True.intro | exact mm_i17 | exact mm_i18 | exact mm_i19 | exact mm_i20 | exact mm_i21 | exact mm_i22) | ((with_reducible show mm_bool _ _); first | exact True.intro | exact Or.inl rfl | exact Or.inr rfl | (show (_ : Int) = 0 ∨ _ = 1)) | refine And.intro ?_ ?_ | intro _ | with_reducible exact True.intro | exact rfl | with_reducible exact Or.inl rfl | with_reducible exact Or.inr rfl | exact Nat.le_of_ble_eq_true rfl)
      all_goals (try simp (disch := omega) only [InI, Int.toNat_natCast, Int.tmod_eq_emod_of_nonneg, Int.tdiv_eq_ediv_of_nonneg, true_implies, true_or, or_true, mm_l18, mm_l19, mm_l20, mm_l21, mm_l22] at *)
      all_goals first | omega | exact nA _ (by assumption) (by omega) | exact nB _ (by assumption) (by omega) | skip
    have k43 : bt S i = 1 → K 43 [some (mm_R 17), some (mm_I S), some (mm_I sn), some (mm_I C), some (mm_I w), some (mm_I i)] [] M d 0 := by
      intro hs
      have nA : ∀ r : Int, ((bt C (M 18 i).toNat = 1 → r = 1) ∧ (bt C (M 18 i).toNat = 0 → r = 0)) → r = 0 → K 57 [some (mm_R 17), some (mm_I S), some (mm_I sn), some (mm_I C), some (mm_I w), some (mm_I i)] [] M d 0 := fun r hr h => k57 hs (by
        rcases cf with z | z
        · exact z
        · have := hr.1 z
          omega)
      have nB : ∀ r : Int, ((bt C (M 18 i).toNat = 1 → r = 1) ∧ (bt C (M 18 i).toNat = 0 → r = 0)) → r ≠ 0 → K 71 [some (mm_R 17), some (mm_I S), some (mm_I sn), some (mm_I C), some (mm_I w), some (mm_I i)] [] M d 0 := fun r hr h => t71 hs (Or.inl (by
        rcases cf with z | z
        · exact absurd (hr.2 z) h
        · exact z))
      clear tail t71 k57 hstep ih hq hJ o1 o2 bs ct hb hF hs t2 j1
      refine hK2 _ _ _ _ _ _ ?_
      refine mm_run_at (stop := [57, 71]) (S := K) kkX5_hang 90 ?_ (fun _ _ _ _ _ _ _ h => hK _ _ _ _ _ _ h)
      repeat' (first | with_reducible assumption | with_reducible exact mm_i17 | with_reducible exact mm_i18 | with_reducible exact mm_i19 | with_reducible exact mm_i20 | with_reducible exact mm_i21 | with_reducible exact mm_i22 | ((with_reducible show mm_rv _ _ _ _ _); first | exact True.intro | exact mm_i17 | exact mm_i18 | exact mm_i19 | exact mm_i20 | exact mm_i21 | exact mm_i22) | ((with_reducible show mm_bool _ _); first | exact True.intro | exact Or.inl rfl | exact Or.inr rfl | (show (_ : Int) = 0 ∨ _ = 1)) | refine And.intro ?_ ?_ | intro _ | with_reducible exact True.intro | exact rfl | with_reducible exact Or.inl rfl | with_reducible exact Or.inr rfl | exact Nat.le_of_ble_eq_true rfl)
      all_goals (try simp (disch := omega) only [InI, Int.toNat_natCast, Int.tmod_eq_emod_of_nonneg, Int.tdiv_eq_ediv_of_nonneg, true_implies, true_or, or_true, mm_l18, mm_l19, mm_l20, mm_l21, mm_l22] at *)
      all_goals first | omega | exact nA _ (by assumption) (by omega) | exact nB _ (by assumption) (by omega) | skip
    have nA : ∀ r : Int, ((bt S i = 1 → r = 1) ∧ (bt S i = 0 → r = 0)) → r = 0 → K 22 [some (mm_R 17), some (mm_I S), some (mm_I sn), some (mm_I C), some (mm_I w), some (mm_I ((i : Int) + 1))] [] M d 0 := fun r hr h => hstep _ _ (hgJ_n hJ (Or.inl (by
      rcases hb with z | z
      · exact z
      · have := hr.1 z
        omega)))
    have nB : ∀ r : Int, ((bt S i = 1 → r = 1) ∧ (bt S i = 0 → r = 0)) → r ≠ 0 → K 43 [some (mm_R 17), some (mm_I S), some (mm_I sn), some (mm_I C), some (mm_I w), some (mm_I i)] [] M d 0 := fun r hr h => k43 (by
      rcases hb with z | z
      · exact absurd (hr.2 z) h
      · exact z)
    clear tail t71 k57 k43 hstep ih hq hJ o1 o2 bs cf ct hF t2 j1 j2
    refine mm_run_at (stop := [22, 43]) (S := K) kkX5_hang 90 ?_ (fun _ _ _ _ _ _ _ h => hK _ _ _ _ _ _ h)
    repeat' (first | with_reducible assumption | with_reducible exact mm_i17 | with_reducible exact mm_i18 | with_reducible exact mm_i19 | with_reducible exact mm_i20 | with_reducible exact mm_i21 | with_reducible exact mm_i22 | ((with_reducible show mm_rv _ _ _ _ _); first | exact True.intro | exact mm_i17 | exact mm_i18 | exact mm_i19 | exact mm_i20 | exact mm_i21 | exact mm_i22) | ((with_reducible show mm_bool _ _); first | exact True.intro | exact Or.inl rfl | exact Or.inr rfl | (show (_ : Int) = 0 ∨ _ = 1)) | refine And.intro ?_ ?_ | intro _ | with_reducible exact True.intro | exact rfl | with_reducible exact Or.inl rfl | with_reducible exact Or.inr rfl | exact Nat.le_of_ble_eq_true rfl)
    all_goals (try simp (disch := omega) only [InI, Int.toNat_natCast, Int.tmod_eq_emod_of_nonneg, Int.tdiv_eq_ediv_of_nonneg, true_implies, true_or, or_true, mm_l18, mm_l19, mm_l20, mm_l21, mm_l22] at *)
    all_goals first | omega | exact nA _ (by assumption) (by omega) | exact nB _ (by assumption) (by omega) | skip
set_option maxRecDepth 20000 in
theorem lp_X5_hang {M : mm_M} {d : List Nat} {Q : mm_Q} {S : Int} {n : Nat} (ht : tX M) (hS : 0 ≤ S ∧ S < 1073741824) (hsub : ∀ k, bt S k = 1 → k < n) (hn : M 17 1 = n) (hq : ∀ r, (HG (M 18) (M 19) n S → r = 1) ∧ (¬ HG (M 18) (M 19) n S → r = 0) → Q (.inl (some (mm_I r))) M d) : ∀ (k : Nat) (sn C w : Int) (x5 : Option mm_V), 1073741824 - sn ≤ k → InI w → (0 ≤ sn ∧ sn < 1073741824) → hgJ (M 18) (M 19) n S sn 0 sn C → (sn = w → hgJ (M 18) (M 19) n S sn n sn C) → rr_X5_hang Q 10 [some (mm_R 17), some (mm_I S), some (mm_I sn), some (mm_I C), some (mm_I w), x5] [] M d 0 := by
  have t1 := ht.1
  have fin : ∀ sn C w x5, (0 ≤ sn ∧ sn < 1073741824) → InI w → hgJ (M 18) (M 19) n S sn n sn C → sn = w → rr_X5_hang Q 118 [some (mm_R 17), some (mm_I S), some (mm_I sn), some (mm_I C), some (mm_I w), x5] [] M d 0 := by
    intro sn C w x5 hs hw hE e
    have hi := hgJ_e hS hsub hE
    obtain ⟨K, hK, hK2⟩ : ∃ K : Nat → mm_K, (∀ t ls st M d u, K t ls st M d u → rr_X5_hang Q t ls st M d u) ∧ (∀ t ls st M d u, rr_X5_hang Q t ls st M d u → K t ls st M d u) := ⟨rr_X5_hang Q, fun _ _ _ _ _ _ h => h, fun _ _ _ _ _ _ h => h⟩
    refine mm_run_at (stop := []) (S := K) kkX5_hang 90 ?_ (fun _ _ _ _ _ _ _ h => hK _ _ _ _ _ _ h)
    refine And.intro ⟨by omega, by omega⟩ (And.intro ⟨by omega, by omega⟩ (And.intro (fun h2 => And.intro (Or.inl rfl) (And.intro (Nat.le_refl _) (hq 0 ⟨fun h3 => absurd (hi.mpr h3) h2, fun _ => rfl⟩))) (fun h2 => And.intro (Or.inr rfl) (And.intro (Nat.le_refl _) (hq 1 ⟨fun _ => rfl, fun h3 => absurd (hi.mp h2) h3⟩)))))
  intro k
  induction k with
  | zero =>
    intro sn C w x5 hk hw hs hJ hE
    omega
  | succ k ih =>
    intro sn C w x5 hk hw hs hJ hE
    obtain ⟨K, hK, hK2⟩ : ∃ K : Nat → mm_K, (∀ t ls st M d u, K t ls st M d u → rr_X5_hang Q t ls st M d u) ∧ (∀ t ls st M d u, rr_X5_hang Q t ls st M d u → K t ls st M d u) := ⟨rr_X5_hang Q, fun _ _ _ _ _ _ h => h, fun _ _ _ _ _ _ h => h⟩
    have f118 := fun h => hK2 _ _ _ _ _ _ (fin sn C w x5 hs hw (hE h) h)
    have h22 : K 22 [some (mm_R 17), some (mm_I S), some (mm_I sn), some (mm_I C), some (mm_I sn), some (mm_I 0)] [] M d 0 := by
      refine hK2 _ _ _ _ _ _ (lp2_X5_hang ht hS hn ⟨by omega, by omega⟩ (fun sn2 C2 x5 h2 => ?_) n 0 sn C (by omega) hJ)
      have q1 := h2.1
      have hle := bt_sub_le hs.1 q1.1 h2.2.2.2.1
      by_cases e : sn2 = sn
      · subst e
        have f2 := hK2 _ _ _ _ _ _ (fin sn2 C2 sn2 x5 hs ⟨by omega, by omega⟩ h2 rfl)
        refine mm_run_at (stop := [118]) (S := K) kkX5_hang 90 ?_ (fun _ _ _ _ _ _ _ h => hK _ _ _ _ _ _ h)
        refine And.intro ⟨by omega, by omega⟩ (And.intro ⟨by omega, by omega⟩ (And.intro (fun _ => f2) (fun h9 => absurd rfl h9)))
      · exact ih sn2 C2 sn x5 (by omega) ⟨by omega, by omega⟩ q1 (hgJ_0 h2) (fun h3 => absurd h3 e)
    refine mm_run_at (stop := [22, 118]) (S := K) kkX5_hang 90 ?_ (fun _ _ _ _ _ _ _ h => hK _ _ _ _ _ _ h)
    refine And.intro ⟨by omega, by omega⟩ (And.intro hw (And.intro (fun h => f118 h) (fun h => And.intro rfl (And.intro rfl h22))))
set_option maxRecDepth 20000 in
theorem rn_X5_hang : mm_RN flX5 ct_X5_hang mm_x0 [] 2 0 6 kdX5_hang sp_X5_hang := by
  intro av M d Q h
  unfold sp_X5_hang at h
  split at h
  · rename_i o S
    obtain ⟨rfl, ht, hS, hsub, hq⟩ := h
    have h1 := ht.1
    obtain ⟨n, hn⟩ := Int.eq_ofNat_of_zero_le h1.1
    rw [hn] at hsub
    have hl := low_bit hS
    have h10 := lp_X5_hang ht hS hsub hn (fun r h => hq r (by rw [hn]; exact h)) 1073741824 _ 0 (-1) none (by omega) ⟨by omega, by omega⟩ hl.1 (hgJ_s hS (by omega)) (fun h => by omega)
    obtain ⟨K, hK, hK2⟩ : ∃ K : Nat → mm_K, (∀ t ls st M d u, K t ls st M d u → rr_X5_hang Q t ls st M d u) ∧ (∀ t ls st M d u, rr_X5_hang Q t ls st M d u → K t ls st M d u) := ⟨rr_X5_hang Q, fun _ _ _ _ _ _ h => h, fun _ _ _ _ _ _ h => h⟩
    refine ⟨Nat.le_of_ble_eq_true rfl, mm_run_at (stop := [10]) (S := K) kkX5_hang 90 ?_ (fun _ _ _ _ _ _ _ h => hK _ _ _ _ _ _ h)⟩
    have h10 := hK2 _ _ _ _ _ _ h10
    repeat' (first | with_reducible assumption | with_reducible exact mm_i17 | with_reducible exact mm_i18 | with_reducible exact mm_i19 | with_reducible exact mm_i20 | with_reducible exact mm_i21 | with_reducible exact mm_i22 | ((with_reducible show mm_rv _ _ _ _ _); first | exact True.intro | exact mm_i17 | exact mm_i18 | exact mm_i19 | exact mm_i20 | exact mm_i21 | exact mm_i22) | ((with_reducible show mm_bool _ _); first | exact True.intro | exact Or.inl rfl | exact Or.inr rfl | (show (_ : Int) = 0 ∨ _ = 1)) | refine And.intro ?_ ?_ | intro _ | with_reducible exact True.intro | exact rfl | with_reducible exact Or.inl rfl | with_reducible exact Or.inr rfl | exact Nat.le_of_ble_eq_true rfl)
    exact h10
  · exact h.elim
theorem me_X5_hang {l : Launch} (hl : l.stackTraces = false) : mm_Met l yX5_hang cX5_hang 6 (some .boolean) [] 7 121 0 sp_X5_hang := mm_mt hl rn_X5_hang ⟨plX5, rfl⟩ kkX5_hang rfl ⟨Nat.le_of_ble_eq_true rfl, Nat.le_of_ble_eq_true rfl⟩ flkX5 (fun _ h => nomatch h) (⟨mm_pe (me_X5_has hl) mwX5_has (mm_t6 221 rfl rfl) (Nat.le_of_ble_eq_true rfl) (Nat.le_of_ble_eq_true rfl), trivial⟩) (mm_xe0 _) n9X5

