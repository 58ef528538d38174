/-! runs of the small machine; contracts; calls, throws, a method's contract out of its runs -/
def mm_iv (how idx : Nat) : Instr := match how with
  | 0 => .invokevirtual idx
  | 1 => .invokestatic idx
  | _ => .invokespecial idx
section MZ
variable {p : Program} {l : Launch} {e : Env} {R : Room} {s : State} {m : MethodId} {args : Array Value} {below : List Frame} {meth : Method} {c : Code} {Qm : State → Prop}
variable {cc : ByteArray} {own : String} {nL : Nat} {Ts : List Jvm.Cond} {D : va_G} {E : mm_En} {Ad : Nat → Nat} {A : Nat → Prop}
variable {F : Nat → Option (Nat × Nat)} {C : Nat → Option mm_Ca} {X0 : Nat → Nat → Nat → Option Nat} {LC : Nat → Option Int} {SC : Nat → Option (Nat × (Nat → Int32))} {rt mu : Nat} {hn : Nat → Nat → Option Nat} {Qr : mm_Q}
theorem mm_chk_cons {b : ByteArray} {pc t : Nat} {i : Instr} {r : List mm_E} (h : mm_chk b ((pc, i, t) :: r) = true) : decode b pc = .ok (i, mm_len i) ∧ mm_tg pc i t = true ∧ mm_nx (pc + mm_len i) r = true ∧ mm_chk b r = true := by
  simp only [mm_chk, Bool.and_eq_true, decide_eq_true_eq] at h
  exact h
/-- what a pool's entries must keep -/
def mm_Po (own : String) (Ts : List Jvm.Cond) (F : Nat → Option (Nat × Nat)) (LC : Nat → Option Int) : Prop :=
  (∀ k rc n, F k = some (rc, n) → mm_lj own Ts rc n k) ∧ ∀ k x, LC k = some x → Jvm.Cond.constantLong own k (Int64.ofInt x) ∈ Ts
theorem mm_ft_len (rc : Nat) : (mm_ft rc).length ≤ 17 := by
  unfold mm_ft
  split <;> decide
set_option maxHeartbeats 8000000 in
theorem mm_sound (X : mm_Cx p s m args c cc own nL Ts D E A) (hPo : mm_Po own Ts F LC) (hSC : mm_SX s A SC)
    (h9 : mm_J A Ad s ∧ va_Nw (.castable "[B" "java/lang/Cloneable") s ∧ ((mu ≤ R.cells ∧ 12 * mu ≤ R.slots) ∧ 5 < R.frames ∧ 82 ≤ R.locals) ∧ Jvm.Cond.arrayClass .byte ∈ Ts ∧ ∀ k rc, F k = some (rc, 91) → meth.name = "<init>")
    (hC : ∀ how idx pc ls st M d u Kn Kj, decode cc pc = .ok (mm_iv how idx, 3) → mm_call C mu hn Qr how idx pc ls st M d u Kn Kj → (∀ ls st M d u, Kn ls st M d u → mm_Z p l e R s m args below meth c Qm nL D E Ad A (pc + 3) ls st M d u) → (∀ t ls st M d u, Kj t ls st M d u → mm_Z p l e R s m args below meth c Qm nL D E Ad A t ls st M d u) → mm_Z p l e R s m args below meth c Qm nL D E Ad A pc ls st M d u)
    (hX : ∀ idx pc rest ls st M d u, decode cc pc = .ok (.new idx, 3) → mm_nx (pc + 3) rest = true → mm_chk cc rest = true → mm_thr X0 mu hn Qr idx pc rest st M d u → mm_Z p l e R s m args below meth c Qm nL D E Ad A pc ls st M d u)
    (hR : ∀ i pc ls st M d u, decode cc pc = .ok (i, mm_len i) → mm_ret rt mu i st M d u Qr → mm_Z p l e R s m args below meth c Qm nL D E Ad A pc ls st M d u)
    {pc tgt : Nat} {i : Instr} {rest : List mm_E} {ls : mm_Ls} {st : List mm_V} {M : mm_M} {d : List Nat} {u : Nat} {Kn : mm_K} {Kj : Nat → mm_K}
    (hk : mm_chk cc ((pc, i, tgt) :: rest) = true) (h : mm_op F C X0 LC SC rt mu hn Qr pc i tgt rest ls st M d u Kn Kj)
    (kn : ∀ ls st M d u, Kn ls st M d u → mm_Z p l e R s m args below meth c Qm nL D E Ad A (pc + mm_len i) ls st M d u) (kj : ∀ t ls st M d u, Kj t ls st M d u → mm_Z p l e R s m args below meth c Qm nL D E Ad A t ls st M d u) : mm_Z p l e R s m args below meth c Qm nL D E Ad A pc ls st M d u := by
  obtain ⟨hd, ht, hnx, hr⟩ := mm_chk_cons hk
  cases i with
  | iconst n => exact mz_iconst X hd (kn _ _ _ _ _ h)
  | bipush n => exact mz_bipush X hd h.1 (kn _ _ _ _ _ h.2)
  | sipush n => exact mz_sipush X hd h.1 (kn _ _ _ _ _ h.2)
  | lconst n => exact mz_lconst X hd (kn _ _ _ _ _ h)
  | ldc2_w k =>
    dsimp only [mm_op] at h
    split at h
    · rename_i x hx
      exact mz_ldc2 X hd (hPo.2 _ _ hx) (kn _ _ _ _ _ h)
    · exact h.elim
  | aconst_null => exact mz_null X hd (kn _ _ _ _ _ h)
  | iload n =>
    dsimp only [mm_op] at h
    split at h
    · rename_i x hx
      exact mz_iload X hd hx (kn _ _ _ _ _ h)
    · exact h.elim
  | iload_n n =>
    dsimp only [mm_op] at h
    split at h
    · rename_i x hx
      exact mz_iload_n X hd hx (kn _ _ _ _ _ h)
    · exact h.elim
  | lload n =>
    dsimp only [mm_op] at h
    split at h
    · rename_i x hx
      exact mz_lload X hd hx (kn _ _ _ _ _ h)
    · exact h.elim
  | lload_n n =>
    dsimp only [mm_op] at h
    split at h
    · rename_i x hx
      exact mz_lload_n X hd hx (kn _ _ _ _ _ h)
    · exact h.elim
  | aload n =>
    dsimp only [mm_op] at h
    split at h
    · rename_i x hx
      exact mz_aload X hd hx (kn _ _ _ _ _ h)
    · exact h.elim
  | aload_n n =>
    dsimp only [mm_op] at h
    split at h
    · rename_i x hx
      exact mz_aload_n X hd hx (kn _ _ _ _ _ h)
    · exact h.elim
  | istore n =>
    dsimp only [mm_op] at h
    split at h
    · exact mz_istore X hd h.1 (kn _ _ _ _ _ h.2)
    · exact h.elim
  | istore_n n =>
    dsimp only [mm_op] at h
    split at h
    · exact mz_istore_n X hd h.1 (kn _ _ _ _ _ h.2)
    · exact h.elim
  | lstore n =>
    dsimp only [mm_op] at h
    split at h
    · exact mz_lstore X hd h.1 h.2.1 (kn _ _ _ _ _ h.2.2)
    · exact h.elim
  | lstore_n n =>
    dsimp only [mm_op] at h
    split at h
    · exact mz_lstore_n X hd h.1 h.2.1 (kn _ _ _ _ _ h.2.2)
    · exact h.elim
  | astore n =>
    dsimp only [mm_op] at h
    split at h
    · exact mz_astore X hd h.1 (kn _ _ _ _ _ h.2)
    · exact h.elim
  | astore_n n =>
    dsimp only [mm_op] at h
    split at h
    · exact mz_astore_n X hd h.1 (kn _ _ _ _ _ h.2)
    · exact h.elim
  | iinc n x =>
    dsimp only [mm_op] at h
    split at h
    · rename_i y hx
      exact mz_iinc X hd hx h.1 (kn _ _ _ _ _ h.2)
    · exact h.elim
  | iadd =>
    dsimp only [mm_op] at h
    split at h
    · exact mz_iadd X hd (kn _ _ _ _ _ h)
    · exact h.elim
  | isub =>
    dsimp only [mm_op] at h
    split at h
    · exact mz_isub X hd (kn _ _ _ _ _ h)
    · exact h.elim
  | imul =>
    dsimp only [mm_op] at h
    split at h
    · exact mz_imul X hd (kn _ _ _ _ _ h)
    · exact h.elim
  | idiv =>
    dsimp only [mm_op] at h
    split at h
    · exact mz_idiv X hd h.1 h.2.1 h.2.2.1 (kn _ _ _ _ _ h.2.2.2)
    · exact h.elim
  | irem =>
    dsimp only [mm_op] at h
    split at h
    · exact mz_irem X hd h.1 h.2.1 h.2.2.1 (kn _ _ _ _ _ h.2.2.2)
    · exact h.elim
  | ineg =>
    dsimp only [mm_op] at h
    split at h
    · exact mz_ineg X hd (kn _ _ _ _ _ h)
    · exact h.elim
  | iand =>
    dsimp only [mm_op] at h
    split at h
    · exact mz_iand X hd (kn _ _ _ _ _ h)
    · exact h.elim
  | ior =>
    dsimp only [mm_op] at h
    split at h
    · exact mz_ior X hd (kn _ _ _ _ _ h)
    · exact h.elim
  | ixor =>
    dsimp only [mm_op] at h
    split at h
    · exact mz_ixor X hd (kn _ _ _ _ _ h)
    · exact h.elim
  | ishl =>
    dsimp only [mm_op] at h
    split at h
    · exact mz_ishl X hd h.1 (kn _ _ _ _ _ h.2)
    · exact h.elim
  | ishr =>
    dsimp only [mm_op] at h
    split at h
    · exact mz_ishr X hd h.1 h.2.1 (kn _ _ _ _ _ h.2.2)
    · exact h.elim
  | i2l =>
    dsimp only [mm_op] at h
    split at h
    · exact mz_i2l X hd (kn _ _ _ _ _ h)
    · exact h.elim
  | ladd =>
    dsimp only [mm_op] at h
    split at h
    · exact mz_ladd X hd (kn _ _ _ _ _ h)
    · exact h.elim
  | lmul =>
    dsimp only [mm_op] at h
    split at h
    · exact mz_lmul X hd (kn _ _ _ _ _ h)
    · exact h.elim
  | lcmp =>
    dsimp only [mm_op] at h
    split at h
    · exact mz_lcmp X hd h.1 (kn _ _ _ _ _ h.2)
    · exact h.elim
  | dup =>
    dsimp only [mm_op] at h
    split at h
    · exact h.elim
    · rename_i v r hv
      refine mz_dup X hd ?_ (kn _ _ _ _ _ h)
      rcases v with x | x | x | x <;> first | rfl | exact absurd rfl (hv _)
    · exact h.elim
  | dup2 =>
    dsimp only [mm_op] at h
    split at h
    · exact mz_dup2 X hd h.1 h.2.1 (kn _ _ _ _ _ h.2.2)
    · exact h.elim
  | pop =>
    dsimp only [mm_op] at h
    split at h
    · exact h.elim
    · rename_i v r hv
      refine mz_pop X hd ?_ (kn _ _ _ _ _ h)
      rcases v with x | x | x | x <;> first | rfl | exact absurd rfl (hv _)
    · exact h.elim
  | pop2 =>
    dsimp only [mm_op] at h
    split at h
    · exact mz_pop2 X hd (kn _ _ _ _ _ h)
    · exact h.elim
  | goto o => exact mz_goto X hd (mm_tgt ht) (kj _ _ _ _ _ _ h)
  | ifCond cnd o =>
    cases cnd <;> dsimp only [mm_op] at h <;> split at h
    · exact mz_if_eq X hd (mm_tgt ht) h.1 (fun q => kj _ _ _ _ _ _ (h.2.1 q)) (fun q => kn _ _ _ _ _ (h.2.2 q))
    · exact h.elim
    · exact mz_if_ne X hd (mm_tgt ht) h.1 (fun q => kj _ _ _ _ _ _ (h.2.1 q)) (fun q => kn _ _ _ _ _ (h.2.2 q))
    · exact h.elim
    · exact mz_if_lt X hd (mm_tgt ht) h.1 (fun q => kj _ _ _ _ _ _ (h.2.1 q)) (fun q => kn _ _ _ _ _ (h.2.2 q))
    · exact h.elim
    · exact mz_if_ge X hd (mm_tgt ht) h.1 (fun q => kj _ _ _ _ _ _ (h.2.1 q)) (fun q => kn _ _ _ _ _ (h.2.2 q))
    · exact h.elim
    · exact mz_if_gt X hd (mm_tgt ht) h.1 (fun q => kj _ _ _ _ _ _ (h.2.1 q)) (fun q => kn _ _ _ _ _ (h.2.2 q))
    · exact h.elim
    · exact mz_if_le X hd (mm_tgt ht) h.1 (fun q => kj _ _ _ _ _ _ (h.2.1 q)) (fun q => kn _ _ _ _ _ (h.2.2 q))
    · exact h.elim
  | if_icmp cnd o =>
    cases cnd <;> dsimp only [mm_op] at h <;> split at h
    · exact mz_icmp_eq X hd (mm_tgt ht) h.1 h.2.1 (fun q => kj _ _ _ _ _ _ (h.2.2.1 q)) (fun q => kn _ _ _ _ _ (h.2.2.2 q))
    · exact h.elim
    · exact mz_icmp_ne X hd (mm_tgt ht) h.1 h.2.1 (fun q => kj _ _ _ _ _ _ (h.2.2.1 q)) (fun q => kn _ _ _ _ _ (h.2.2.2 q))
    · exact h.elim
    · exact mz_icmp_lt X hd (mm_tgt ht) h.1 h.2.1 (fun q => kj _ _ _ _ _ _ (h.2.2.1 q)) (fun q => kn _ _ _ _ _ (h.2.2.2 q))
    · exact h.elim
    · exact mz_icmp_ge X hd (mm_tgt ht) h.1 h.2.1 (fun q => kj _ _ _ _ _ _ (h.2.2.1 q)) (fun q => kn _ _ _ _ _ (h.2.2.2 q))
    · exact h.elim
    · exact mz_icmp_gt X hd (mm_tgt ht) h.1 h.2.1 (fun q => kj _ _ _ _ _ _ (h.2.2.1 q)) (fun q => kn _ _ _ _ _ (h.2.2.2 q))
    · exact h.elim
    · exact mz_icmp_le X hd (mm_tgt ht) h.1 h.2.1 (fun q => kj _ _ _ _ _ _ (h.2.2.1 q)) (fun q => kn _ _ _ _ _ (h.2.2.2 q))
    · exact h.elim
  | if_acmp cnd o =>
    cases cnd <;> dsimp only [mm_op] at h <;> split at h
    · exact mz_acmp_eq X hd (mm_tgt ht) h.1 h.2.1 (fun q => kj _ _ _ _ _ _ (h.2.2.1 q)) (fun q => kn _ _ _ _ _ (h.2.2.2 q))
    · exact h.elim
    · exact mz_acmp_ne X hd (mm_tgt ht) h.1 h.2.1 (fun q => kj _ _ _ _ _ _ (h.2.2.1 q)) (fun q => kn _ _ _ _ _ (h.2.2.2 q))
    · exact h.elim
  | ifnull o =>
    dsimp only [mm_op] at h
    split at h
    · exact mz_ifnull X hd (mm_tgt ht) (fun q => kj _ _ _ _ _ _ (h.1 q)) (fun q => kn _ _ _ _ _ (h.2 q))
    · exact h.elim
  | ifnonnull o =>
    dsimp only [mm_op] at h
    split at h
    · exact mz_ifnonnull X hd (mm_tgt ht) (fun q => kj _ _ _ _ _ _ (h.1 q)) (fun q => kn _ _ _ _ _ (h.2 q))
    · exact h.elim
  | getfield k =>
    dsimp only [mm_op] at h
    split at h
    · rename_i hF
      rcases hPo.1 _ _ _ hF with ⟨hn, -⟩ | ⟨-, hw, -, -⟩
      · omega
      · obtain ⟨rfl, h⟩ := h
        exact mz_getC X hd (n := 0) (v := mm_R 29) (hw (.fieldLink own k RXS (TXS 0).2.1 (TXS 0).2.2.1) (by simp [mm_wk])) (by
          have e1 : mm_cc Ad (mm_R 29) = .ref (Ad 29) := by rw [mm_ref (by decide)]; rfl
          rw [e1]
          exact h9.1.2.2.2.2.2.2.2.2.1) (kn _ _ _ _ _ h)
    · rename_i hF
      rcases hPo.1 _ _ _ hF with ⟨hn, -⟩ | ⟨-, hw, -, -⟩
      · omega
      · obtain ⟨rfl, h⟩ := h
        exact mz_getC X hd (n := 1) (v := mm_I 0) (hw (.fieldLink own k RXS (TXS 1).2.1 (TXS 1).2.2.1) (by simp [mm_wk])) h9.1.2.2.2.2.2.2.2.1 (kn _ _ _ _ _ h)
    · rename_i hF
      obtain ⟨ho, h⟩ := h
      split at h
      · rename_i hf
        rcases hPo.1 _ _ _ hF with ⟨hn, hlk⟩ | ⟨hn, -⟩
        · exact mz_getf X hd hlk hf ho (kn _ _ _ _ _ h)
        · have h1 := mm_nth_lt hf
          exact absurd (Nat.lt_of_lt_of_le h1 (mm_ft_len _)) (by omega)
      · exact h.elim
    · exact h.elim
  | putfield k =>
    dsimp only [mm_op] at h
    split at h
    · rename_i hF
      rcases hPo.1 _ _ _ hF with ⟨hn, -⟩ | ⟨-, hw, -, hown⟩
      · omega
      · obtain ⟨ho, h⟩ := h
        refine mz_putS X (h9.2.2.2.2 _ _ hF) (hown rfl) hd (hw _ List.mem_cons_self) ho ?_
        revert h
        unfold mm_pS
        split
        · exact fun h => kn _ _ _ _ _ h
        · exact fun h => ⟨h.1, kn _ _ _ _ _ h.2⟩
        · exact fun h => h
    · rename_i hF
      obtain ⟨ho, h⟩ := h
      split at h
      · rename_i hf
        rcases hPo.1 _ _ _ hF with ⟨hn, hlk⟩ | ⟨hn, -⟩
        · refine mz_putf X hd hlk hf ho ?_
          revert h
          unfold mm_pf
          split
          · exact fun h => kn _ _ _ _ _ h
          · exact fun h => ⟨h.1, kn _ _ _ _ _ h.2⟩
          · exact fun h => kn _ _ _ _ _ h
          · exact fun h => kn _ _ _ _ _ h
          · exact fun h => kn _ _ _ _ _ h
          · exact fun h => ⟨h.1, kn _ _ _ _ _ h.2⟩
          · exact fun h => h
        · have h1 := mm_nth_lt hf
          exact absurd (Nat.lt_of_lt_of_le h1 (mm_ft_len _)) (by omega)
      · exact h.elim
    · exact h.elim
  | getstatic k =>
    dsimp only [mm_op] at h
    split at h
    · rename_i hF
      rcases hPo.1 _ _ _ hF with ⟨hn, -⟩ | ⟨-, hw, -, -⟩
      · omega
      · exact mz_gets (C := RXS) (n := "COMPACT_STRINGS") (dd := "Z") (v := mm_I 1) X hd (hw _ (by simp [mm_wk, mm_sn])) h9.1.1 (kn _ _ _ _ _ h)
    · rename_i hF
      rcases hPo.1 _ _ _ hF with ⟨hn, -⟩ | ⟨-, hw, -, -⟩
      · omega
      · exact mz_gets (C := "java/lang/Integer") (n := "DigitOnes") (dd := "[B") (v := mm_R 24) X hd (hw _ (by simp [mm_wk, mm_sn])) (by
          have e1 : mm_cc Ad (mm_R 24) = .ref (Ad 24) := by rw [mm_ref (by decide)]; rfl
          rw [e1]
          exact h9.1.2.1.1) (kn _ _ _ _ _ h)
    · rename_i hF
      rcases hPo.1 _ _ _ hF with ⟨hn, -⟩ | ⟨-, hw, -, -⟩
      · omega
      · exact mz_gets (C := "java/lang/Integer") (n := "DigitTens") (dd := "[B") (v := mm_R 25) X hd (hw _ (by simp [mm_wk, mm_sn])) (by
          have e1 : mm_cc Ad (mm_R 25) = .ref (Ad 25) := by rw [mm_ref (by decide)]; rfl
          rw [e1]
          exact h9.1.2.2.1.1) (kn _ _ _ _ _ h)
    · exact h.elim
  | ldc k =>
    dsimp only [mm_op] at h
    split at h
    · rename_i hF
      rcases hPo.1 _ _ _ hF with ⟨hn, -⟩ | ⟨-, -, ht, -⟩
      · omega
      · rcases ht rfl with ⟨-, ⟨rfl, rfl⟩ | ⟨rfl, rfl⟩⟩ | ⟨h0, -⟩
        · obtain ⟨q, hq⟩ := h9.1.2.2.2.1
          exact mz_ldcX X hd hq (v := mm_X q) rfl (kn _ _ _ _ _ (h q))
        · obtain ⟨q, hq⟩ := h9.1.2.2.2.2.1
          exact mz_ldcX X hd hq (v := mm_X q) rfl (kn _ _ _ _ _ (h q))
        · omega
    · rename_i hF
      rcases hPo.1 _ _ _ hF with ⟨hn, -⟩ | ⟨-, -, ht, -⟩
      · omega
      · rcases ht rfl with ⟨h0, -⟩ | ⟨-, rfl, rfl⟩
        · omega
        · exact mz_ldcX X hd h9.1.2.2.2.2.2.1 (v := mm_R 28) (by rw [mm_ref (by decide)]; rfl) (kn _ _ _ _ _ h)
    · rename_i hF
      rcases hPo.1 _ _ _ hF with ⟨hn, -⟩ | ⟨-, hw, -, -⟩
      · omega
      · exact mz_ldcI (v := 2147483639) X hd (hw _ (by simp [mm_wk])) (kn _ _ _ _ _ h)
    · rename_i hF
      rcases hPo.1 _ _ _ hF with ⟨hn, -⟩ | ⟨-, hw, -, -⟩
      · omega
      · exact mz_ldcI (v := 2147483647) X hd (hw _ (by simp [mm_wk])) (kn _ _ _ _ _ h)
    · exact h.elim
  | newarray ty =>
    cases ty <;> dsimp only [mm_op] at h <;> first | exact h.elim | skip
    split at h
    · exact mz_newa X h9.2.2.1.1 hd h9.2.2.2.1 h.1 h.2.1 (fun o a b => kn _ _ _ _ _ (h.2.2 o a b))
    · exact h.elim
  | baload =>
    dsimp only [mm_op] at h
    split at h
    · obtain ⟨ho, ha, h⟩ := h
      rcases ho with rfl | rfl
      · obtain ⟨f, hT⟩ := h9.1.2.1.2
        exact mz_bald X hd ⟨by decide, by decide⟩ hT ha (fun x => kn _ _ _ _ _ (h x))
      · obtain ⟨f, hT⟩ := h9.1.2.2.1.2
        exact mz_bald X hd ⟨by decide, by decide⟩ hT ha (fun x => kn _ _ _ _ _ (h x))
    · exact h.elim
  | bastore =>
    dsimp only [mm_op] at h
    split at h
    · exact mz_bast X hd h.1 h.2.1 h.2.2.1 (kn _ _ _ _ _ h.2.2.2)
    · exact h.elim
  | i2b =>
    dsimp only [mm_op] at h
    split at h
    · exact mz_i2b X hd (fun x => kn _ _ _ _ _ (h x))
    · exact h.elim
  | dup_x1 =>
    dsimp only [mm_op] at h
    split at h
    · exact mz_dup_x1 X hd h.1 h.2.1 (kn _ _ _ _ _ h.2.2)
    · exact h.elim
  | checkcast k =>
    dsimp only [mm_op] at h
    split at h
    · rename_i hF
      rcases hPo.1 _ _ _ hF with ⟨hn, -⟩ | ⟨-, hw, -, -⟩
      · omega
      · exact mz_cast X hd (hw _ (by simp [mm_wk])) h.1 (kn _ _ _ _ _ h.2)
    · exact h.elim
  | invokespecial k =>
    dsimp only [mm_op] at h
    split at h
    · rename_i hF
      rcases hPo.1 _ _ _ hF with ⟨hn, -⟩ | ⟨-, hw, -, -⟩
      · omega
      · exact mz_objI X h9.2.2.1.2 hd hw h.1 h.2.1 (kn _ _ _ _ _ h.2.2)
    · exact hC 2 k pc ls _ M d u Kn Kj hd h kn kj
  | iaload =>
    dsimp only [mm_op] at h
    split at h
    · split at h
      · rename_i hq
        exact mz_sld X hd hSC hq h.1 h.2.1 (kn _ _ _ _ _ h.2.2)
      · exact h.elim
    · exact mz_iald X hd h.1 h.2.1 h.2.2.1 (kn _ _ _ _ _ h.2.2.2)
    · exact h.elim
  | iastore =>
    dsimp only [mm_op] at h
    split at h
    · exact mz_iast X hd h.1 h.2.1 h.2.2.1 (kn _ _ _ _ _ h.2.2.2)
    · exact h.elim
  | aaload =>
    dsimp only [mm_op] at h
    split at h
    · exact mz_aald X hd h.1 h.2.1 h.2.2.1 (kn _ _ _ _ _ h.2.2.2)
    · exact h.elim
  | arraylength =>
    dsimp only [mm_op] at h
    split at h
    · exact mz_lenJ h9.1 X hd h (fun _ hk => kn _ _ _ _ _ hk)
    · exact mz_lenJ h9.1 X hd h (fun _ hk => kn _ _ _ _ _ hk)
    · exact mz_lenJ h9.1 X hd h (fun _ hk => kn _ _ _ _ _ hk)
    · split at h
      · split at h
        · rename_i hq
          exact mz_slen X hd hSC hq (kn _ _ _ _ _ h.2)
        · exact h.elim
      · exact mz_alen X hd h.1 h.2.1 (kn _ _ _ _ _ h.2.2)
      · exact h.elim
  | invokevirtual k =>
    dsimp only [mm_op] at h
    split at h
    · split at h
      · rename_i hF
        rcases hPo.1 _ _ _ hF with ⟨hn, -⟩ | ⟨-, hw, -, -⟩
        · omega
        · exact mz_cloneJ X h9.2.1 h9.2.2.1 hd hw h (fun _ _ _ _ hk => kn _ _ _ _ _ hk)
      · exact hC 0 k pc ls st M d u Kn Kj hd h kn kj
    · exact hC 0 k pc ls st M d u Kn Kj hd h kn kj
  | invokestatic k =>
    dsimp only [mm_op] at h
    split at h
    · split at h
      · rename_i hF
        rcases hPo.1 _ _ _ hF with ⟨hn, -⟩ | ⟨-, hw, -, -⟩
        · omega
        · exact mz_copyJ h9.1 X h9.2.2.1.2 hd hw h (fun _ _ hk => kn _ _ _ _ _ hk)
      · exact hC 1 k pc ls st M d u Kn Kj hd h kn kj
    · split at h
      · rename_i hF
        rcases hPo.1 _ _ _ hF with ⟨hn, -⟩ | ⟨-, hw, -, -⟩
        · omega
        · exact mz_copyJ h9.1 X h9.2.2.1.2 hd hw h (fun _ _ hk => kn _ _ _ _ _ hk)
      · exact hC 1 k pc ls st M d u Kn Kj hd h kn kj
    · exact hC 1 k pc ls st M d u Kn Kj hd h kn kj
  | new k =>
    dsimp only [mm_op] at h
    split at h
    · rename_i hF
      rcases hPo.1 _ _ _ hF with ⟨hn, -⟩ | ⟨-, hw, -, -⟩
      · omega
      · exact mz_new X h9.2.2.1.1 hd h.1 hw h.2.1 (fun o a b => kn _ _ _ _ _ (h.2.2 o a b))
    · exact hX k pc rest ls st M d u hd hnx hr h
  | return_ => exact hR _ pc ls st M d u hd h
  | ireturn => exact hR _ pc ls st M d u hd h
  | lreturn => exact hR _ pc ls st M d u hd h
  | areturn => exact hR _ pc ls st M d u hd h
  | _ => exact False.elim h
end MZ
