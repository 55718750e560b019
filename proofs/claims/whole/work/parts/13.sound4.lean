theorem px_y_lt {c i y kd pl : Nat} (hf : px_clk c i = some (y, kd, pl)) (h3 : kd < 3 := by decide) : y < px_LAW := by
  have hk := List.all_eq_true.mp (px_qm_all c) _ (px_lk_in hf)
  unfold px_km at hk
  split at hk
  · simp only [Bool.and_eq_true, decide_eq_true_eq] at hk
    exact hk.2
  · simp only [Bool.and_eq_true, decide_eq_true_eq] at hk
    exact hk.2
  · simp only [Bool.and_eq_true, decide_eq_true_eq] at hk
    exact hk.2
  · rename_i e
    exact absurd h3 (by rw [show kd = 3 from e]; decide)
  · rename_i e
    exact absurd h3 (by rw [show kd = 4 from e]; decide)
  · rename_i e
    exact absurd h3 (by rw [show kd = 5 from e]; decide)
  · rename_i e
    exact absurd h3 (by rw [show kd = 6 from e]; decide)
  · cases hk
section PXV
variable {p : Program} {l : Launch} {e : Env} {R : Room} {s : State} {m : MethodId} {args : Array Value} {below : List Frame} {meth : Method} {c : Code} {cells slots : Nat} {Qm : State → Prop} {g k : Nat} {D : va_G} {cA : Nat → ClassId} {ar : Nat → Nat} {fv : Value} {ro : Nat → Nat → Int32} {A : Nat → Prop} {Lx : Nat} {pc : Nat} {ls : px_Lo} {M : px_Mem} {r : List Value}
theorem px_step (C : px_Cx p R s m args c cells slots g k D cA ar fv ro A Lx) (hk : k < px_NM) {len : Nat} {i : Instr} (hin : px_in k pc = some (i, len)) {Q : px_Po} {go : Nat → px_Lo → List Value → px_Mem → Prop} {cal : Nat → List Value → px_Mem → px_Po → Prop} (hgo : ∀ (pc' : Nat) (ls' : px_Lo) (st' : List Value) (M' : px_Mem), go pc' ls' st' M' → px_G p l e R s m args below meth c cells slots Qm g k D cA ar fv ro A (pc') (ls') (st') (M')) (hcal : ∀ (y : Nat) (st' : List Value) (M' : px_Mem) (Q' : px_Po), cal y (st'.take (px_na y)).reverse M' Q' → y < px_LAW → px_cokp k y st' → px_Mt l g D cA ar fv ro A Lx y (st'.take (px_na y)).reverse M' Q') (hrt : px_Rt p l e R s m args below meth c cells slots Qm g k D cA ar fv ro A Q) {st : List Value} (h : px_st g k pc ls M Q go cal len st i) : px_G p l e R s m args below meth c cells slots Qm g k D cA ar fv ro A (pc) (ls) (st) (M) := by
  obtain ⟨hd, hok⟩ := px_in_ok hk hin
  cases i
  case iadd =>
    have e1 : len = 1 := of_decide_eq_true hok
    subst e1
    simp only [px_st] at h
    split at h
    · exact px_x_iadd C hd (hgo _ _ _ _ h)
    · exact h.elim
  case isub =>
    have e1 : len = 1 := of_decide_eq_true hok
    subst e1
    simp only [px_st] at h
    split at h
    · exact px_x_isub C hd (hgo _ _ _ _ h)
    · exact h.elim
  case imul =>
    have e1 : len = 1 := of_decide_eq_true hok
    subst e1
    simp only [px_st] at h
    split at h
    · exact px_x_imul C hd (hgo _ _ _ _ h)
    · exact h.elim
  case iand =>
    have e1 : len = 1 := of_decide_eq_true hok
    subst e1
    simp only [px_st] at h
    split at h
    · exact px_x_iand C hd (hgo _ _ _ _ h)
    · exact h.elim
  case ior =>
    have e1 : len = 1 := of_decide_eq_true hok
    subst e1
    simp only [px_st] at h
    split at h
    · exact px_x_ior C hd (hgo _ _ _ _ h)
    · exact h.elim
  case ixor =>
    have e1 : len = 1 := of_decide_eq_true hok
    subst e1
    simp only [px_st] at h
    split at h
    · exact px_x_ixor C hd (hgo _ _ _ _ h)
    · exact h.elim
  case ishl =>
    have e1 : len = 1 := of_decide_eq_true hok
    subst e1
    simp only [px_st] at h
    split at h
    · exact px_x_ishl C hd (hgo _ _ _ _ h)
    · exact h.elim
  case ishr =>
    have e1 : len = 1 := of_decide_eq_true hok
    subst e1
    simp only [px_st] at h
    split at h
    · exact px_x_ishr C hd (hgo _ _ _ _ h)
    · exact h.elim
  case iushr =>
    have e1 : len = 1 := of_decide_eq_true hok
    subst e1
    simp only [px_st] at h
    split at h
    · exact px_x_iushr C hd (hgo _ _ _ _ h)
    · exact h.elim
  case ladd =>
    have e1 : len = 1 := of_decide_eq_true hok
    subst e1
    simp only [px_st] at h
    split at h
    · exact px_x_ladd C hd (hgo _ _ _ _ h)
    · exact h.elim
  case lsub =>
    have e1 : len = 1 := of_decide_eq_true hok
    subst e1
    simp only [px_st] at h
    split at h
    · exact px_x_lsub C hd (hgo _ _ _ _ h)
    · exact h.elim
  case lmul =>
    have e1 : len = 1 := of_decide_eq_true hok
    subst e1
    simp only [px_st] at h
    split at h
    · exact px_x_lmul C hd (hgo _ _ _ _ h)
    · exact h.elim
  case land =>
    have e1 : len = 1 := of_decide_eq_true hok
    subst e1
    simp only [px_st] at h
    split at h
    · exact px_x_land C hd (hgo _ _ _ _ h)
    · exact h.elim
  case lor =>
    have e1 : len = 1 := of_decide_eq_true hok
    subst e1
    simp only [px_st] at h
    split at h
    · exact px_x_lor C hd (hgo _ _ _ _ h)
    · exact h.elim
  case lneg =>
    have e1 : len = 1 := of_decide_eq_true hok
    subst e1
    simp only [px_st] at h
    split at h
    · exact px_x_lneg C hd (hgo _ _ _ _ h)
    · exact h.elim
  case lshl =>
    have e1 : len = 1 := of_decide_eq_true hok
    subst e1
    simp only [px_st] at h
    split at h
    · exact px_x_lshl C hd (hgo _ _ _ _ h)
    · exact h.elim
  case lshr =>
    have e1 : len = 1 := of_decide_eq_true hok
    subst e1
    simp only [px_st] at h
    split at h
    · exact px_x_lshr C hd (hgo _ _ _ _ h)
    · exact h.elim
  case i2l =>
    have e1 : len = 1 := of_decide_eq_true hok
    subst e1
    simp only [px_st] at h
    split at h
    · exact px_x_i2l C hd (hgo _ _ _ _ h)
    · exact h.elim
  case l2i =>
    have e1 : len = 1 := of_decide_eq_true hok
    subst e1
    simp only [px_st] at h
    split at h
    · exact px_x_l2i C hd (hgo _ _ _ _ h)
    · exact h.elim
  case i2b =>
    have e1 : len = 1 := of_decide_eq_true hok
    subst e1
    simp only [px_st] at h
    split at h
    · exact px_x_i2b C hd (hgo _ _ _ _ h)
    · exact h.elim
  case i2s =>
    have e1 : len = 1 := of_decide_eq_true hok
    subst e1
    simp only [px_st] at h
    split at h
    · exact px_x_i2s C hd (hgo _ _ _ _ h)
    · exact h.elim
  case i2c =>
    have e1 : len = 1 := of_decide_eq_true hok
    subst e1
    simp only [px_st] at h
    split at h
    · exact px_x_i2c C hd (hgo _ _ _ _ h)
    · exact h.elim
  case lcmp =>
    have e1 : len = 1 := of_decide_eq_true hok
    subst e1
    simp only [px_st] at h
    split at h
    · exact px_x_lcmp C hd (hgo _ _ _ _ h)
    · exact h.elim
  case idiv =>
    have e1 : len = 1 := of_decide_eq_true hok
    subst e1
    simp only [px_st] at h
    split at h
    · exact px_x_idiv C hd h.1 (hgo _ _ _ _ h.2)
    · exact h.elim
  case irem =>
    have e1 : len = 1 := of_decide_eq_true hok
    subst e1
    simp only [px_st] at h
    split at h
    · exact px_x_irem C hd h.1 (hgo _ _ _ _ h.2)
    · exact h.elim
  case ldiv =>
    have e1 : len = 1 := of_decide_eq_true hok
    subst e1
    simp only [px_st] at h
    split at h
    · exact px_x_ldiv C hd h.1 (hgo _ _ _ _ h.2)
    · exact h.elim
  case lrem =>
    have e1 : len = 1 := of_decide_eq_true hok
    subst e1
    simp only [px_st] at h
    split at h
    · exact px_x_lrem C hd h.1 (hgo _ _ _ _ h.2)
    · exact h.elim
  case iconst n =>
    have e1 : len = 1 := of_decide_eq_true hok
    subst e1
    simp only [px_st] at h
    exact px_x_iconst C hd (hgo _ _ _ _ h)
  case bipush n =>
    have e1 : len = 2 := of_decide_eq_true hok
    subst e1
    simp only [px_st] at h
    exact px_x_bipush C hd (hgo _ _ _ _ h)
  case sipush n =>
    have e1 : len = 3 := of_decide_eq_true hok
    subst e1
    simp only [px_st] at h
    exact px_x_sipush C hd (hgo _ _ _ _ h)
  case lconst n =>
    have e1 : len = 1 := of_decide_eq_true hok
    subst e1
    simp only [px_st] at h
    exact px_x_lconst C hd (hgo _ _ _ _ h)
  case iload_n j =>
    have e1 : len = 1 := of_decide_eq_true hok
    subst e1
    simp only [px_st] at h
    split at h
    · rename_i hj
      exact px_x_iload_n C hd hj (hgo _ _ _ _ h)
    · exact h.elim
  case iload j =>
    have e1 : len = 2 := of_decide_eq_true hok
    subst e1
    simp only [px_st] at h
    split at h
    · rename_i hj
      exact px_x_iload C hd hj (hgo _ _ _ _ h)
    · exact h.elim
  case lload_n j =>
    have e1 : len = 1 := of_decide_eq_true hok
    subst e1
    simp only [px_st] at h
    split at h
    · rename_i hj
      exact px_x_lload_n C hd hj (hgo _ _ _ _ h)
    · exact h.elim
  case lload j =>
    have e1 : len = 2 := of_decide_eq_true hok
    subst e1
    simp only [px_st] at h
    split at h
    · rename_i hj
      exact px_x_lload C hd hj (hgo _ _ _ _ h)
    · exact h.elim
  case aload_n j =>
    have e1 : len = 1 := of_decide_eq_true hok
    subst e1
    simp only [px_st] at h
    split at h
    · rename_i hj
      exact px_x_aload_n C hd hj (hgo _ _ _ _ h)
    · exact h.elim
  case aload j =>
    have e1 : len = 2 := of_decide_eq_true hok
    subst e1
    simp only [px_st] at h
    split at h
    · rename_i hj
      exact px_x_aload C hd hj (hgo _ _ _ _ h)
    · exact h.elim
  case istore_n j =>
    have hok2 := hok
    unfold px_oki at hok2
    simp only [Bool.and_eq_true, decide_eq_true_eq] at hok2
    obtain ⟨rfl, hj⟩ := hok2
    simp only [px_st] at h
    split at h
    · exact px_x_istore_n C hd hj (hgo _ _ _ _ h)
    · exact h.elim
  case istore j =>
    have hok2 := hok
    unfold px_oki at hok2
    simp only [Bool.and_eq_true, decide_eq_true_eq] at hok2
    obtain ⟨rfl, hj⟩ := hok2
    simp only [px_st] at h
    split at h
    · exact px_x_istore C hd hj (hgo _ _ _ _ h)
    · exact h.elim
  case astore_n j =>
    have hok2 := hok
    unfold px_oki at hok2
    simp only [Bool.and_eq_true, decide_eq_true_eq] at hok2
    obtain ⟨rfl, hj⟩ := hok2
    simp only [px_st] at h
    split at h
    · exact px_x_astore_n C hd hj (hgo _ _ _ _ h)
    · exact h.elim
  case astore j =>
    have hok2 := hok
    unfold px_oki at hok2
    simp only [Bool.and_eq_true, decide_eq_true_eq] at hok2
    obtain ⟨rfl, hj⟩ := hok2
    simp only [px_st] at h
    split at h
    · exact px_x_astore C hd hj (hgo _ _ _ _ h)
    · exact h.elim
  case lstore_n j =>
    have hok2 := hok
    unfold px_oki at hok2
    simp only [Bool.and_eq_true, decide_eq_true_eq] at hok2
    obtain ⟨⟨rfl, hj⟩, hj2⟩ := hok2
    simp only [px_st] at h
    split at h
    · exact px_x_lstore_n C hd hj hj2 (hgo _ _ _ _ h)
    · exact h.elim
  case lstore j =>
    have hok2 := hok
    unfold px_oki at hok2
    simp only [Bool.and_eq_true, decide_eq_true_eq] at hok2
    obtain ⟨⟨rfl, hj⟩, hj2⟩ := hok2
    simp only [px_st] at h
    split at h
    · exact px_x_lstore C hd hj hj2 (hgo _ _ _ _ h)
    · exact h.elim
  case iinc j n =>
    have hok2 := hok
    unfold px_oki at hok2
    simp only [Bool.and_eq_true, decide_eq_true_eq] at hok2
    obtain ⟨rfl, hj⟩ := hok2
    simp only [px_st] at h
    split at h
    · rename_i hx
      exact px_x_iinc C hd hj hx (hgo _ _ _ _ h)
    · exact h.elim
  case dup =>
    have e1 : len = 1 := of_decide_eq_true hok
    subst e1
    simp only [px_st] at h
    split at h
    · split at h
      · rename_i hv
        exact px_x_dup C hd hv (hgo _ _ _ _ h)
      · exact h.elim
    · exact h.elim
  case pop =>
    have e1 : len = 1 := of_decide_eq_true hok
    subst e1
    simp only [px_st] at h
    split at h
    · split at h
      · rename_i hv
        exact px_x_pop C hd hv (hgo _ _ _ _ h)
      · exact h.elim
    · exact h.elim
  case dup2 =>
    have e1 : len = 1 := of_decide_eq_true hok
    subst e1
    simp only [px_st] at h
    split at h
    · exact px_x_dup2l C hd (hgo _ _ _ _ h)
    · split at h
      · rename_i hv
        exact px_x_dup2 C hd hv.1 hv.2 (hgo _ _ _ _ h)
      · exact h.elim
    · exact h.elim
  case ldc i =>
    have e1 : len = 2 := of_decide_eq_true hok
    subst e1
    simp only [px_st] at h
    split at h
    · rename_i hf
      exact px_x_ldc C hd hf (hgo _ _ _ _ h)
    · split at h
      · rename_i hf
        exact px_x_ldcs C hd hf h.1 (hgo _ _ _ _ h.2)
      · exact h.elim
  case ldc_w i =>
    have e1 : len = 3 := of_decide_eq_true hok
    subst e1
    simp only [px_st] at h
    split at h
    · rename_i hf
      exact px_x_ldcw C hd hf (hgo _ _ _ _ h)
    · exact h.elim
  case ldc2_w i =>
    have e1 : len = 3 := of_decide_eq_true hok
    subst e1
    simp only [px_st] at h
    split at h
    · rename_i hf
      exact px_x_ldc2 C hd hf (hgo _ _ _ _ h)
    · exact h.elim
  case if_icmp cd off =>
    have hok2 := hok
    unfold px_oki at hok2
    simp only [Bool.and_eq_true, decide_eq_true_eq] at hok2
    obtain ⟨rfl, ho⟩ := hok2
    simp only [px_st] at h
    split at h
    · refine px_x_icmp C hd ho ?_
      cases cd <;> exact ⟨fun q => hgo _ _ _ _ (h.1 q), fun q => hgo _ _ _ _ (h.2 q)⟩
    · exact h.elim
  case ifCond cd off =>
    have hok2 := hok
    unfold px_oki at hok2
    simp only [Bool.and_eq_true, decide_eq_true_eq] at hok2
    obtain ⟨rfl, ho⟩ := hok2
    simp only [px_st] at h
    split at h
    · refine px_x_if C hd ho ?_
      cases cd <;> exact ⟨fun q => hgo _ _ _ _ (h.1 q), fun q => hgo _ _ _ _ (h.2 q)⟩
    · exact h.elim
  case goto off =>
    have hok2 := hok
    unfold px_oki at hok2
    simp only [Bool.and_eq_true, decide_eq_true_eq] at hok2
    obtain ⟨rfl, ho⟩ := hok2
    simp only [px_st] at h
    exact px_x_goto C hd ho (hgo _ _ _ _ h)
  case tableswitch d lo hi offs =>
    have hok2 := hok
    unfold px_oki at hok2
    simp only [Bool.and_eq_true, decide_eq_true_eq, List.all_eq_true] at hok2
    obtain ⟨⟨ho, ho2⟩, ho3⟩ := hok2
    simp only [px_st] at h
    split at h
    · exact px_x_switch C hd ho ho2 ho3 (hgo _ _ _ _ h)
    · exact h.elim
  case getfield i =>
    have e1 : len = 3 := of_decide_eq_true hok
    subst e1
    simp only [px_st] at h
    split at h
    · split at h
      · rename_i hf
        exact px_x_getf C hd hf h.1 (hgo _ _ _ _ h.2)
      · exact h.elim
    · exact h.elim
  case putfield i =>
    have hok2 := hok
    unfold px_oki at hok2
    simp only [Bool.and_eq_true, decide_eq_true_eq] at hok2
    obtain ⟨rfl, hfn⟩ := hok2
    simp only [px_st] at h
    split at h
    · rename_i hf
      rw [hf] at hfn
      simp only [Bool.not_eq_true'] at hfn
      split at h
      · rename_i hc
        split at h
        · exact px_x_puti C hd hf hfn hc h.1 (hgo _ _ _ _ h.2)
        · exact h.elim
      · rename_i hc
        split at h
        · exact px_x_putl C hd hf hfn hc h.1 (hgo _ _ _ _ h.2)
        · exact h.elim
      · rename_i hc
        split at h
        · exact px_x_putz C hd hf hfn hc h.2.1 h.1 (hgo _ _ _ _ h.2.2)
        · exact h.elim
      · exact h.elim
    · exact h.elim
  case getstatic i =>
    have e1 : len = 3 := of_decide_eq_true hok
    subst e1
    simp only [px_st] at h
    split at h
    · rename_i hf
      exact px_x_gets C hd hf h.1 (Or.inl ⟨rfl, rfl⟩) (hgo _ _ _ _ h.2)
    · rename_i hf
      exact px_x_gets C hd hf h.1 (Or.inr (Or.inl ⟨rfl, rfl⟩)) (hgo _ _ _ _ h.2)
    · rename_i hf
      exact px_x_gets C hd hf h.1 (Or.inr (Or.inr (Or.inl ⟨rfl, rfl⟩))) (hgo _ _ _ _ h.2)
    · rename_i hf
      exact px_x_gets C hd hf h.1 (Or.inr (Or.inr (Or.inr ⟨rfl, rfl⟩))) (hgo _ _ _ _ h.2)
    · exact h.elim
  case iaload =>
    have e1 : len = 1 := of_decide_eq_true hok
    subst e1
    simp only [px_st] at h
    split at h
    · exact px_x_iald C hd h.1 (hgo _ _ _ _ h.2)
    · exact h.elim
  case baload =>
    have e1 : len = 1 := of_decide_eq_true hok
    subst e1
    simp only [px_st] at h
    split at h
    · exact px_x_bald C hd h.1 (hgo _ _ _ _ h.2)
    · exact h.elim
  case laload =>
    have e1 : len = 1 := of_decide_eq_true hok
    subst e1
    simp only [px_st] at h
    split at h
    · exact px_x_lald C hd h.1 (hgo _ _ _ _ h.2)
    · exact h.elim
  case aaload =>
    have e1 : len = 1 := of_decide_eq_true hok
    subst e1
    simp only [px_st] at h
    split at h
    · exact px_x_aald C hd h.1 (hgo _ _ _ _ h.2)
    · exact h.elim
  case iastore =>
    have e1 : len = 1 := of_decide_eq_true hok
    subst e1
    simp only [px_st] at h
    split at h
    · exact px_x_iast C hd h.1 (hgo _ _ _ _ h.2)
    · exact h.elim
  case lastore =>
    have e1 : len = 1 := of_decide_eq_true hok
    subst e1
    simp only [px_st] at h
    split at h
    · exact px_x_last C hd h.1 (hgo _ _ _ _ h.2)
    · exact h.elim
  case bastore =>
    have e1 : len = 1 := of_decide_eq_true hok
    subst e1
    simp only [px_st] at h
    split at h
    · rcases h with h | h
      · exact px_x_bast C hd h.1 (hgo _ _ _ _ h.2)
      · exact px_x_zast C hd h.1 (hgo _ _ _ _ h.2)
    · exact h.elim
  case arraylength =>
    have e1 : len = 1 := of_decide_eq_true hok
    subst e1
    simp only [px_st] at h
    split at h
    · rcases h with ⟨t, n, h1, h2, h3⟩ | ⟨h1, h3⟩
      · exact px_x_alen C hd h1 h2 (hgo _ _ _ _ h3)
      · exact px_x_slen C hd h1 (hgo _ _ _ _ h3)
    · exact h.elim
  case invokevirtual i =>
    have e1 : len = 3 := of_decide_eq_true hok
    subst e1
    simp only [px_st] at h
    split at h
    · rename_i y pl hf
      obtain ⟨h1, ho, rr, M1, h4, h5⟩ := h
      have hy : y < px_LAW := px_y_lt hf
      refine px_x_callV C hd hf h1 ho (hcal y st M _ h4 hy (px_cok_p ho)) (fun r M2 hq => ?_)
      obtain ⟨rfl, rfl⟩ := hq
      exact hgo _ _ _ _ h5
    · exact h.elim
  case invokestatic i =>
    have e1 : len = 3 := of_decide_eq_true hok
    subst e1
    simp only [px_st] at h
    split at h
    · rename_i y pl hf
      obtain ⟨ho, rr, M1, h4, h5⟩ := h
      have hy : y < px_LAW := px_y_lt hf
      refine px_x_callS C hd hf ho (hcal y st M _ h4 hy (px_cok_p ho)) (fun r M2 hq => ?_)
      obtain ⟨rfl, rfl⟩ := hq
      exact hgo _ _ _ _ h5
    · rename_i y pl hf
      obtain ⟨hg, ho, rr, M1, h4, h5⟩ := h
      have hy : y < px_LAW := px_y_lt hf
      refine px_x_callN C hd hf hg ho (hcal y st M _ h4 hy (px_cok_p ho)) (fun r M2 hq => ?_)
      obtain ⟨rfl, rfl⟩ := hq
      exact hgo _ _ _ _ h5
    · rename_i y pl hf
      split at h
      · obtain ⟨h1, h2, h3, h4 | h4⟩ := h
        · exact px_x_copyi C hd hf h1 h2 h3 h4.1 (hgo _ _ _ _ h4.2)
        · exact px_x_copyl C hd hf h1 h2 h3 h4.1 (hgo _ _ _ _ h4.2)
      · exact h.elim
    · rename_i hf
      split at h
      · exact px_x_mmax C hd hf h.1 h.2.1 h.2.2.1 (hgo _ _ _ _ h.2.2.2)
      · exact h.elim
    · rename_i hf
      split at h
      · exact px_x_mmin C hd hf h.1 h.2.1 h.2.2.1 (hgo _ _ _ _ h.2.2.2)
      · exact h.elim
    · rename_i hf
      split at h
      · exact px_x_mabs C hd hf h.1 h.2.1 h.2.2.1 (hgo _ _ _ _ h.2.2.2)
      · exact h.elim
    · exact h.elim
  case ireturn =>
    have e1 : len = 1 := of_decide_eq_true hok
    subst e1
    simp only [px_st] at h
    split at h
    · intro H locs jls hP hD hS hR hl hw
      exact hrt _ M pc jls H locs h.2 hP hD hS hR (Or.inl ⟨_, rfl, hd, h.1⟩)
    · exact h.elim
  case lreturn =>
    have e1 : len = 1 := of_decide_eq_true hok
    subst e1
    simp only [px_st] at h
    split at h
    · intro H locs jls hP hD hS hR hl hw
      exact hrt _ M pc jls H locs h.2 hP hD hS hR (Or.inr (Or.inl ⟨_, rfl, hd, h.1⟩))
    · exact h.elim
  case areturn =>
    have e1 : len = 1 := of_decide_eq_true hok
    subst e1
    simp only [px_st] at h
    split at h
    · intro H locs jls hP hD hS hR hl hw
      exact hrt _ M pc jls H locs h.2.2 hP hD hS hR (Or.inr (Or.inr (Or.inl ⟨_, rfl, hd, h.1, h.2.1⟩)))
    · exact h.elim
  case return_ =>
    have e1 : len = 1 := of_decide_eq_true hok
    subst e1
    simp only [px_st] at h
    split at h
    · intro H locs jls hP hD hS hR hl hw
      exact hrt _ M pc jls H locs h.2 hP hD hS hR (Or.inr (Or.inr (Or.inr ⟨rfl, hd, h.1⟩)))
    · exact h.elim
  all_goals exact False.elim h
end PXV
