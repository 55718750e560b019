/-! back; rows of numbers -/
section K54
variable {M M1 M2 : px_Mem} {Q : px_Po} {y : iv_Y}
theorem pr_147 {x : Int32} : PR 147 [some (.ref 0), some (.int x)] 179 [some (.ref 56), some (.int x), none] := by
  intro M Q I h
  have I2 := I
  obtain ⟨y, C, R, V⟩ := I2
  have e2 : (3 : Int32).toInt = 3 := rfl
  have bad : rg x 0 2 = false → ∀ v : Int32, v = -2 → Q (some (.int v)) M := by
    intro hx v hv
    subst hv
    refine h _ M lw_rf (fun Q' h' => sg_179_0 (sr_175i (a := 0) (b := 2) (by omega) (by omega) ?_))
    have hx2 : rg x (0 : Nat) (2 : Nat) = false := hx
    rw [hx2]
    exact sg_179_9 (fun _ => h' M I lw_rf) (fun c => absurd rfl c) (fun c => absurd rfl c) (fun c => absurd rfl c)
  by_cases c0 : x < 0
  · have c1 := c0
    rw [fa_lt, Int32.toInt_zero] at c1
    exact sg_147_0 (fun _ => bad (rg_f (Or.inl c1)) _ rfl) (fun q => absurd c0 q) (fun q => absurd c0 q) (fun q => absurd c0 q) (fun q => absurd c0 q) (fun q => absurd c0 q)
  by_cases c3 : x < 3
  · obtain ⟨k, hk, rfl⟩ := nI_of c0
    have hk3 : k < 3 := by simp (disch := omega) only [in_lt, in_le, in_eq, in_add, in_mul, in_sb, in_cl, in_bz, in_bo, in_mo, not_true_eq_false, not_false_eq_true, il_0, il_1, il_2, il_3, il_4, il_5, il_6, il_7, il_8, il_9, il_10, il_11, il_12, il_13, il_14, il_15, il_16, il_31] at c3; exact c3
    have hx2 : rg (nI k) (0 : Nat) (2 : Nat) = true := by rw [rg_n (by omega)]; exact decide_eq_true (by omega)
    have hsh : px_sh 0 (px_rf 8 (nI k).toNatClampNeg) = some (.inl 7) := by rw [in_cl (by omega), rf8 hk3]; exact sh8 hk3
    have hrf : px_rf 8 (nI k).toNatClampNeg = 9 + 2 * k := by rw [in_cl (by omega), rf8 hk3]
    rcases V.2.2.1 k hk3 with ⟨w1, w2⟩ | ⟨w1, w2, z, w3, w4, w5⟩
    · refine sg_147_0 (fun q => absurd q c0) (fun _ _ => me_vin hk3 (by omega)) (fun _ _ => hsh) (fun _ _ _ => ?_) (fun _ _ q => absurd (by rw [hrf]; exact w1) q) (fun _ q => absurd c3 q)
      refine h _ M lw_rf (fun Q' h' => sg_179_0 (sr_175i (a := 0) (b := 2) (by omega) (by omega) ?_))
      rw [hx2]
      refine sg_179_9 (fun c => absurd c (by decide)) (fun _ => me_vin hk3 (by omega)) (fun _ _ => h' M I lw_rf) (fun _ q => ?_)
      rw [in_cl (by omega), w2] at q
      exact absurd rfl q
    · have hz := iv_yn w3
      have fin : px_T 0 57 0 [some (.ref 4), some (.ref (px_rf 8 (nI k).toNatClampNeg))] [] M (fun r M1 => px_T 0 147 40 [some (.ref 0), some (.int (nI k))] (r.toList ++ []) M1 Q) := by
        rw [hrf]
        refine sp_57 (Or.inl rfl) (isS hk3) (by omega) (fun M1 k1 k2 k3 k4 => sg_147_40 (sc_163 (fun M2 j1 j2 => sg_147_44 ?_)))
        refine h _ M2 ⟨by rw [(j1 999 (by omega)).1]; exact k1 999 (by omega) (by omega), by rw [(j1 1000 (by omega)).1]; exact k1 1000 (by omega) (by omega)⟩ (fun Q' h' => sg_179_0 (sr_175i (a := 0) (b := 2) (by omega) (by omega) ?_))
        rw [hx2]
        have m2 : ∀ a, (a < 28 ∨ 39 ≤ a) → a ≠ 4 → a ≠ 5 → M2.1 a = M.1 a := fun a h1 h2 h3 => by rw [(j1 a h1).1]; exact k1 a h2 (by omega)
        have m3 : ∀ a, (a < 28 ∨ 39 ≤ a) → M2.2 a = M.2 a := fun a h1 => by rw [(j1 a h1).2, k2]
        refine sg_179_9 (fun c => absurd c (by decide)) (fun _ => me_vin hk3 (by omega)) (fun _ q => ?_) (fun _ _ => ?_)
        · rw [in_cl (by omega), m2 59 (by omega) (by omega) (by omega), w2] at q
          exact absurd q (by decide)
        have hl : ∀ i, i ≤ 285 → px_T 0 179 29 [some (.ref 56), some (.int (nI k)), some (.int (nI i))] [] (px_aI M2 57 (va_cpy (M2.1 58) (M2.1 57) (285 * k) 0 i)) Q' := by
          refine lp_dn ?_ (fun i hi ih => ?_)
          · refine sg_179_29 (fun _ => ?_) (fun c => absurd (nI_le (a := 285) (b := 285) (by omega) (by omega)) c) (fun c => absurd (nI_le (a := 285) (b := 285) (by omega) (by omega)) c) (fun c => absurd (nI_le (a := 285) (b := 285) (by omega) (by omega)) c)
            refine h' _ ⟨z, ⟨w3, ?_, ⟨0, Nat.zero_le _, ?_⟩, ?_, ?_⟩, ⟨w3, ?_⟩, ?_⟩ ?_
            · refine iv_sc_fr (k3 z w4 hz) ?_ ?_
              · rw [me_Ao (by omega)]; exact (j1 4 (by omega)).1
              · rw [me_Ao (by omega)]; exact (j1 5 (by omega)).1
            · exact fl_at_w (j2 z).1 (fun a ha => by simp (disch := omega) only [me_II, me_Ii, me_Io, me_I2, me_L1, me_Li, me_LL, me_Lo, me_As, me_Ao, me_A2, me_Bs, me_Bo, me_B1])
            · obtain ⟨u, u1, u2, u3⟩ := (j2 z).2
              refine ⟨u, u1, by simp (disch := omega) only [me_II, me_Ii, me_Io, me_I2, me_L1, me_Li, me_LL, me_Lo, me_As, me_Ao, me_A2, me_Bs, me_Bo, me_B1]; exact u2, fun t ht => ⟨fun i hi => (u3 t ht).1 i hi, ?_⟩⟩
              simp (disch := omega) only [me_II, me_Ii, me_Io, me_I2, me_L1, me_Li, me_LL, me_Lo, me_As, me_Ao, me_A2, me_Bs, me_Bo, me_B1]
              exact (u3 t ht).2
            · exact iv_ro_fr C.2.2.2.2 (fun a ha => by rw [me_Ao (by omega)]; exact m2 a (by omega) (by omega) (by omega))
            · have e58 : M2.1 58 = M.1 58 := m2 58 (by omega) (by omega) (by omega)
              have g : ∀ u, u < 285 → (px_aI M2 57 (va_cpy (M2.1 58) (M2.1 57) (285 * k) 0 285)).1 57 u = M.1 58 (285 * k + u) := by
                intro u hu
                rw [me_As, pk_cpy_in (by omega) (by omega), e58, Nat.sub_zero]
              obtain ⟨s1, s2, s3, s4, s5, s6⟩ := w5
              refine ⟨?_, ?_, ?_, ?_, ?_, fun e he => ⟨?_, ?_, ?_, ?_⟩⟩
              · rw [g 0 (by omega)]; exact s1
              · rw [g (0 + 1) (by omega)]; exact s2
              · rw [g (0 + 2) (by omega)]; exact s3
              · rw [g (0 + 3) (by omega)]; exact s4
              · rw [g (0 + 4) (by omega)]; exact s5
              · rw [g _ (by omega), show 285 * k + (0 + 5 + 4 * e) = 285 * k + 5 + 4 * e by omega]; exact (s6 e he).1
              · rw [g _ (by omega), show 285 * k + (0 + 5 + 4 * e + 1) = 285 * k + 5 + 4 * e + 1 by omega]; exact (s6 e he).2.1
              · rw [g _ (by omega), show 285 * k + (0 + 5 + 4 * e + 2) = 285 * k + 5 + 4 * e + 2 by omega]; exact (s6 e he).2.2.1
              · rw [g _ (by omega), show 285 * k + (0 + 5 + 4 * e + 3) = 285 * k + 5 + 4 * e + 3 by omega]; exact (s6 e he).2.2.2
            · refine ivr_f2 V (fun a ha => ⟨?_, ?_⟩) (fun a ha => ?_) ?_ (fun i hi => ?_)
              · rw [me_Ao (by omega)]; exact m2 a (by omega) (by omega) (by omega)
              · rw [me_A2]; exact m3 a (by omega)
              · rw [me_Ao (by omega)]; exact m2 a (by omega) (by omega) (by omega)
              · rw [me_A2]; exact m3 90 (by omega)
              · rw [me_Ao (by omega), m2 56 (by omega) (by omega) (by omega)]
            · exact ⟨by rw [me_Ao (by omega)]; exact m2 999 (by omega) (by omega) (by omega), by rw [me_Ao (by omega)]; exact m2 1000 (by omega) (by omega) (by omega)⟩
          · refine sg_179_29 (fun c1 => by exfalso; (try simp (disch := omega) only [in_lt, in_le, in_eq, in_add, in_mul, in_sb, in_cl, in_bz, in_bo, in_mo, not_true_eq_false, not_false_eq_true, il_0, il_1, il_2, il_3, il_4, il_5, il_6, il_7, il_8, il_9, il_10, il_11, il_12, il_13, il_14, il_15, il_16, il_31, il_285] at c1) <;> omega) (fun c1 => by (try simp (disch := omega) only [in_lt, in_le, in_eq, in_add, in_mul, in_sb, in_cl, in_bz, in_bo, in_mo, not_true_eq_false, not_false_eq_true, il_0, il_1, il_2, il_3, il_4, il_5, il_6, il_7, il_8, il_9, il_10, il_11, il_12, il_13, il_14, il_15, il_16, il_31, il_285] at c1 ⊢) <;> exact me_vin (by omega) (by omega)) (fun c1 => by (try simp (disch := omega) only [in_lt, in_le, in_eq, in_add, in_mul, in_sb, in_cl, in_bz, in_bo, in_mo, not_true_eq_false, not_false_eq_true, il_0, il_1, il_2, il_3, il_4, il_5, il_6, il_7, il_8, il_9, il_10, il_11, il_12, il_13, il_14, il_15, il_16, il_31, il_285] at c1 ⊢) <;> exact me_vin (by omega) (by omega)) (fun c1 => ?_)
            rw [il_285, in_mul, in_add, in_cl (by omega), in_cl (by omega), in_a1]
            simp (disch := omega) only [me_II, me_Ii, me_Io, me_I2, me_L1, me_Li, me_LL, me_Lo, me_As, me_Ao, me_A2, me_Bs, me_Bo, me_B1]
            rw [me_AI]
            have e := cp_g (M2.1 58) (M2.1 57) (285 * k) 0 i
            rw [Nat.zero_add] at e
            rw [e]
            exact ih
        have h0 := hl 0 (Nat.zero_le _)
        rw [cp_g0, me_Aid] at h0
        exact h0
      refine sg_147_0 (fun q => absurd q c0) (fun _ _ => me_vin hk3 (by omega)) (fun _ _ => hsh) (fun _ _ q => ?_) (fun _ _ _ => fin) (fun _ q => absurd c3 q)
      rw [hrf, w1] at q
      exact absurd q (by decide)
  · have c4 := c3
    rw [fa_lt, e2] at c4
    exact sg_147_0 (fun q => absurd q c0) (fun _ q => absurd q c3) (fun _ q => absurd q c3) (fun _ q => absurd q c3) (fun _ q => absurd q c3) (fun _ _ => bad (rg_f (Or.inr (by omega))) _ rfl)
theorem sr_327 {x : Int32} (h : Q (some (.int (in_b (rg x 0 3)))) M) : px_T 0 327 0 [some (.int x)] [] M Q :=
  sg_327_0 (sr_175i (a := 0) (b := 3) (by omega) (by omega) (sg_327_9 (in_b01 _) h))
/-- rows are changed on both sides -/
theorem IV_rows (I : IV M) (h1 : ∀ a, (a < 16 ∨ 24 ≤ a) → a ≠ 88 → a ≠ 89 → M1.1 a = M.1 a) (h2 : ∀ a, (a < 16 ∨ 24 ≤ a) → a ≠ 90 → a ≠ 91 → M1.2 a = M.2 a) (h3 : iv_rows M1) : IV M1 ∧ lw M M1 := by
  obtain ⟨y, C, R, ⟨t, v1⟩, v2, v3, v4⟩ := I
  refine ⟨⟨y, ic_fr C (fun a ha => h1 a (by omega) (by omega) (by omega)) (fun a ha => h2 a (by omega) (by omega) (by omega)), ⟨R.1, iv_sr_fr R.2 (h1 57 (by omega) (by omega) (by omega))⟩, ⟨t, iv_tape_fr v1 (h1 1 (by omega) (by omega) (by omega)) (h1 2 (by omega) (by omega) (by omega)) ?_ (h1 60 (by omega) (by omega) (by omega))⟩, iv_flt_fr v2 (h1 3 (by omega) (by omega) (by omega)) ?_ ?_, iv_img_fr v3 (fun a h4 h5 => h1 a (by omega) (by omega) (by omega)) (h1 58 (by omega) (by omega) (by omega)) (h1 59 (by omega) (by omega) (by omega)), h3⟩, h1 999 (by omega) (by omega) (by omega), h1 1000 (by omega) (by omega) (by omega)⟩
  · rw [h1 56 (by omega) (by omega) (by omega)]
  · rw [h1 56 (by omega) (by omega) (by omega)]
  · rw [h1 56 (by omega) (by omega) (by omega)]
theorem pr_148 {x w n : Int32} : PR 148 [some (.ref 0), some (.int x), some (.int w), some (.int n)] 329 [some (.ref 56), some (.int x), some (.int w), some (.int n), none] := by
  intro M Q I h
  have e60 : (60 : Int32).toInt = 60 := rfl
  have e4 : (4 : Int32).toInt = 4 := rfl
  have hV : iv_rows M := by obtain ⟨y, C, R, V⟩ := I; exact V.2.2.2
  refine sg_148_0 (sc_156 (fun k hk k4 g => ?_) (fun g => ?_))
  · subst hk
    have hw : ∀ N : px_Mem, ∀ Q' : px_Po, px_T 0 175 0 [some (.long w.toInt64), none, some (.long (lN 0)), none, some (.long (lN 3)), none] [] N (fun r M1 => px_T 0 329 16 [some (.ref 56), some (.int (nI k)), some (.int w), some (.int n), none] (r.toList ++ []) M1 Q') → px_T 0 329 0 [some (.ref 56), some (.int (nI k)), some (.int w), some (.int n), none] [] N Q' := by
      intro N Q' g2
      refine sg_329_0 (sr_327 ?_)
      rw [g]
      exact sg_329_4 (fun c => absurd c (by decide)) (fun _ => g2)
    have wbad : rg w 0 3 = false → Q (some (.int (-2))) M := by
      intro gw
      refine h _ M lw_rf (fun Q' h' => hw M Q' (sr_175i (a := 0) (b := 3) (by omega) (by omega) ?_))
      have gw2 : rg w (0 : Nat) (3 : Nat) = false := gw
      rw [gw2]
      exact sg_329_16 (fun _ => h' M I lw_rf) (fun c => absurd rfl c) (fun c => absurd rfl c) (fun c => absurd rfl c) (fun c => absurd rfl c)
    have wok : ∀ N : px_Mem, ∀ Q' : px_Po, rg w 0 3 = true → px_T 0 329 16 [some (.ref 56), some (.int (nI k)), some (.int w), some (.int n), none] [.int 1] N Q' → px_T 0 329 0 [some (.ref 56), some (.int (nI k)), some (.int w), some (.int n), none] [] N Q' := by
      intro N Q' gw g2
      refine hw N Q' (sr_175i (a := 0) (b := 3) (by omega) (by omega) ?_)
      have gw2 : rg w (0 : Nat) (3 : Nat) = true := gw
      rw [gw2]
      exact g2
    refine sg_148_4 (fun _ c => wbad ?_) (fun _ c d => wbad ?_) (fun _ c d e f => me_vin k4 (by omega)) (fun _ c d e f => ?_) (fun _ c d e f => ?_) (fun _ c d e f => ?_) (fun _ c d e => ?_) (fun c => absurd rfl c)
    · rw [fa_lt, Int32.toInt_zero] at c
      exact rg_f (Or.inl c)
    · rw [fa_le, e4] at d
      exact rg_f (Or.inr (by omega))
    · rw [in_cl (by omega), rf15 k4]
      have f0 : ¬ n < 0 := fun q => by rw [fa_lt] at q; rw [fa_le] at f; omega
      obtain ⟨m, hm, rfl⟩ := nI_of f0
      obtain ⟨u, hu, rfl⟩ := nI_of c
      have m60 : m ≤ 60 := by simp (disch := omega) only [in_lt, in_le, in_eq, in_add, in_mul, in_sb, in_cl, in_bz, in_bo, in_mo, not_true_eq_false, not_false_eq_true, il_0, il_1, il_2, il_3, il_4, il_5, il_6, il_7, il_8, il_9, il_10, il_11, il_12, il_13, il_14, il_15, il_16, il_31, il_60] at e; exact e
      have u3 : u < 4 := by simp (disch := omega) only [in_lt, in_le, in_eq, in_add, in_mul, in_sb, in_cl, in_bz, in_bo, in_mo, not_true_eq_false, not_false_eq_true, il_0, il_1, il_2, il_3, il_4, il_5, il_6, il_7, il_8, il_9, il_10, il_11, il_12, il_13, il_14, il_15, il_16, il_31] at d; omega
      refine sg_36_0 (isR k4) (sp_339 (sh17 k4) (by omega) (sg_36_8 (isR k4) (sg_148_43 ?_)))
      generalize hN : px_wI (px_wI (px_wI (px_aL M (16 + 2 * k + 1) (fa_fill (fun _ => 0) (M.2 (16 + 2 * k + 1)) 60)) (16 + 2 * k) 1 1) (16 + 2 * k) 2 (nI u)) (16 + 2 * k) 3 (nI m) = N
      refine h _ N ⟨by rw [← hN]; simp (disch := omega) only [me_II, me_Ii, me_Io, me_I2, me_L1, me_Li, me_LL, me_Lo, me_As, me_Ao, me_A2, me_Bs, me_Bo, me_B1], by rw [← hN]; simp (disch := omega) only [me_II, me_Ii, me_Io, me_I2, me_L1, me_Li, me_LL, me_Lo, me_As, me_Ao, me_A2, me_Bs, me_Bo, me_B1]⟩ (fun Q' h' => wok N Q' (by rw [rg_n hu]; exact decide_eq_true (by omega)) ?_)
      have n1 : ∀ a, a ≠ 16 + 2 * k → N.1 a = M.1 a := by
        intro a ha
        subst hN
        simp (disch := omega) only [me_II, me_Ii, me_Io, me_I2, me_L1, me_Li, me_LL, me_Lo, me_As, me_Ao, me_A2, me_Bs, me_Bo, me_B1]
      have n2 : ∀ a, a ≠ 17 + 2 * k → N.2 a = M.2 a := by
        intro a ha
        subst hN
        simp (disch := omega) only [me_II, me_Ii, me_Io, me_I2, me_L1, me_Li, me_LL, me_Lo, me_As, me_Ao, me_A2, me_Bs, me_Bo, me_B1]
      have n3 : ∀ i, i < 60 → N.2 (17 + 2 * k) i = 0 := by
        intro i hi
        subst hN
        rw [show 17 + 2 * k = 16 + 2 * k + 1 by omega]
        simp (disch := omega) only [me_II, me_Ii, me_Io, me_I2, me_L1, me_Li, me_LL, me_Lo, me_As, me_Ao, me_A2, me_Bs, me_Bo, me_B1]
        rw [fa_fill_in hi]
      have n4 : N.1 (16 + 2 * k) 1 = 1 ∧ N.1 (16 + 2 * k) 2 = nI u ∧ N.1 (16 + 2 * k) 3 = nI m := by
        subst hN
        refine ⟨?_, ?_, ?_⟩ <;> simp (disch := omega) only [me_II, me_Ii, me_Io, me_I2, me_L1, me_Li, me_LL, me_Lo, me_As, me_Ao, me_A2, me_Bs, me_Bo, me_B1]
      refine sg_329_16 (fun q => absurd q (by decide)) (fun _ _ _ => me_vin k4 (by omega)) (fun _ _ _ => ?_) (fun _ _ q => absurd f q) (fun _ q => absurd e q)
      rw [in_cl (by omega)]
      generalize hN2 : px_wI (px_wI N 88 k (nI m)) 89 k (nI u) = N2
      have hl : ∀ i, i ≤ 60 → px_T 0 329 52 [some (.ref 56), some (.int (nI k)), some (.int (nI u)), some (.int (nI m)), some (.int (nI i))] [] (px_aL N2 90 (va_cpy (fun _ => 0) (N2.2 90) 0 (60 * k) i)) Q' := by
        refine lp_dn ?_ (fun i hi ih => ?_)
        · refine sg_329_52 (fun c1 => ?_) (fun c1 => by exfalso; (try simp (disch := omega) only [in_lt, in_le, in_eq, in_add, in_mul, in_sb, in_cl, in_bz, in_bo, in_mo, not_true_eq_false, not_false_eq_true, il_0, il_1, il_2, il_3, il_4, il_5, il_6, il_7, il_8, il_9, il_10, il_11, il_12, il_13, il_14, il_15, il_16, il_31, il_60] at c1) <;> omega) (fun c1 => by exfalso; (try simp (disch := omega) only [in_lt, in_le, in_eq, in_add, in_mul, in_sb, in_cl, in_bz, in_bo, in_mo, not_true_eq_false, not_false_eq_true, il_0, il_1, il_2, il_3, il_4, il_5, il_6, il_7, il_8, il_9, il_10, il_11, il_12, il_13, il_14, il_15, il_16, il_31, il_60] at c1) <;> omega)
          have J := IV_rows (M1 := px_aL N2 90 (va_cpy (fun _ => 0) (N2.2 90) 0 (60 * k) 60)) I (fun a h1 h2 h3 => ?_) (fun a h1 h2 h3 => ?_) (fun j hj => ?_)
          · exact h' _ J.1 J.2
          · subst hN2
            simp (disch := omega) only [me_II, me_Ii, me_Io, me_I2, me_L1, me_Li, me_LL, me_Lo, me_As, me_Ao, me_A2, me_Bs, me_Bo, me_B1]
            exact n1 a (by omega)
          · subst hN2
            simp (disch := omega) only [me_II, me_Ii, me_Io, me_I2, me_L1, me_Li, me_LL, me_Lo, me_As, me_Ao, me_A2, me_Bs, me_Bo, me_B1]
            exact n2 a (by omega)
          · subst hN2
            by_cases hjk : j = k
            · subst hjk
              refine ⟨Or.inr ⟨?_, m, u, m60, by omega, ?_, ?_, ?_, ?_⟩, fun i hi => ?_⟩
              · simp (disch := omega) only [me_II, me_Ii, me_Io, me_I2, me_L1, me_Li, me_LL, me_Lo, me_As, me_Ao, me_A2, me_Bs, me_Bo, me_B1]; exact n4.1
              · simp (disch := omega) only [me_II, me_Ii, me_Io, me_I2, me_L1, me_Li, me_LL, me_Lo, me_As, me_Ao, me_A2, me_Bs, me_Bo, me_B1]; exact n4.2.2
              · simp (disch := omega) only [me_II, me_Ii, me_Io, me_I2, me_L1, me_Li, me_LL, me_Lo, me_As, me_Ao, me_A2, me_Bs, me_Bo, me_B1]
              · simp (disch := omega) only [me_II, me_Ii, me_Io, me_I2, me_L1, me_Li, me_LL, me_Lo, me_As, me_Ao, me_A2, me_Bs, me_Bo, me_B1]; exact n4.2.1
              · simp (disch := omega) only [me_II, me_Ii, me_Io, me_I2, me_L1, me_Li, me_LL, me_Lo, me_As, me_Ao, me_A2, me_Bs, me_Bo, me_B1]
              · simp (disch := omega) only [me_II, me_Ii, me_Io, me_I2, me_L1, me_Li, me_LL, me_Lo, me_As, me_Ao, me_A2, me_Bs, me_Bo, me_B1]
                rw [n3 i hi, pk_cpy_in (by omega) (by omega)]
            · obtain ⟨w1, w2⟩ := hV j hj
              refine ⟨?_, fun i hi => ?_⟩
              · simp (disch := omega) only [me_II, me_Ii, me_Io, me_I2, me_L1, me_Li, me_LL, me_Lo, me_As, me_Ao, me_A2, me_Bs, me_Bo, me_B1, n1 (16 + 2 * j) (by omega), n1 88 (by omega), n1 89 (by omega)]
                exact w1
              · simp (disch := omega) only [me_II, me_Ii, me_Io, me_I2, me_L1, me_Li, me_LL, me_Lo, me_As, me_Ao, me_A2, me_Bs, me_Bo, me_B1, n2 (17 + 2 * j) (by omega)]
                rw [pk_cpy_out (by omega), n2 90 (by omega)]
                exact w2 i hi
        · refine sg_329_52 (fun c1 => by exfalso; (try simp (disch := omega) only [in_lt, in_le, in_eq, in_add, in_mul, in_sb, in_cl, in_bz, in_bo, in_mo, not_true_eq_false, not_false_eq_true, il_0, il_1, il_2, il_3, il_4, il_5, il_6, il_7, il_8, il_9, il_10, il_11, il_12, il_13, il_14, il_15, il_16, il_31, il_60] at c1) <;> omega) (fun c1 => by (try simp (disch := omega) only [in_lt, in_le, in_eq, in_add, in_mul, in_sb, in_cl, in_bz, in_bo, in_mo, not_true_eq_false, not_false_eq_true, il_0, il_1, il_2, il_3, il_4, il_5, il_6, il_7, il_8, il_9, il_10, il_11, il_12, il_13, il_14, il_15, il_16, il_31, il_60] at c1 ⊢) <;> exact me_vin (by omega) (by omega)) (fun c1 => ?_)
          rw [il_60, in_mul, in_add, in_cl (by omega), in_a1, me_BL]
          have e9 := cpL_g (fun _ => 0) (N2.2 90) 0 (60 * k) i
          rw [e9]
          exact ih
      have h0 := hl 0 (Nat.zero_le _)
      rw [cpL_g0, me_Bid] at h0
      exact h0
    · rw [in_cl (by omega), rf15 k4]
      exact sh15 k4
    · have gw : rg w 0 3 = true := by
        obtain ⟨u, hu, rfl⟩ := nI_of c
        simp (disch := omega) only [in_lt, in_le, in_eq, in_add, in_mul, in_sb, in_cl, in_bz, in_bo, in_mo, not_true_eq_false, not_false_eq_true, il_0, il_1, il_2, il_3, il_4, il_5, il_6, il_7, il_8, il_9, il_10, il_11, il_12, il_13, il_14, il_15, il_16, il_31] at d
        rw [rg_n hu]
        exact decide_eq_true (by omega)
      refine h _ M lw_rf (fun Q' h' => wok M Q' gw ?_)
      exact sg_329_16 (fun q => absurd q (by decide)) (fun _ _ q => absurd q f) (fun _ _ q => absurd q f) (fun _ _ _ => h' M I lw_rf) (fun _ q => absurd e q)
    · have gw : rg w 0 3 = true := by
        obtain ⟨u, hu, rfl⟩ := nI_of c
        simp (disch := omega) only [in_lt, in_le, in_eq, in_add, in_mul, in_sb, in_cl, in_bz, in_bo, in_mo, not_true_eq_false, not_false_eq_true, il_0, il_1, il_2, il_3, il_4, il_5, il_6, il_7, il_8, il_9, il_10, il_11, il_12, il_13, il_14, il_15, il_16, il_31] at d
        rw [rg_n hu]
        exact decide_eq_true (by omega)
      refine h _ M lw_rf (fun Q' h' => wok M Q' gw ?_)
      exact sg_329_16 (fun q => absurd q (by decide)) (fun _ q => absurd q e) (fun _ q => absurd q e) (fun _ q => absurd q e) (fun _ _ => h' M I lw_rf)
  · refine sg_148_4 (fun c => absurd c (by decide)) (fun c => absurd c (by decide)) (fun c => absurd c (by decide)) (fun c => absurd c (by decide)) (fun c => absurd c (by decide)) (fun c => absurd c (by decide)) (fun c => absurd c (by decide)) (fun _ => h _ M lw_rf (fun Q' h' => sg_329_0 (sr_327 ?_)))
    rw [g]
    exact sg_329_4 (fun _ => h' M I lw_rf) (fun c => absurd rfl c)
end K54
