/-! undo, anew, image, back -/
theorem cp_g (f g : Nat → Int32) (sp dp i : Nat) : upd (va_cpy f g sp dp i) (dp + i) (f (sp + i)) = va_cpy f g sp dp (i + 1) := by
  funext k
  by_cases h : k = dp + i
  · subst h
    rw [px_upd_self, pk_cpy_in (by omega) (by omega)]
    congr 1
    omega
  · rw [px_upd_ne h]
    by_cases h2 : dp ≤ k ∧ k < dp + i
    · rw [pk_cpy_in h2.1 h2.2, pk_cpy_in h2.1 (by omega)]
    · rw [pk_cpy_out (by omega), pk_cpy_out (by omega)]
theorem cp_g0 (f g : Nat → Int32) (sp dp : Nat) : va_cpy f g sp dp 0 = g := funext fun k => pk_cpy_out (by omega)
theorem cpL_g (f g : Nat → Int64) (sp dp i : Nat) : vp_updL (va_cpy f g sp dp i) (dp + i) (f (sp + i)) = va_cpy f g sp dp (i + 1) := by
  funext k
  by_cases h : k = dp + i
  · subst h
    rw [px_updL_self, pk_cpy_in (by omega) (by omega)]
    congr 1
    omega
  · rw [px_updL_ne h]
    by_cases h2 : dp ≤ k ∧ k < dp + i
    · rw [pk_cpy_in h2.1 h2.2, pk_cpy_in h2.1 (by omega)]
    · rw [pk_cpy_out (by omega), pk_cpy_out (by omega)]
theorem cpL_g0 (f g : Nat → Int64) (sp dp : Nat) : va_cpy f g sp dp 0 = g := funext fun k => pk_cpy_out (by omega)
section J53
variable {M M1 M2 : px_Mem} {Q : px_Po} {y : iv_Y}
theorem sc_163 (h : ∀ M', (∀ a, (a < 28 ∨ 39 ≤ a) → M'.1 a = M.1 a ∧ M'.2 a = M.2 a) → (∀ y, fl_at y 0 M' ∧ iv_shp y M') → Q none M') : px_T 0 163 0 [some (.ref 0)] [] M Q := by
  refine sg_163_0 (sp_10 (y := ((0, 0, 0, 0, 0, fun _ => (0, 0, 0, 0)) : iv_Y)) (fun M1 k1 k2 => sg_163_7 (sg_43_0 (sg_163_14 ?_))))
  refine h _ (fun a ha => ⟨?_, ?_⟩) (fun z => ⟨?_, ⟨0, by omega, ?_, fun t ht => absurd ht (Nat.not_lt_zero t)⟩⟩)
  · rw [me_Io (by omega)]
    exact (k1.1 a (by omega)).1
  · exact (k1.1 a (by omega)).2
  · obtain ⟨a1, a2, _⟩ := k2
    refine ⟨?_, ?_, fun i hi => absurd hi (Nat.not_lt_zero i)⟩
    · rw [me_Io (by omega)]
      exact a1
    · exact ws_C_fr (s := ws_0) a2 (fun a h1 h2 _ => by rw [me_Io (by omega)])
  · simp (disch := omega) only [me_II, me_Ii, me_Io, me_I2, me_L1, me_Li, me_LL, me_Lo, me_As, me_Ao, me_A2, me_Bs, me_Bo, me_B1]; rfl
theorem ivr_f2 (h : ivr M) (h1 : ∀ a, (a < 4 ∨ (9 ≤ a ∧ a < 24)) → M1.1 a = M.1 a ∧ M1.2 a = M.2 a) (h2 : ∀ a, (58 ≤ a ∧ a < 61) ∨ (88 ≤ a ∧ a < 90) → M1.1 a = M.1 a) (h3 : M1.2 90 = M.2 90) (h4 : ∀ i, i < 20 → M1.1 56 i = M.1 56 i) : ivr M1 := by
  obtain ⟨⟨t, a1⟩, a2, a3, a4⟩ := h
  exact ⟨⟨t, iv_tape_fr a1 (h1 1 (by omega)).1 (h1 2 (by omega)).1 (h4 5 (by omega)) (h2 60 (by omega))⟩, iv_flt_fr a2 (h1 3 (by omega)).1 (h4 12 (by omega)) (h4 13 (by omega)), iv_img_fr a3 (fun a _ _ => (h1 a (by omega)).1) (h2 58 (by omega)) (h2 59 (by omega)), iv_rows_fr a4 (fun a _ _ => h1 a (by omega)) (h2 88 (by omega)) (h2 89 (by omega)) h3⟩
/-- fewer acts -/
def yac (y : iv_Y) (a : Nat) : iv_Y := (iv_ln y, iv_lw y, iv_od y, iv_td y, a, iv_ev y)
theorem yac_ok (hy : iv_yok y) (h0 : iv_ln y ≠ 0) {a : Nat} (ha : a ≤ iv_ac y) : iv_yok (yac y a) := by
  obtain ⟨h1, h2, h3, h4, h5, h6⟩ := hy
  refine ⟨h1, h2, h3, by show a ≤ 30; omega, ?_, fun e he => h6 e ?_⟩
  · rcases h5 with h5 | h5
    · exact absurd h5.1 h0
    · exact Or.inr h5
  · have he2 : e < iv_td y + a := he
    unfold iv_n
    omega
/-- the acts are changed on both sides, the runs forgotten -/
theorem IV_acts {a : Nat} (C : ic y M) (R : ir y M) (V : ivr M) (h0 : iv_ln y ≠ 0) (ha : a ≤ iv_ac y) (k1 : ∀ b, (b < 28 ∨ 39 ≤ b) → M1.1 b = (px_wI M 4 5 (nI a)).1 b ∧ M1.2 b = (px_wI M 4 5 (nI a)).2 b) (k2 : ∀ y, fl_at y 0 M1 ∧ iv_shp y M1) : IV (px_wI M1 57 3 (nI a)) ∧ lw M (px_wI M1 57 3 (nI a)) := by
  have hS := C.2.1
  have hR := R.2
  refine ⟨⟨yac y a, ⟨yac_ok C.1 h0 ha, ?_, ⟨0, Nat.zero_le _, ?_⟩, ?_, ?_⟩, ⟨yac_ok C.1 h0 ha, ?_⟩, ?_⟩, ?_⟩
  · have e4 : (px_wI M1 57 3 (nI a)).1 4 = (px_wI M 4 5 (nI a)).1 4 := by rw [me_Io (by omega)]; exact (k1 4 (by omega)).1
    have e5 : (px_wI M1 57 3 (nI a)).1 5 = M.1 5 := by rw [me_Io (by omega), (k1 5 (by omega)).1, me_Io (by omega)]
    obtain ⟨s1, s2, s3, s4, s5, s6⟩ := hS
    refine ⟨?_, ?_, ?_, ?_, ?_, fun e he => ?_⟩
    · rw [e4, me_Ii (by omega)]; exact s1
    · rw [e4, me_Ii (by omega)]; exact s2
    · rw [e4, me_Ii (by omega)]; exact s3
    · rw [e4, me_Ii (by omega)]; exact s4
    · rw [e4, me_II]; rfl
    · have he2 : e < iv_td y + a := he
      rw [e5]
      exact s6 e (by unfold iv_n; omega)
  · exact fl_at_w (k2 (yac y a)).1 (fun b hb => by simp (disch := omega) only [me_II, me_Ii, me_Io, me_I2, me_L1, me_Li, me_LL, me_Lo, me_As, me_Ao, me_A2, me_Bs, me_Bo, me_B1])
  · obtain ⟨k, a1, a2, a3⟩ := (k2 (yac y a)).2
    refine ⟨k, a1, by simp (disch := omega) only [me_II, me_Ii, me_Io, me_I2, me_L1, me_Li, me_LL, me_Lo, me_As, me_Ao, me_A2, me_Bs, me_Bo, me_B1]; exact a2, fun t ht => ⟨fun i hi => ?_, ?_⟩⟩
    · exact (a3 t ht).1 i hi
    · simp (disch := omega) only [me_II, me_Ii, me_Io, me_I2, me_L1, me_Li, me_LL, me_Lo, me_As, me_Ao, me_A2, me_Bs, me_Bo, me_B1]
      exact (a3 t ht).2
  · refine iv_ro_fr C.2.2.2.2 (fun b hb => ?_)
    rw [me_Io (by omega), (k1 b (by omega)).1, me_Io (by omega)]
  · have e57 : (px_wI M1 57 3 (nI a)).1 57 = upd (M.1 57) 3 (nI a) := by rw [me_Is, (k1 57 (by omega)).1, me_Io (by omega)]
    obtain ⟨s1, s2, s3, s4, s5, s6⟩ := hR
    unfold iv_sr
    rw [e57]
    refine ⟨?_, ?_, ?_, ?_, ?_, fun e he => ?_⟩
    · rw [px_upd_ne (by omega)]; exact s1
    · rw [px_upd_ne (by omega)]; exact s2
    · rw [px_upd_ne (by omega)]; exact s3
    · rw [show 0 + 3 = 3 from rfl, px_upd_self]; rfl
    · rw [px_upd_ne (by omega)]; exact s5
    · have he2 : e < iv_td y + a := he
      rw [px_upd_ne (by omega), px_upd_ne (by omega), px_upd_ne (by omega), px_upd_ne (by omega)]
      exact s6 e (by unfold iv_n; omega)
  · refine ivr_f2 V (fun b hb => ⟨?_, ?_⟩) (fun b hb => ?_) ?_ (fun i hi => ?_)
    · rw [me_Io (by omega), (k1 b (by omega)).1, me_Io (by omega)]
    · rw [me_I2, (k1 b (by omega)).2, me_I2]
    · rw [me_Io (by omega), (k1 b (by omega)).1, me_Io (by omega)]
    · rw [me_I2, (k1 90 (by omega)).2, me_I2]
    · rw [me_Io (by omega), (k1 56 (by omega)).1, me_Io (by omega)]
  · exact ⟨by rw [me_Io (by omega), (k1 999 (by omega)).1, me_Io (by omega)], by rw [me_Io (by omega), (k1 1000 (by omega)).1, me_Io (by omega)]⟩
theorem pr_141 : PR 141 [some (.ref 0)] 320 [some (.ref 56)] := by
  intro M Q I h
  have I2 := I
  obtain ⟨y, C, R, V⟩ := I2
  have hS := C.2.1
  have f := hS.2.2.2.2.1
  have hb := C.1.2.2.2.1
  have f2 : M.1 57 3 = nI (iv_ac y) := R.2.2.2.2.1
  refine sg_141_0 (sc_151 C (fun g => ?_) (fun g => ?_))
  · refine sg_141_4 (fun _ c => h _ M lw_rf (fun Q' h' => ?_)) (fun _ c => ?_) (fun c => absurd rfl c)
    · simp (disch := omega) only [in_lt, in_le, in_eq, in_add, in_mul, in_sb, in_cl, in_bz, in_bo, in_mo, not_true_eq_false, not_false_eq_true, il_0, il_1, il_2, il_3, il_4, il_5, il_6, il_7, il_8, il_9, il_10, il_11, il_12, il_13, il_14, il_15, il_16, il_31, f] at c
      refine sg_320_0 (sr_180 R (sg_320_4 (fun q => ?_) (fun _ _ => h' M I lw_rf) (fun _ q => ?_)))
      · rw [decide_eq_true g] at q
        exact absurd q (by decide)
      · rw [f2, c] at q
        exact absurd rfl q
    · simp (disch := omega) only [in_lt, in_le, in_eq, in_add, in_mul, in_sb, in_cl, in_bz, in_bo, in_mo, not_true_eq_false, not_false_eq_true, il_0, il_1, il_2, il_3, il_4, il_5, il_6, il_7, il_8, il_9, il_10, il_11, il_12, il_13, il_14, il_15, il_16, il_31, f] at c
      rw [f, in_s1 (by omega)]
      refine sc_163 (fun M1 k1 k2 => sg_141_40 ?_)
      have e4 : M1.1 4 5 = nI (iv_ac y - 1) := by rw [(k1 4 (by omega)).1, me_II]
      have J := IV_acts (a := iv_ac y - 1) C R V g (by omega) k1 k2
      rw [e4]
      refine h _ M1 ⟨by rw [(k1 999 (by omega)).1, me_Io (by omega)], by rw [(k1 1000 (by omega)).1, me_Io (by omega)]⟩ (fun Q' h' => ?_)
      have e57 : M1.1 57 = M.1 57 := by rw [(k1 57 (by omega)).1, me_Io (by omega)]
      have R1 : ir y M1 := ⟨R.1, iv_sr_fr R.2 e57⟩
      have f3 : M1.1 57 3 = nI (iv_ac y) := by rw [e57]; exact f2
      refine sg_320_0 (sr_180 R1 (sg_320_4 (fun q => ?_) (fun _ q => ?_) (fun _ _ => ?_)))
      · rw [decide_eq_true g] at q
        exact absurd q (by decide)
      · simp (disch := omega) only [in_lt, in_le, in_eq, in_add, in_mul, in_sb, in_cl, in_bz, in_bo, in_mo, not_true_eq_false, not_false_eq_true, il_0, il_1, il_2, il_3, il_4, il_5, il_6, il_7, il_8, il_9, il_10, il_11, il_12, il_13, il_14, il_15, il_16, il_31, f3] at q
        exact absurd q c
      · rw [f3, in_s1 (by omega)]
        exact h' _ J.1 J.2
  · refine sg_141_4 (fun c => absurd c (by decide)) (fun c => absurd c (by decide)) (fun _ => h _ M lw_rf (fun Q' h' => ?_))
    refine sg_320_0 (sr_180 R (sg_320_4 (fun _ => h' M I lw_rf) (fun q => ?_) (fun q => ?_)))
    · rw [decide_eq_false (fun q => q g)] at q
      exact absurd rfl q
    · rw [decide_eq_false (fun q => q g)] at q
      exact absurd rfl q
theorem pr_142 : PR 142 [some (.ref 0), none] 321 [some (.ref 56), none] := by
  intro M Q I h
  have I2 := I
  obtain ⟨y, C, R, V⟩ := I2
  have hS := C.2.1
  have f := hS.2.2.2.2.1
  have f2 : M.1 57 3 = nI (iv_ac y) := R.2.2.2.2.1
  refine sg_142_0 (sc_151 C (fun g => ?_) (fun g => ?_))
  · refine sg_142_4 (fun _ => ?_) (fun c => absurd rfl c)
    refine sc_163 (fun M1 k1 k2 => sg_142_30 ?_)
    have J := IV_acts (a := 0) C R V g (by omega) k1 k2
    rw [f]
    refine h _ M1 ⟨by rw [(k1 999 (by omega)).1, me_Io (by omega)], by rw [(k1 1000 (by omega)).1, me_Io (by omega)]⟩ (fun Q' h' => ?_)
    have e57 : M1.1 57 = M.1 57 := by rw [(k1 57 (by omega)).1, me_Io (by omega)]
    have R1 : ir y M1 := ⟨R.1, iv_sr_fr R.2 e57⟩
    refine sg_321_0 (sr_180 R1 (sg_321_4 (fun q => ?_) (fun _ => ?_)))
    · rw [decide_eq_true g] at q
      exact absurd q (by decide)
    · rw [e57, f2]
      exact h' _ J.1 J.2
  · refine sg_142_4 (fun c => absurd c (by decide)) (fun _ => h _ M lw_rf (fun Q' h' => ?_))
    refine sg_321_0 (sr_180 R (sg_321_4 (fun _ => h' M I lw_rf) (fun q => ?_)))
    rw [decide_eq_false (fun q => q g)] at q
    exact absurd rfl q
/-- a story becomes another one -/
theorem sp_57 {o q : Nat} (ho : px_isS o) (hq : px_isS q) (hne : o ≠ q) (h : ∀ M', (∀ a, a ≠ o → a ≠ o + 1 → M'.1 a = M.1 a) → M'.2 = M.2 → (∀ y, iv_sc y q M → iv_n y ≤ 70 → iv_sc y o M') → M'.1 o 6 = M.1 o 6 → Q none M') : px_T 0 57 0 [some (.ref o), some (.ref q)] [] M Q := by
  have o1 : o = 4 ∨ o = 6 ∨ o = 9 ∨ o = 11 ∨ o = 13 := ho
  have q1 : q = 4 ∨ q = 6 ∨ q = 9 ∨ q = 11 ∨ q = 13 := hq
  refine sg_57_0 ho hq ?_
  refine h _ (fun a h1 h2 => ?_) rfl (fun z hz hn => ?_) ?_
  · simp (disch := omega) only [me_II, me_Ii, me_Io, me_I2, me_L1, me_Li, me_LL, me_Lo, me_As, me_Ao, me_A2, me_Bs, me_Bo, me_B1]
  · obtain ⟨s1, s2, s3, s4, s5, s6⟩ := hz
    refine ⟨?_, ?_, ?_, ?_, ?_, fun e he => ?_⟩
    · simp (disch := omega) only [me_II, me_Ii, me_Io, me_I2, me_L1, me_Li, me_LL, me_Lo, me_As, me_Ao, me_A2, me_Bs, me_Bo, me_B1]; exact s1
    · simp (disch := omega) only [me_II, me_Ii, me_Io, me_I2, me_L1, me_Li, me_LL, me_Lo, me_As, me_Ao, me_A2, me_Bs, me_Bo, me_B1]; exact s2
    · simp (disch := omega) only [me_II, me_Ii, me_Io, me_I2, me_L1, me_Li, me_LL, me_Lo, me_As, me_Ao, me_A2, me_Bs, me_Bo, me_B1]; exact s3
    · simp (disch := omega) only [me_II, me_Ii, me_Io, me_I2, me_L1, me_Li, me_LL, me_Lo, me_As, me_Ao, me_A2, me_Bs, me_Bo, me_B1]; exact s4
    · simp (disch := omega) only [me_II, me_Ii, me_Io, me_I2, me_L1, me_Li, me_LL, me_Lo, me_As, me_Ao, me_A2, me_Bs, me_Bo, me_B1]; exact s5
    · simp (disch := omega) only [me_II, me_Ii, me_Io, me_I2, me_L1, me_Li, me_LL, me_Lo, me_As, me_Ao, me_A2, me_Bs, me_Bo, me_B1]
      rw [pk_cpy_in (by omega) (by omega), show 0 + (e - 0) = e by omega]
      exact s6 e he
  · simp (disch := omega) only [me_II, me_Ii, me_Io, me_I2, me_L1, me_Li, me_LL, me_Lo, me_As, me_Ao, me_A2, me_Bs, me_Bo, me_B1]
theorem pr_146 {x : Int32} : PR 146 [some (.ref 0), some (.int x)] 178 [some (.ref 56), some (.int x), none] := by
  intro M Q I h
  have I2 := I
  obtain ⟨y, C, R, V⟩ := I2
  have hn := ic_n C
  have e2 : (3 : Int32).toInt = 3 := rfl
  have bad : rg x 0 2 = false → ∀ v : Int32, v = -2 → Q (some (.int v)) M := by
    intro hx v hv
    subst hv
    refine h _ M lw_rf (fun Q' h' => sg_178_0 (sr_175i (a := 0) (b := 2) (by omega) (by omega) ?_))
    have hx2 : rg x (0 : Nat) (2 : Nat) = false := hx
    rw [hx2]
    exact sg_178_9 (fun _ => h' M I lw_rf) (fun c => absurd rfl c)
  by_cases c0 : x < 0
  · have c1 := c0
    rw [fa_lt, Int32.toInt_zero] at c1
    exact sg_146_0 (fun _ => bad (rg_f (Or.inl c1)) _ rfl) (fun q => absurd c0 q) (fun q => absurd c0 q) (fun q => absurd c0 q) (fun q => absurd c0 q)
  by_cases c3 : x < 3
  · obtain ⟨k, hk, rfl⟩ := nI_of c0
    have hk3 : k < 3 := by simp (disch := omega) only [in_lt, in_le, in_eq, in_add, in_mul, in_sb, in_cl, in_bz, in_bo, in_mo, not_true_eq_false, not_false_eq_true, il_0, il_1, il_2, il_3, il_4, il_5, il_6, il_7, il_8, il_9, il_10, il_11, il_12, il_13, il_14, il_15, il_16, il_31] at c3; exact c3
    have fin : px_T 0 57 0 [some (.ref (px_rf 8 (nI k).toNatClampNeg)), some (.ref 4)] [] M (fun r M1 => px_T 0 146 25 [some (.ref 0), some (.int (nI k))] (r.toList ++ []) M1 Q) := by
      rw [in_cl (by omega), rf8 hk3]
      refine sp_57 (isS hk3) (Or.inl rfl) (by omega) (fun M1 k1 k2 k3 k4 => ?_)
      refine sg_146_25 (me_vin hk3 (by omega)) (by rw [in_cl (by omega), rf8 hk3]; exact sh8 hk3) ?_
      rw [in_cl (by omega), rf8 hk3]
      refine h _ _ ⟨by rw [me_Io (by omega)]; exact k1 999 (by omega) (by omega), by rw [me_Io (by omega)]; exact k1 1000 (by omega) (by omega)⟩ (fun Q' h' => sg_178_0 (sr_175i (a := 0) (b := 2) (by omega) (by omega) ?_))
      have hx2 : rg (nI k) (0 : Nat) (2 : Nat) = true := by rw [rg_n (by omega)]; exact decide_eq_true (by omega)
      rw [hx2]
      refine sg_178_9 (fun c => absurd c (by decide)) (fun _ => ?_)
      generalize hN : px_wI M1 (9 + 2 * k) 6 1 = N
      have n1 : ∀ a, a ≠ 9 + 2 * k → a ≠ 10 + 2 * k → N.1 a = M.1 a := by
        intro a h1 h2
        subst hN
        rw [me_Io h1]
        exact k1 a h1 (by omega)
      have n2 : N.2 = M.2 := by subst hN; exact k2
      have n3 : iv_sc y (9 + 2 * k) N := by
        obtain ⟨s1, s2, s3, s4, s5, s6⟩ := k3 y C.2.1 hn
        subst hN
        refine ⟨?_, ?_, ?_, ?_, ?_, fun e he => ?_⟩
        · rw [me_Ii (by omega)]; exact s1
        · rw [me_Ii (by omega)]; exact s2
        · rw [me_Ii (by omega)]; exact s3
        · rw [me_Ii (by omega)]; exact s4
        · rw [me_Ii (by omega)]; exact s5
        · rw [me_Io (by omega)]; exact s6 e he
      have n4 : N.1 (9 + 2 * k) 6 = 1 := by subst hN; rw [me_II]
      have hl : ∀ i, i ≤ 285 → px_T 0 178 17 [some (.ref 56), some (.int (nI k)), some (.int (nI i))] [] (px_aI N 58 (va_cpy (N.1 57) (N.1 58) 0 (285 * k) i)) Q' := by
        refine lp_dn ?_ (fun i hi ih => ?_)
        · refine sg_178_17 (fun _ => me_vin hk3 (by omega)) (fun _ => ?_) (fun c => absurd (nI_le (a := 285) (b := 285) (by omega) (by omega)) c) (fun c => absurd (nI_le (a := 285) (b := 285) (by omega) (by omega)) c) (fun c => absurd (nI_le (a := 285) (b := 285) (by omega) (by omega)) c)
          rw [in_cl (by omega)]
          refine h' _ ⟨y, ?_, ?_, ?_⟩ ?_
          · exact ic_fr C (fun a ha => by simp (disch := omega) only [me_II, me_Ii, me_Io, me_I2, me_L1, me_Li, me_LL, me_Lo, me_As, me_Ao, me_A2, me_Bs, me_Bo, me_B1]; exact n1 a (by omega) (by omega)) (fun a ha => by rw [me_I2, me_A2, n2])
          · exact ⟨R.1, iv_sr_fr R.2 (by simp (disch := omega) only [me_II, me_Ii, me_Io, me_I2, me_L1, me_Li, me_LL, me_Lo, me_As, me_Ao, me_A2, me_Bs, me_Bo, me_B1]; exact n1 57 (by omega) (by omega))⟩
          · obtain ⟨⟨t, v1⟩, v2, v3, v4⟩ := V
            refine ⟨⟨t, iv_tape_fr v1 ?_ ?_ ?_ ?_⟩, iv_flt_fr v2 ?_ ?_ ?_, fun j hj => ?_, iv_rows_fr v4 (fun a h1 h2 => ⟨?_, ?_⟩) ?_ ?_ ?_⟩
            · simp (disch := omega) only [me_II, me_Ii, me_Io, me_I2, me_L1, me_Li, me_LL, me_Lo, me_As, me_Ao, me_A2, me_Bs, me_Bo, me_B1]; exact n1 1 (by omega) (by omega)
            · simp (disch := omega) only [me_II, me_Ii, me_Io, me_I2, me_L1, me_Li, me_LL, me_Lo, me_As, me_Ao, me_A2, me_Bs, me_Bo, me_B1]; exact n1 2 (by omega) (by omega)
            · simp (disch := omega) only [me_II, me_Ii, me_Io, me_I2, me_L1, me_Li, me_LL, me_Lo, me_As, me_Ao, me_A2, me_Bs, me_Bo, me_B1]; rw [n1 56 (by omega) (by omega)]
            · simp (disch := omega) only [me_II, me_Ii, me_Io, me_I2, me_L1, me_Li, me_LL, me_Lo, me_As, me_Ao, me_A2, me_Bs, me_Bo, me_B1]; exact n1 60 (by omega) (by omega)
            · simp (disch := omega) only [me_II, me_Ii, me_Io, me_I2, me_L1, me_Li, me_LL, me_Lo, me_As, me_Ao, me_A2, me_Bs, me_Bo, me_B1]; exact n1 3 (by omega) (by omega)
            · simp (disch := omega) only [me_II, me_Ii, me_Io, me_I2, me_L1, me_Li, me_LL, me_Lo, me_As, me_Ao, me_A2, me_Bs, me_Bo, me_B1]; rw [n1 56 (by omega) (by omega)]
            · simp (disch := omega) only [me_II, me_Ii, me_Io, me_I2, me_L1, me_Li, me_LL, me_Lo, me_As, me_Ao, me_A2, me_Bs, me_Bo, me_B1]; rw [n1 56 (by omega) (by omega)]
            · by_cases hjk : j = k
              · subst hjk
                right
                refine ⟨?_, ?_, y, C.1, ?_, ?_⟩
                · rw [me_Io (by omega), me_Ao (by omega)]; exact n4
                · rw [me_II]; rfl
                · refine iv_sc_fr n3 ?_ ?_
                  · rw [me_Io (by omega), me_Ao (by omega)]
                  · rw [me_Io (by omega), me_Ao (by omega)]
                · obtain ⟨s1, s2, s3, s4, s5, s6⟩ := R.2
                  have e57 : N.1 57 = M.1 57 := n1 57 (by omega) (by omega)
                  have g : ∀ u, u < 285 → (px_wI (px_aI N 58 (va_cpy (N.1 57) (N.1 58) 0 (285 * j) 285)) 59 j (vp_nar .boolean 1)).1 58 (285 * j + u) = M.1 57 u := by
                    intro u hu
                    rw [me_Io (by omega), me_As, pk_cpy_in (by omega) (by omega), e57, show 0 + (285 * j + u - 285 * j) = u by omega]
                  refine ⟨?_, ?_, ?_, ?_, ?_, fun e he => ⟨?_, ?_, ?_, ?_⟩⟩
                  · have := g 0 (by omega); rw [Nat.add_zero] at this; rw [this]; exact s1
                  · rw [g 1 (by omega)]; exact s2
                  · rw [g 2 (by omega)]; exact s3
                  · rw [g 3 (by omega)]; exact s4
                  · rw [g 4 (by omega)]; exact s5
                  · rw [show 285 * j + 5 + 4 * e = 285 * j + (5 + 4 * e) by omega, g _ (by omega)]
                    have := (s6 e he).1
                    rw [show 0 + 5 + 4 * e = 5 + 4 * e by omega] at this
                    exact this
                  · rw [show 285 * j + 5 + 4 * e + 1 = 285 * j + (5 + 4 * e + 1) by omega, g _ (by omega)]
                    have := (s6 e he).2.1
                    rw [show 0 + 5 + 4 * e + 1 = 5 + 4 * e + 1 by omega] at this
                    exact this
                  · rw [show 285 * j + 5 + 4 * e + 2 = 285 * j + (5 + 4 * e + 2) by omega, g _ (by omega)]
                    have := (s6 e he).2.2.1
                    rw [show 0 + 5 + 4 * e + 2 = 5 + 4 * e + 2 by omega] at this
                    exact this
                  · rw [show 285 * j + 5 + 4 * e + 3 = 285 * j + (5 + 4 * e + 3) by omega, g _ (by omega)]
                    have := (s6 e he).2.2.2
                    rw [show 0 + 5 + 4 * e + 3 = 5 + 4 * e + 3 by omega] at this
                    exact this
              · have e9 : (px_wI (px_aI N 58 (va_cpy (N.1 57) (N.1 58) 0 (285 * k) 285)) 59 k (vp_nar .boolean 1)).1 (9 + 2 * j) = M.1 (9 + 2 * j) := by
                  rw [me_Io (by omega), me_Ao (by omega)]
                  exact n1 _ (by omega) (by omega)
                have e10 : (px_wI (px_aI N 58 (va_cpy (N.1 57) (N.1 58) 0 (285 * k) 285)) 59 k (vp_nar .boolean 1)).1 (9 + 2 * j + 1) = M.1 (9 + 2 * j + 1) := by
                  rw [me_Io (by omega), me_Ao (by omega)]
                  exact n1 _ (by omega) (by omega)
                have e59 : (px_wI (px_aI N 58 (va_cpy (N.1 57) (N.1 58) 0 (285 * k) 285)) 59 k (vp_nar .boolean 1)).1 59 j = M.1 59 j := by
                  rw [me_Ii hjk, me_Ao (by omega), n1 59 (by omega) (by omega)]
                rw [e9, e59]
                rcases v3 j hj with w | ⟨w1, w2, z, w3, w4, w5⟩
                · exact Or.inl w
                · refine Or.inr ⟨w1, w2, z, w3, iv_sc_fr w4 e9 e10, ?_⟩
                  have hz := iv_yn w3
                  have g : ∀ u, u < 285 → (px_wI (px_aI N 58 (va_cpy (N.1 57) (N.1 58) 0 (285 * k) 285)) 59 k (vp_nar .boolean 1)).1 58 (285 * j + u) = M.1 58 (285 * j + u) := by
                    intro u hu
                    rw [me_Io (by omega), me_As, pk_cpy_out (by omega), n1 58 (by omega) (by omega)]
                  obtain ⟨s1, s2, s3, s4, s5, s6⟩ := w5
                  refine ⟨?_, ?_, ?_, ?_, ?_, fun e he => ⟨?_, ?_, ?_, ?_⟩⟩
                  · have := g 0 (by omega); rw [Nat.add_zero] at this; rw [this]; exact s1
                  · rw [g 1 (by omega)]; exact s2
                  · rw [g 2 (by omega)]; exact s3
                  · rw [g 3 (by omega)]; exact s4
                  · rw [g 4 (by omega)]; exact s5
                  · have := g (5 + 4 * e) (by omega)
                    rw [show 285 * j + (5 + 4 * e) = 285 * j + 5 + 4 * e by omega] at this
                    rw [this]; exact (s6 e he).1
                  · have := g (5 + 4 * e + 1) (by omega)
                    rw [show 285 * j + (5 + 4 * e + 1) = 285 * j + 5 + 4 * e + 1 by omega] at this
                    rw [this]; exact (s6 e he).2.1
                  · have := g (5 + 4 * e + 2) (by omega)
                    rw [show 285 * j + (5 + 4 * e + 2) = 285 * j + 5 + 4 * e + 2 by omega] at this
                    rw [this]; exact (s6 e he).2.2.1
                  · have := g (5 + 4 * e + 3) (by omega)
                    rw [show 285 * j + (5 + 4 * e + 3) = 285 * j + 5 + 4 * e + 3 by omega] at this
                    rw [this]; exact (s6 e he).2.2.2
            · simp (disch := omega) only [me_II, me_Ii, me_Io, me_I2, me_L1, me_Li, me_LL, me_Lo, me_As, me_Ao, me_A2, me_Bs, me_Bo, me_B1]; exact n1 a (by omega) (by omega)
            · rw [me_I2, me_A2, n2]
            · simp (disch := omega) only [me_II, me_Ii, me_Io, me_I2, me_L1, me_Li, me_LL, me_Lo, me_As, me_Ao, me_A2, me_Bs, me_Bo, me_B1]; exact n1 88 (by omega) (by omega)
            · simp (disch := omega) only [me_II, me_Ii, me_Io, me_I2, me_L1, me_Li, me_LL, me_Lo, me_As, me_Ao, me_A2, me_Bs, me_Bo, me_B1]; exact n1 89 (by omega) (by omega)
            · rw [me_I2, me_A2, n2]
          · exact ⟨by simp (disch := omega) only [me_II, me_Ii, me_Io, me_I2, me_L1, me_Li, me_LL, me_Lo, me_As, me_Ao, me_A2, me_Bs, me_Bo, me_B1]; exact n1 999 (by omega) (by omega), by simp (disch := omega) only [me_II, me_Ii, me_Io, me_I2, me_L1, me_Li, me_LL, me_Lo, me_As, me_Ao, me_A2, me_Bs, me_Bo, me_B1]; exact n1 1000 (by omega) (by omega)⟩
        · refine sg_178_17 (fun c1 => by exfalso; (try simp (disch := omega) only [in_lt, in_le, in_eq, in_add, in_mul, in_sb, in_cl, in_bz, in_bo, in_mo, not_true_eq_false, not_false_eq_true, il_0, il_1, il_2, il_3, il_4, il_5, il_6, il_7, il_8, il_9, il_10, il_11, il_12, il_13, il_14, il_15, il_16, il_31, il_285] at c1) <;> omega) (fun c1 => by exfalso; (try simp (disch := omega) only [in_lt, in_le, in_eq, in_add, in_mul, in_sb, in_cl, in_bz, in_bo, in_mo, not_true_eq_false, not_false_eq_true, il_0, il_1, il_2, il_3, il_4, il_5, il_6, il_7, il_8, il_9, il_10, il_11, il_12, il_13, il_14, il_15, il_16, il_31, il_285] at c1) <;> omega) (fun c1 => by (try simp (disch := omega) only [in_lt, in_le, in_eq, in_add, in_mul, in_sb, in_cl, in_bz, in_bo, in_mo, not_true_eq_false, not_false_eq_true, il_0, il_1, il_2, il_3, il_4, il_5, il_6, il_7, il_8, il_9, il_10, il_11, il_12, il_13, il_14, il_15, il_16, il_31, il_285] at c1 ⊢) <;> exact me_vin (by omega) (by omega)) (fun c1 => by (try simp (disch := omega) only [in_lt, in_le, in_eq, in_add, in_mul, in_sb, in_cl, in_bz, in_bo, in_mo, not_true_eq_false, not_false_eq_true, il_0, il_1, il_2, il_3, il_4, il_5, il_6, il_7, il_8, il_9, il_10, il_11, il_12, il_13, il_14, il_15, il_16, il_31, il_285] at c1 ⊢) <;> exact me_vin (by omega) (by omega)) (fun c1 => ?_)
          rw [il_285, in_mul, in_add, in_cl (by omega), in_cl (by omega), in_a1]
          simp (disch := omega) only [me_II, me_Ii, me_Io, me_I2, me_L1, me_Li, me_LL, me_Lo, me_As, me_Ao, me_A2, me_Bs, me_Bo, me_B1]
          rw [me_AI]
          have e := cp_g (N.1 57) (N.1 58) 0 (285 * k) i
          rw [Nat.zero_add] at e
          rw [e]
          exact ih
      have h0 := hl 0 (Nat.zero_le _)
      rw [cp_g0, me_Aid] at h0
      exact h0
    exact sg_146_0 (fun q => absurd q c0) (fun _ _ => me_vin hk3 (by omega)) (fun _ _ => fin) (fun _ _ => by rw [in_cl (by omega), rf8 hk3]; exact sh8 hk3) (fun _ q => absurd c3 q)
  · have c4 := c3
    rw [fa_lt, e2] at c4
    exact sg_146_0 (fun q => absurd q c0) (fun _ q => absurd q c3) (fun _ q => absurd q c3) (fun _ q => absurd q c3) (fun _ _ => bad (rg_f (Or.inr (by omega))) _ rfl)
end J53
