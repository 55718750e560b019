/-! filling rows, beginning a world, winding the film -/
theorem me_AI {M : px_Mem} {a i : Nat} {x : Int32} {f : Nat → Int32} : px_wI (px_aI M a f) a i x = px_aI M a (upd f i x) := by
  refine me_ext (fun b => ?_) (fun b => rfl)
  by_cases h : b = a
  · subst h
    rw [me_Is, me_As, me_As]
  · rw [me_Io h, me_Ao h, me_Ao h]
theorem me_Aid {M : px_Mem} {a : Nat} : px_aI M a (M.1 a) = M := by
  refine me_ext (fun b => ?_) (fun b => rfl)
  by_cases h : b = a
  · subst h
    rw [me_As]
  · rw [me_Ao h]
theorem me_BL {M : px_Mem} {a i : Nat} {x : Int64} {f : Nat → Int64} : px_wL (px_aL M a f) a i x = px_aL M a (vp_updL f i x) := by
  refine me_ext (fun b => rfl) (fun b => ?_)
  by_cases h : b = a
  · subst h
    rw [me_Ls, me_Bs, me_Bs]
  · rw [me_Lo h, me_Bo h, me_Bo h]
theorem me_Bid {M : px_Mem} {a : Nat} : px_aL M a (M.2 a) = M := by
  refine me_ext (fun b => rfl) (fun b => ?_)
  by_cases h : b = a
  · subst h
    rw [me_Bs]
  · rw [me_Bo h]
theorem me_fillL (f g : Nat → Int64) (i : Nat) : vp_updL (fa_fill f g i) i (f i) = fa_fill f g (i + 1) := by
  funext k
  by_cases h : k = i
  · subst h
    rw [px_updL_self, fa_fill_in (by omega)]
  · rw [px_updL_ne h]
    by_cases h2 : k < i
    · rw [fa_fill_in h2, fa_fill_in (by omega)]
    · rw [fa_fill_out (by omega), fa_fill_out (by omega)]
section F39
variable {o : Nat} {M : px_Mem} {Q : px_Po} {s : ws_S} {y : iv_Y}
theorem sp_340 {g a n : Nat} {x : Int32} (hsh : px_sh g a = some (.inr (0, n))) (hn : n < 2 ^ 31) (h : Q none (px_aI M a (fa_fill (fun _ => x) (M.1 a) n))) : px_T g 340 0 [some (.ref a), some (.int x), none, none] [] M Q := by
  refine sg_340_0 hsh ?_
  have hl : ∀ i, i ≤ n → px_T g 340 5 [some (.ref a), some (.int x), some (.int (nI i)), some (.int (nI n))] [] (px_aI M a (fa_fill (fun _ => x) (M.1 a) i)) Q := by
    refine lp_dn ?_ (fun i hi ih => ?_)
    · refine sg_340_5 (fun c1 => ?_) (fun c1 => by exfalso; (try simp (disch := omega) only [in_lt, in_le, in_eq, in_add, in_mul, in_sb, in_cl, in_bz, in_bo, in_mo, il_0, il_1, il_2, il_3, il_4, il_5, il_6, il_7, il_8, il_9, il_10, il_11, il_12, il_13, il_14, il_15, il_16, il_31] at c1) <;> omega) (fun c1 => by exfalso; (try simp (disch := omega) only [in_lt, in_le, in_eq, in_add, in_mul, in_sb, in_cl, in_bz, in_bo, in_mo, il_0, il_1, il_2, il_3, il_4, il_5, il_6, il_7, il_8, il_9, il_10, il_11, il_12, il_13, il_14, il_15, il_16, il_31] at c1) <;> omega)
      exact h
    · refine sg_340_5 (fun c1 => by exfalso; (try simp (disch := omega) only [in_lt, in_le, in_eq, in_add, in_mul, in_sb, in_cl, in_bz, in_bo, in_mo, il_0, il_1, il_2, il_3, il_4, il_5, il_6, il_7, il_8, il_9, il_10, il_11, il_12, il_13, il_14, il_15, il_16, il_31] at c1) <;> omega) (fun c1 => ⟨n, hsh, me_vin hi hn⟩) (fun c1 => ?_)
      rw [in_a1, in_cl (by omega), me_AI, fa_fill_succ (fun _ => x)]
      exact ih
  have h0 := hl 0 (Nat.zero_le _)
  rw [fa_fill_0, me_Aid] at h0
  exact h0
theorem sp_339 {a n : Nat} {x : Int64} (hsh : px_sh 0 a = some (.inr (1, n))) (hn : n < 2 ^ 31) (h : Q none (px_aL M a (fa_fill (fun _ => x) (M.2 a) n))) : px_T 0 339 0 [some (.ref a), some (.long x), none, none, none] [] M Q := by
  refine sg_339_0 hsh ?_
  have hl : ∀ i, i ≤ n → px_T 0 339 6 [some (.ref a), some (.long x), none, some (.int (nI i)), some (.int (nI n))] [] (px_aL M a (fa_fill (fun _ => x) (M.2 a) i)) Q := by
    refine lp_dn ?_ (fun i hi ih => ?_)
    · refine sg_339_6 (fun c1 => ?_) (fun c1 => by exfalso; (try simp (disch := omega) only [in_lt, in_le, in_eq, in_add, in_mul, in_sb, in_cl, in_bz, in_bo, in_mo, il_0, il_1, il_2, il_3, il_4, il_5, il_6, il_7, il_8, il_9, il_10, il_11, il_12, il_13, il_14, il_15, il_16, il_31] at c1) <;> omega) (fun c1 => by exfalso; (try simp (disch := omega) only [in_lt, in_le, in_eq, in_add, in_mul, in_sb, in_cl, in_bz, in_bo, in_mo, il_0, il_1, il_2, il_3, il_4, il_5, il_6, il_7, il_8, il_9, il_10, il_11, il_12, il_13, il_14, il_15, il_16, il_31] at c1) <;> omega)
      exact h
    · refine sg_339_6 (fun c1 => by exfalso; (try simp (disch := omega) only [in_lt, in_le, in_eq, in_add, in_mul, in_sb, in_cl, in_bz, in_bo, in_mo, il_0, il_1, il_2, il_3, il_4, il_5, il_6, il_7, il_8, il_9, il_10, il_11, il_12, il_13, il_14, il_15, il_16, il_31] at c1) <;> omega) (fun c1 => ⟨n, hsh, me_vin hi hn⟩) (fun c1 => ?_)
      rw [in_a1, in_cl (by omega), me_BL, me_fillL (fun _ => x)]
      exact ih
  have h0 := hl 0 (Nat.zero_le _)
  rw [fa_fill_0, me_Bid] at h0
  exact h0
theorem ws_ct_0 (x : Nat) : ws_ct (fun _ => 0) x = 0 := fb_ct_zero.mpr (fun k _ => decide_eq_false (show ¬ 0 = x + 1 by omega))
def px_isB (g o : Nat) : Prop := (g = 0 ∧ (o = 29 ∨ o = 47)) ∨ (g = 1 ∧ o = 47)
theorem sp_60 {g : Nat} (hB : px_isB g o) (h : ∀ M', me_fw o (o + 8) M M' → ws_C ws_0 o M' → (∀ p, p < 16 → M'.1 (o + 3) p = 0) → Q none M') : px_T g 60 0 [some (.ref o)] [] M Q := by
  have h0 : px_sh g o = some (.inl 9) := by rcases hB with ⟨rfl, rfl | rfl⟩ | ⟨rfl, rfl⟩ <;> rfl
  have r3 : px_rf o 3 = o + 1 := by rcases hB with ⟨rfl, rfl | rfl⟩ | ⟨rfl, rfl⟩ <;> rfl
  have r4 : px_rf o 4 = o + 2 := by rcases hB with ⟨rfl, rfl | rfl⟩ | ⟨rfl, rfl⟩ <;> rfl
  have r5 : px_rf o 5 = o + 3 := by rcases hB with ⟨rfl, rfl | rfl⟩ | ⟨rfl, rfl⟩ <;> rfl
  have r6 : px_rf o 6 = o + 4 := by rcases hB with ⟨rfl, rfl | rfl⟩ | ⟨rfl, rfl⟩ <;> rfl
  have r8 : px_rf o 8 = o + 6 := by rcases hB with ⟨rfl, rfl | rfl⟩ | ⟨rfl, rfl⟩ <;> rfl
  have s1 : px_sh g (o + 1) = some (.inr (0, 16)) := by rcases hB with ⟨rfl, rfl | rfl⟩ | ⟨rfl, rfl⟩ <;> rfl
  have s2 : px_sh g (o + 2) = some (.inr (0, 16)) := by rcases hB with ⟨rfl, rfl | rfl⟩ | ⟨rfl, rfl⟩ <;> rfl
  have s3 : px_sh g (o + 3) = some (.inr (0, 16)) := by rcases hB with ⟨rfl, rfl | rfl⟩ | ⟨rfl, rfl⟩ <;> rfl
  have s4 : px_sh g (o + 4) = some (.inr (0, 128)) := by rcases hB with ⟨rfl, rfl | rfl⟩ | ⟨rfl, rfl⟩ <;> rfl
  have s6 : px_sh g (o + 6) = some (.inr (0, 200)) := by rcases hB with ⟨rfl, rfl | rfl⟩ | ⟨rfl, rfl⟩ <;> rfl
  refine sg_60_0 h0 ?_
  rw [r3]
  refine sp_340 s1 (by omega) ?_
  refine sg_60_23 h0 ?_
  rw [r4]
  refine sp_340 s2 (by omega) ?_
  refine sg_60_31 h0 ?_ ?_
  · rw [r4]
    exact ⟨16, s2, me_vin (i := 1) (by omega) (by omega)⟩
  rw [r4, r5]
  refine sp_340 s3 (by omega) ?_
  refine sg_60_46 h0 ?_
  rw [r6]
  refine sp_340 s4 (by omega) ?_
  refine sg_60_54 h0 ?_
  rw [r8]
  refine sp_340 s6 (by omega) ?_
  refine sg_60_62 ?_
  refine h _ ?_ ?_ ?_
  · exact me_fw_A (me_fw_A (me_fw_A (me_fw_I (me_fw_A (me_fw_A (me_fw_I (me_fw_I (me_fw_I me_fw_rf (by omega) (by omega)) (by omega) (by omega)) (by omega) (by omega)) (by omega) (by omega)) (by omega) (by omega)) (by omega) (by omega)) (by omega) (by omega)) (by omega) (by omega)) (by omega) (by omega)
  · refine ⟨⟨?_, ?_, ?_⟩, fun p hp => ?_, fun p hp => ?_, fun i hi => ?_, fun x hx => absurd hx (Nat.not_lt_zero x), fun x hx => ?_, fun x hx => absurd hx (Nat.not_lt_zero x)⟩
    · simp (disch := omega) only [me_II, me_Ii, me_Io, me_I2, me_L1, me_Li, me_LL, me_Lo, me_As, me_Ao, me_A2, me_Bs, me_Bo, me_B1]; rfl
    · simp (disch := omega) only [me_II, me_Ii, me_Io, me_I2, me_L1, me_Li, me_LL, me_Lo, me_As, me_Ao, me_A2, me_Bs, me_Bo, me_B1]; rfl
    · simp (disch := omega) only [me_II, me_Ii, me_Io, me_I2, me_L1, me_Li, me_LL, me_Lo, me_As, me_Ao, me_A2, me_Bs, me_Bo, me_B1]; rfl
    · simp (disch := omega) only [me_II, me_Ii, me_Io, me_I2, me_L1, me_Li, me_LL, me_Lo, me_As, me_Ao, me_A2, me_Bs, me_Bo, me_B1]
      rw [fa_fill_in hp]
      rfl
    · show _ = nI (if p = 1 then 1 else 0)
      by_cases h1 : p = 1
      · subst h1
        simp (disch := omega) only [me_II, me_Ii, me_Io, me_I2, me_L1, me_Li, me_LL, me_Lo, me_As, me_Ao, me_A2, me_Bs, me_Bo, me_B1]
        rfl
      · simp (disch := omega) only [me_II, me_Ii, me_Io, me_I2, me_L1, me_Li, me_LL, me_Lo, me_As, me_Ao, me_A2, me_Bs, me_Bo, me_B1]
        rw [fa_fill_in hp, if_neg h1]
        rfl
    · simp (disch := omega) only [me_II, me_Ii, me_Io, me_I2, me_L1, me_Li, me_LL, me_Lo, me_As, me_Ao, me_A2, me_Bs, me_Bo, me_B1]
      rw [fa_fill_in hi]
      rfl
    · simp (disch := omega) only [me_II, me_Ii, me_Io, me_I2, me_L1, me_Li, me_LL, me_Lo, me_As, me_Ao, me_A2, me_Bs, me_Bo, me_B1]
      rw [fa_fill_in hx]
      show _ = nI (ws_ct (fun _ => 0) x)
      rw [ws_ct_0]
      rfl
  · intro p hp
    simp (disch := omega) only [me_II, me_Ii, me_Io, me_I2, me_L1, me_Li, me_LL, me_Lo, me_As, me_Ao, me_A2, me_Bs, me_Bo, me_B1]
    rw [fa_fill_in hp]
theorem sp_61 (hC : ws_C s 29 M) (h : ∀ M', me_fw 47 55 M M' → ws_C s 47 M' → Q none M') (hm : ws_md s ≤ 200) : px_T 0 61 0 [some (.ref 47), some (.ref 29)] [] M Q := by
  refine sg_61_0 (Or.inr rfl) (Or.inl rfl) (h _ ?_ ?_)
  · exact me_fw_A (me_fw_A (me_fw_A (me_fw_A (me_fw_A (me_fw_A (me_fw_A (me_fw_I (me_fw_I (me_fw_I me_fw_rf (by omega) (by omega)) (by omega) (by omega)) (by omega) (by omega)) (by omega) (by omega)) (by omega) (by omega)) (by omega) (by omega)) (by omega) (by omega)) (by omega) (by omega)) (by omega) (by omega)) (by omega) (by omega)
  · obtain ⟨⟨h1, h2, h3⟩, h4, h5, h6, h7, h8, h9⟩ := hC
    refine ⟨⟨?_, ?_, ?_⟩, fun p hp => ?_, fun p hp => ?_, fun i hi => ?_, fun x hx => ?_, fun x hx => ?_, fun x hx => ?_⟩
    · simp (disch := omega) only [me_II, me_Ii, me_Io, me_I2, me_L1, me_Li, me_LL, me_Lo, me_As, me_Ao, me_A2, me_Bs, me_Bo, me_B1]; exact h1
    · simp (disch := omega) only [me_II, me_Ii, me_Io, me_I2, me_L1, me_Li, me_LL, me_Lo, me_As, me_Ao, me_A2, me_Bs, me_Bo, me_B1]; exact h2
    · simp (disch := omega) only [me_II, me_Ii, me_Io, me_I2, me_L1, me_Li, me_LL, me_Lo, me_As, me_Ao, me_A2, me_Bs, me_Bo, me_B1]; exact h3
    · simp (disch := omega) only [me_II, me_Ii, me_Io, me_I2, me_L1, me_Li, me_LL, me_Lo, me_As, me_Ao, me_A2, me_Bs, me_Bo, me_B1]
      rw [pk_cpy_in (Nat.zero_le _) (by omega), Nat.zero_add, Nat.sub_zero]
      exact h4 p hp
    · simp (disch := omega) only [me_II, me_Ii, me_Io, me_I2, me_L1, me_Li, me_LL, me_Lo, me_As, me_Ao, me_A2, me_Bs, me_Bo, me_B1]
      rw [pk_cpy_in (Nat.zero_le _) (by omega), Nat.zero_add, Nat.sub_zero]
      exact h5 p hp
    · simp (disch := omega) only [me_II, me_Ii, me_Io, me_I2, me_L1, me_Li, me_LL, me_Lo, me_As, me_Ao, me_A2, me_Bs, me_Bo, me_B1]
      rw [pk_cpy_in (Nat.zero_le _) (by omega), Nat.zero_add, Nat.sub_zero]
      exact h6 i hi
    · simp (disch := omega) only [me_II, me_Ii, me_Io, me_I2, me_L1, me_Li, me_LL, me_Lo, me_As, me_Ao, me_A2, me_Bs, me_Bo, me_B1]
      rw [pk_cpy_in (Nat.zero_le _) (by omega), Nat.zero_add, Nat.sub_zero]
      exact h7 x hx
    · simp (disch := omega) only [me_II, me_Ii, me_Io, me_I2, me_L1, me_Li, me_LL, me_Lo, me_As, me_Ao, me_A2, me_Bs, me_Bo, me_B1]
      rw [pk_cpy_in (Nat.zero_le _) (by omega), Nat.zero_add, Nat.sub_zero]
      exact h8 x hx
    · simp (disch := omega) only [me_II, me_Ii, me_Io, me_I2, me_L1, me_Li, me_LL, me_Lo, me_As, me_Ao, me_A2, me_Bs, me_Bo, me_B1]
      rw [pk_cpy_in (Nat.zero_le _) (by omega), Nat.zero_add, Nat.sub_zero]
      exact h9 x hx
theorem ws_C_fr {M' : px_Mem} (hC : ws_C s o M) (h : ∀ a, o ≤ a → a < o + 8 → a ≠ o + 3 → M'.1 a = M.1 a) : ws_C s o M' := by
  obtain ⟨k1, k4, k5, k6, k7, k8, k9⟩ := hC
  refine ⟨?_, ?_, ?_, ?_, ?_, ?_, ?_⟩
  · rw [h o (by omega) (by omega) (by omega)]; exact k1
  · rw [h (o + 1) (by omega) (by omega) (by omega)]; exact k4
  · rw [h (o + 2) (by omega) (by omega) (by omega)]; exact k5
  · rw [h (o + 4) (by omega) (by omega) (by omega)]; exact k6
  · rw [h (o + 5) (by omega) (by omega) (by omega)]; exact k7
  · rw [h (o + 6) (by omega) (by omega) (by omega)]; exact k8
  · rw [h (o + 7) (by omega) (by omega) (by omega)]; exact k9
theorem sp_62 (h : Q none (px_aI M 32 (fa_fill (fun _ => 0) (M.1 32) 16))) : px_T 0 62 0 [some (.ref 29)] [] M Q :=
  sg_62_0 (Or.inl rfl) (sp_340 rfl (by omega) (sg_62_8 h))
theorem sp_53 (ho : px_isS o) (hS : iv_sc y o M) (h : Q (some (.int (nI (iv_n y)))) M) : px_T 0 53 0 [some (.ref o)] [] M Q := by
  refine sg_53_0 ho ?_
  rw [hS.2.2.2.1, hS.2.2.2.2.1, in_add]
  exact h
theorem sp_54 (ho : px_isS o) (hS : iv_sc y o M) {e : Nat} (he : e < iv_n y) (hn : iv_n y ≤ 70) (h : Q (some (.int (nI (iv_pk (iv_ev y e))))) M) : px_T 0 54 0 [some (.ref o), some (.int (nI e))] [] M Q := by
  refine sg_54_0 ho (fun c1 => by exfalso; (try simp (disch := omega) only [in_lt, in_le, in_eq, in_add, in_mul, in_sb, in_cl, in_bz, in_bo, in_mo, il_0, il_1, il_2, il_3, il_4, il_5, il_6, il_7, il_8, il_9, il_10, il_11, il_12, il_13, il_14, il_15, il_16, il_31] at c1) <;> omega) (fun c1 c2 => by exfalso; (try simp (disch := omega) only [in_lt, in_le, in_eq, in_add, in_mul, in_sb, in_cl, in_bz, in_bo, in_mo, il_0, il_1, il_2, il_3, il_4, il_5, il_6, il_7, il_8, il_9, il_10, il_11, il_12, il_13, il_14, il_15, il_16, il_31, il_70] at c1 c2) <;> omega) (fun c1 c2 => by (try simp (disch := omega) only [in_lt, in_le, in_eq, in_add, in_mul, in_sb, in_cl, in_bz, in_bo, in_mo, il_0, il_1, il_2, il_3, il_4, il_5, il_6, il_7, il_8, il_9, il_10, il_11, il_12, il_13, il_14, il_15, il_16, il_31, il_70] at c1 c2 ⊢) <;> exact me_vin (by omega) (by omega)) (fun c1 c2 => ?_)
  rw [in_cl (by omega), hS.2.2.2.2.2 e he]
  exact h
/-- soiled pages behind n events from t on -/
def sl_go (y : iv_Y) : Nat → Nat → (Nat → Int32) → (Nat → Int32)
  | 0, _, f => f
  | n + 1, t, f => sl_go y n (t + 1) (ws_sl (ws_why (iv_rn y t) (iv_ev y t)) (iv_ev y t) f)
/-- the film stands at t -/
def fl_at (y : iv_Y) (t : Nat) (M : px_Mem) : Prop := M.1 28 3 = nI t ∧ ws_C (iv_rn y t) 29 M ∧ ∀ i, i < t → M.1 37 i = nI (ws_why (iv_rn y i) (iv_ev y i))
/-- only the film's places changed -/
def fl_fr (M M' : px_Mem) : Prop := me_fw 28 38 M M' ∧ ∀ i, i ≠ 3 → M'.1 28 i = M.1 28 i
theorem fl_fr_rf : fl_fr M M := ⟨me_fw_rf, fun _ _ => rfl⟩
theorem fl_fr_tr {M' M2 : px_Mem} (h : fl_fr M M') (h2 : fl_fr M' M2) : fl_fr M M2 := ⟨me_fw_tr h.1 h2.1, fun i hi => (h2.2 i hi).trans (h.2 i hi)⟩
theorem iv_yn (hy : iv_yok y) : iv_n y ≤ 70 := by
  obtain ⟨_, _, h3, h4, _⟩ := hy
  unfold iv_n
  omega
theorem iv_rnW (hy : iv_yok y) {t : Nat} (ht : t ≤ iv_n y) : ws_W (iv_rn y t) := ws_W_run (fun e he _ => hy.2.2.2.2.2 e (by omega))
theorem iv_rnm (hy : iv_yok y) {t : Nat} (ht : t ≤ iv_n y) : ws_md (iv_rn y t) ≤ 140 := by
  have h1 := ws_md_run (iv_lw y) (iv_ev y) (fun _ => false) t
  have h2 := iv_yn hy
  unfold iv_rn
  omega
theorem iv_rns (y : iv_Y) (t : Nat) : iv_rn y (t + 1) = ws_st (iv_lw y) (iv_rn y t) (iv_ev y t) := ws_run_s rfl
theorem sp_10 (h : ∀ M', fl_fr M M' → fl_at y 0 M' → Q none M') : px_T 0 10 0 [some (.ref 28)] [] M Q := by
  refine sg_10_0 (sp_60 (Or.inl ⟨rfl, Or.inl rfl⟩) (fun M1 k1 k2 k3 => ?_))
  refine sg_10_7 (h _ ⟨?_, fun i hi => ?_⟩ ⟨?_, ?_, fun i hi => absurd hi (Nat.not_lt_zero i)⟩)
  · exact me_fw_I (me_fw_mono k1 (by omega) (by omega)) (by omega) (by omega)
  · rw [me_Ii hi, (k1 28 (by omega)).1]
  · simp (disch := omega) only [me_II, me_Ii, me_Io, me_I2, me_L1, me_Li, me_LL, me_Lo, me_As, me_Ao, me_A2, me_Bs, me_Bo, me_B1]; rfl
  · exact ws_C_fr k2 (fun a h1 h2 _ => me_Io (by omega))
theorem iv_sc_fr {M' : px_Mem} (hS : iv_sc y o M) (h1 : M'.1 o = M.1 o) (h2 : M'.1 (o + 1) = M.1 (o + 1)) : iv_sc y o M' := by
  unfold iv_sc at hS ⊢
  rw [h1, h2]
  exact hS
theorem sp_11l (hy : iv_yok y) {w : Nat} (hw : w ≤ iv_n y) : ∀ (n t : Nat) (N : px_Mem), t + n = w → iv_sc y 4 N → fl_at y t N → (∀ M', fl_fr N M' → fl_at y w M' → M'.1 32 = sl_go y n t (N.1 32) → Q (some (.ref 29)) M') → px_T 0 11 12 [some (.ref 28), some (.int (nI w))] [] N Q
  | 0, t, N, ht, hS, hF, h => by
    have e : t = w := by omega
    subst e
    have h1 := hF.1
    have hn := iv_yn hy
    refine sg_11_12 (fun c1 => ?_) (fun c1 c2 => by exfalso; (try simp (disch := omega) only [in_lt, in_le, in_eq, in_add, in_mul, in_sb, in_cl, in_bz, in_bo, in_mo, il_0, il_1, il_2, il_3, il_4, il_5, il_6, il_7, il_8, il_9, il_10, il_11, il_12, il_13, il_14, il_15, il_16, il_31, il_70, h1] at c1 c2) <;> omega) (fun c1 c2 => by exfalso; (try simp (disch := omega) only [in_lt, in_le, in_eq, in_add, in_mul, in_sb, in_cl, in_bz, in_bo, in_mo, il_0, il_1, il_2, il_3, il_4, il_5, il_6, il_7, il_8, il_9, il_10, il_11, il_12, il_13, il_14, il_15, il_16, il_31, il_70, h1] at c1 c2) <;> omega)
    exact h N fl_fr_rf hF rfl
  | n + 1, t, N, ht, hS, hF, h => by
    have h1 := hF.1
    have hn := iv_yn hy
    have hm := iv_rnm hy (t := t) (by omega)
    refine sg_11_12 (fun c1 => by exfalso; (try simp (disch := omega) only [in_lt, in_le, in_eq, in_add, in_mul, in_sb, in_cl, in_bz, in_bo, in_mo, il_0, il_1, il_2, il_3, il_4, il_5, il_6, il_7, il_8, il_9, il_10, il_11, il_12, il_13, il_14, il_15, il_16, il_31, h1] at c1) <;> omega) (fun c1 c2 => by exfalso; (try simp (disch := omega) only [in_lt, in_le, in_eq, in_add, in_mul, in_sb, in_cl, in_bz, in_bo, in_mo, il_0, il_1, il_2, il_3, il_4, il_5, il_6, il_7, il_8, il_9, il_10, il_11, il_12, il_13, il_14, il_15, il_16, il_31, il_70, h1] at c1 c2) <;> omega) (fun c1 c2 => ?_)
    rw [h1]
    refine sp_54 (Or.inl rfl) hS (by omega) hn ?_
    refine sg_11_52 ?_
    rw [hS.2.1]
    refine sp_73 (Or.inl rfl) hF.2.1 (iv_rnW hy (by omega)) (by omega) (hy.2.2.2.2.2 t (by omega)) hy.1 (fun M1 hP => ?_)
    refine sg_11_62 (by (try simp (disch := omega) only [in_lt, in_le, in_eq, in_add, in_mul, in_sb, in_cl, in_bz, in_bo, in_mo, il_0, il_1, il_2, il_3, il_4, il_5, il_6, il_7, il_8, il_9, il_10, il_11, il_12, il_13, il_14, il_15, il_16, il_31] at ⊢) <;> exact me_vin (by omega) (by omega)) ?_
    obtain ⟨k1, k2, k3⟩ := hP
    rw [in_cl (by omega), (k1 28 (by omega)).1, h1, in_a1]
    refine sp_11l hy hw n (t + 1) _ (by omega) ?_ ⟨?_, ?_, fun i hi => ?_⟩ (fun M2 j1 j2 j3 => h M2 ⟨?_, fun i hi => ?_⟩ j2 ?_)
    · exact iv_sc_fr hS (by simp (disch := omega) only [me_II, me_Ii, me_Io, me_I2, me_L1, me_Li, me_LL, me_Lo, me_As, me_Ao, me_A2, me_Bs, me_Bo, me_B1]; exact (k1 4 (by omega)).1) (by simp (disch := omega) only [me_II, me_Ii, me_Io, me_I2, me_L1, me_Li, me_LL, me_Lo, me_As, me_Ao, me_A2, me_Bs, me_Bo, me_B1]; exact (k1 5 (by omega)).1)
    · simp (disch := omega) only [me_II, me_Ii, me_Io, me_I2, me_L1, me_Li, me_LL, me_Lo, me_As, me_Ao, me_A2, me_Bs, me_Bo, me_B1]
    · rw [iv_rns]
      exact ws_C_fr k2 (fun a h1 h2 _ => by simp (disch := omega) only [me_II, me_Ii, me_Io, me_I2, me_L1, me_Li, me_LL, me_Lo, me_As, me_Ao, me_A2, me_Bs, me_Bo, me_B1])
    · by_cases hit : i = t
      · subst hit
        simp (disch := omega) only [me_II, me_Ii, me_Io, me_I2, me_L1, me_Li, me_LL, me_Lo, me_As, me_Ao, me_A2, me_Bs, me_Bo, me_B1]
      · simp (disch := omega) only [me_II, me_Ii, me_Io, me_I2, me_L1, me_Li, me_LL, me_Lo, me_As, me_Ao, me_A2, me_Bs, me_Bo, me_B1]
        rw [(k1 37 (by omega)).1]
        exact hF.2.2 i (by omega)
    · exact me_fw_tr (me_fw_I (me_fw_I (me_fw_mono k1 (by omega) (by omega)) (by omega) (by omega)) (by omega) (by omega)) j1.1
    · rw [j1.2 i hi, me_Ii hi, me_Io (by omega), (k1 28 (by omega)).1]
    · rw [j3, me_Io (by omega), me_Io (by omega), k3]
      rfl
theorem sp_11 (hy : iv_yok y) (hS : iv_sc y 4 M) {t w : Nat} (hF : fl_at y t M) (ht : t ≤ iv_n y) (hw : w ≤ iv_n y) (h : ∀ M', fl_fr M M' → fl_at y w M' → (t ≤ w → M'.1 32 = sl_go y (w - t) t (M.1 32)) → Q (some (.ref 29)) M') : px_T 0 11 0 [some (.ref 28), some (.int (nI w))] [] M Q := by
  have h1 := hF.1
  have hn := iv_yn hy
  refine sg_11_0 (fun c1 => ?_) (fun c1 => ?_)
  · simp (disch := omega) only [in_lt, in_le, in_eq, in_add, in_mul, in_sb, in_cl, in_bz, in_bo, in_mo, il_0, il_1, il_2, il_3, il_4, il_5, il_6, il_7, il_8, il_9, il_10, il_11, il_12, il_13, il_14, il_15, il_16, il_31, h1] at c1
    exact sp_11l hy hw (w - t) t M (by omega) hS hF (fun M' j1 j2 j3 => h M' j1 j2 (fun _ => j3))
  · simp (disch := omega) only [in_lt, in_le, in_eq, in_add, in_mul, in_sb, in_cl, in_bz, in_bo, in_mo, il_0, il_1, il_2, il_3, il_4, il_5, il_6, il_7, il_8, il_9, il_10, il_11, il_12, il_13, il_14, il_15, il_16, il_31, h1] at c1
    refine sp_10 (y := y) (fun M1 k1 k2 => ?_)
    refine sp_11l hy hw w 0 M1 (by omega) (iv_sc_fr hS (k1.1 4 (by omega)).1 (k1.1 5 (by omega)).1) k2 (fun M' j1 j2 _ => h M' (fl_fr_tr k1 j1) j2 (fun q => absurd q c1))
end F39
