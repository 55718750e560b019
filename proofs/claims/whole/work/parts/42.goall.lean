/-! the reference: a tick kept, all events gone through -/
theorem cp_s (f g : Nat → Int32) (dp i : Nat) : upd (va_cpy f g 0 dp i) (dp + i) (f i) = va_cpy f g 0 dp (i + 1) := by
  funext k
  by_cases h : k = dp + i
  · subst h
    rw [px_upd_self, pk_cpy_in (by omega) (by omega)]
    congr 1
    omega
  · rw [px_upd_ne h]
    by_cases h2 : dp ≤ k ∧ k < dp + i
    · rw [pk_cpy_in h2.1 h2.2, pk_cpy_in h2.1 (by omega)]
    · rw [pk_cpy_out (by omega), pk_cpy_out (by omega)]
theorem cp_0 (f g : Nat → Int32) (dp : Nat) : va_cpy f g 0 dp 0 = g := funext fun k => pk_cpy_out (by omega)
theorem me_AA {M : px_Mem} {a b i j : Nat} {f g : Nat → Int32} {x z : Int32} (h : a ≠ b) : px_wI (px_wI (px_aI (px_aI M a f) b g) a i x) b j z = px_aI (px_aI M a (upd f i x)) b (upd g j z) := by
  refine me_ext (fun c => ?_) (fun c => rfl)
  by_cases h1 : c = b
  · subst h1
    rw [me_Is, me_Io (fun q => h q.symm), me_As, me_As]
  · rw [me_Io h1, me_Ao h1]
    by_cases h2 : c = a
    · subst h2
      rw [me_Is, me_Ao h, me_As, me_As]
    · rw [me_Io h2, me_Ao h1, me_Ao h2, me_Ao h2]
/-- a tick as the reference keeps it -/
def rt_at (s : ws_S) (t : Nat) (M : px_Mem) : Prop := (M.1 76 t = nI (ws_al s) ∧ M.1 77 t = nI (ws_md s)) ∧ (∀ p, p < 16 → M.1 78 (16 * t + p) = nI (ws_pa s p)) ∧ (∀ p, p < 16 → M.1 79 (16 * t + p) = nI (ws_se s p)) ∧ (∀ i, i < 128 → M.1 80 (128 * t + i) = nI (ws_ob s i) - 1) ∧ (∀ x, x < ws_md s → M.1 81 (200 * t + x) = nI (ws_by s x))
def kt_fr (t : Nat) (M M' : px_Mem) : Prop := (∀ a, (a < 76 ∨ 82 ≤ a) → M'.1 a = M.1 a) ∧ M'.2 = M.2 ∧ (∀ i, i ≠ t → M'.1 76 i = M.1 76 i ∧ M'.1 77 i = M.1 77 i) ∧ (∀ i, (i < 16 * t ∨ 16 * t + 16 ≤ i) → M'.1 78 i = M.1 78 i ∧ M'.1 79 i = M.1 79 i) ∧ (∀ i, (i < 128 * t ∨ 128 * t + 128 ≤ i) → M'.1 80 i = M.1 80 i) ∧ (∀ i, (i < 200 * t ∨ 200 * t + 200 ≤ i) → M'.1 81 i = M.1 81 i)
theorem rt_at_kt {s : ws_S} {t u : Nat} {M M' : px_Mem} (h : rt_at s u M) (hm : ws_md s ≤ 200) (hk : kt_fr t M M') (hu : u ≠ t) : rt_at s u M' := by
  obtain ⟨⟨h1, h2⟩, h3, h4, h5, h6⟩ := h
  obtain ⟨_, _, k1, k2, k3, k4⟩ := hk
  refine ⟨⟨?_, ?_⟩, fun p hp => ?_, fun p hp => ?_, fun i hi => ?_, fun x hx => ?_⟩
  · rw [(k1 u hu).1]; exact h1
  · rw [(k1 u hu).2]; exact h2
  · rw [(k2 _ (by omega)).1]; exact h3 p hp
  · rw [(k2 _ (by omega)).2]; exact h4 p hp
  · rw [k3 _ (by omega)]; exact h5 i hi
  · rw [k4 _ (by omega)]; exact h6 x hx
section G42
variable {M : px_Mem} {Q : px_Po} {s : ws_S}
theorem sr_221a {t : Nat} (ht : t ≤ 72) (h : px_T 0 221 70 [some (.ref 56), some (.int (nI t)), some (.int 0)] [] (px_aI (px_aI M 78 (va_cpy (M.1 68) (M.1 78) 0 (16 * t) 16)) 79 (va_cpy (M.1 69) (M.1 79) 0 (16 * t) 16)) Q) : px_T 0 221 22 [some (.ref 56), some (.int (nI t)), some (.int 0)] [] M Q := by
  have hl : ∀ i, i ≤ 16 → px_T 0 221 22 [some (.ref 56), some (.int (nI t)), some (.int (nI i))] [] (px_aI (px_aI M 78 (va_cpy (M.1 68) (M.1 78) 0 (16 * t) i)) 79 (va_cpy (M.1 69) (M.1 79) 0 (16 * t) i)) Q := by
    refine lp_dn ?_ (fun i hi ih => ?_)
    · refine sg_221_22 (fun c1 => ?_) (fun c1 => by exfalso; (try simp (disch := omega) only [in_lt, in_le, in_eq, in_add, in_mul, in_sb, in_cl, in_bz, in_bo, in_mo, not_true_eq_false, not_false_eq_true, il_0, il_1, il_2, il_3, il_4, il_5, il_6, il_7, il_8, il_9, il_10, il_11, il_12, il_13, il_14, il_15, il_16, il_31] at c1) <;> omega) (fun c1 => by exfalso; (try simp (disch := omega) only [in_lt, in_le, in_eq, in_add, in_mul, in_sb, in_cl, in_bz, in_bo, in_mo, not_true_eq_false, not_false_eq_true, il_0, il_1, il_2, il_3, il_4, il_5, il_6, il_7, il_8, il_9, il_10, il_11, il_12, il_13, il_14, il_15, il_16, il_31] at c1) <;> omega) (fun c1 => by exfalso; (try simp (disch := omega) only [in_lt, in_le, in_eq, in_add, in_mul, in_sb, in_cl, in_bz, in_bo, in_mo, not_true_eq_false, not_false_eq_true, il_0, il_1, il_2, il_3, il_4, il_5, il_6, il_7, il_8, il_9, il_10, il_11, il_12, il_13, il_14, il_15, il_16, il_31] at c1) <;> omega)
      exact h
    · refine sg_221_22 (fun c1 => by exfalso; (try simp (disch := omega) only [in_lt, in_le, in_eq, in_add, in_mul, in_sb, in_cl, in_bz, in_bo, in_mo, not_true_eq_false, not_false_eq_true, il_0, il_1, il_2, il_3, il_4, il_5, il_6, il_7, il_8, il_9, il_10, il_11, il_12, il_13, il_14, il_15, il_16, il_31] at c1) <;> omega) (fun c1 => by (try simp (disch := omega) only [in_lt, in_le, in_eq, in_add, in_mul, in_sb, in_cl, in_bz, in_bo, in_mo, not_true_eq_false, not_false_eq_true, il_0, il_1, il_2, il_3, il_4, il_5, il_6, il_7, il_8, il_9, il_10, il_11, il_12, il_13, il_14, il_15, il_16, il_31] at c1 ⊢) <;> exact me_vin (by omega) (by omega)) (fun c1 => by (try simp (disch := omega) only [in_lt, in_le, in_eq, in_add, in_mul, in_sb, in_cl, in_bz, in_bo, in_mo, not_true_eq_false, not_false_eq_true, il_0, il_1, il_2, il_3, il_4, il_5, il_6, il_7, il_8, il_9, il_10, il_11, il_12, il_13, il_14, il_15, il_16, il_31] at c1 ⊢) <;> exact me_vin (by omega) (by omega)) (fun c1 => ?_)
      refine sg_221_62 ?_
      rw [il_16, in_mul, in_add, in_cl (by omega), in_cl (by omega), in_a1]
      simp (disch := omega) only [me_II, me_Ii, me_Io, me_I2, me_L1, me_Li, me_LL, me_Lo, me_As, me_Ao, me_A2, me_Bs, me_Bo, me_B1]
      rw [me_AA (by omega), cp_s, cp_s]
      exact ih
  have h0 := hl 0 (Nat.zero_le _)
  rw [cp_0, cp_0, me_Aid] at h0
  have e : px_aI M 79 (M.1 79) = M := me_Aid
  rw [e] at h0
  exact h0
theorem sr_221b {t : Nat} (ht : t ≤ 72) (h : px_T 0 221 103 [some (.ref 56), some (.int (nI t)), some (.int 0)] [] (px_aI M 80 (va_cpy (M.1 70) (M.1 80) 0 (128 * t) 128)) Q) : px_T 0 221 70 [some (.ref 56), some (.int (nI t)), some (.int 0)] [] M Q := by
  have hl : ∀ i, i ≤ 128 → px_T 0 221 70 [some (.ref 56), some (.int (nI t)), some (.int (nI i))] [] (px_aI M 80 (va_cpy (M.1 70) (M.1 80) 0 (128 * t) i)) Q := by
    refine lp_dn ?_ (fun i hi ih => ?_)
    · refine sg_221_70 (fun c1 => ?_) (fun c1 => by exfalso; (try simp (disch := omega) only [in_lt, in_le, in_eq, in_add, in_mul, in_sb, in_cl, in_bz, in_bo, in_mo, not_true_eq_false, not_false_eq_true, il_0, il_1, il_2, il_3, il_4, il_5, il_6, il_7, il_8, il_9, il_10, il_11, il_12, il_13, il_14, il_15, il_16, il_31, il_128] at c1) <;> omega) (fun c1 => by exfalso; (try simp (disch := omega) only [in_lt, in_le, in_eq, in_add, in_mul, in_sb, in_cl, in_bz, in_bo, in_mo, not_true_eq_false, not_false_eq_true, il_0, il_1, il_2, il_3, il_4, il_5, il_6, il_7, il_8, il_9, il_10, il_11, il_12, il_13, il_14, il_15, il_16, il_31, il_128] at c1) <;> omega) (fun c1 => by exfalso; (try simp (disch := omega) only [in_lt, in_le, in_eq, in_add, in_mul, in_sb, in_cl, in_bz, in_bo, in_mo, not_true_eq_false, not_false_eq_true, il_0, il_1, il_2, il_3, il_4, il_5, il_6, il_7, il_8, il_9, il_10, il_11, il_12, il_13, il_14, il_15, il_16, il_31, il_128] at c1) <;> omega)
      exact h
    · refine sg_221_70 (fun c1 => by exfalso; (try simp (disch := omega) only [in_lt, in_le, in_eq, in_add, in_mul, in_sb, in_cl, in_bz, in_bo, in_mo, not_true_eq_false, not_false_eq_true, il_0, il_1, il_2, il_3, il_4, il_5, il_6, il_7, il_8, il_9, il_10, il_11, il_12, il_13, il_14, il_15, il_16, il_31, il_128] at c1) <;> omega) (fun c1 => by (try simp (disch := omega) only [in_lt, in_le, in_eq, in_add, in_mul, in_sb, in_cl, in_bz, in_bo, in_mo, not_true_eq_false, not_false_eq_true, il_0, il_1, il_2, il_3, il_4, il_5, il_6, il_7, il_8, il_9, il_10, il_11, il_12, il_13, il_14, il_15, il_16, il_31, il_128] at c1 ⊢) <;> exact me_vin (by omega) (by omega)) (fun c1 => by (try simp (disch := omega) only [in_lt, in_le, in_eq, in_add, in_mul, in_sb, in_cl, in_bz, in_bo, in_mo, not_true_eq_false, not_false_eq_true, il_0, il_1, il_2, il_3, il_4, il_5, il_6, il_7, il_8, il_9, il_10, il_11, il_12, il_13, il_14, il_15, il_16, il_31, il_128] at c1 ⊢) <;> exact me_vin (by omega) (by omega)) (fun c1 => ?_)
      rw [il_128, in_mul, in_add, in_cl (by omega), in_cl (by omega), in_a1]
      simp (disch := omega) only [me_II, me_Ii, me_Io, me_I2, me_L1, me_Li, me_LL, me_Lo, me_As, me_Ao, me_A2, me_Bs, me_Bo, me_B1]
      rw [me_AI, cp_s]
      exact ih
  have h0 := hl 0 (Nat.zero_le _)
  rw [cp_0, me_Aid] at h0
  exact h0
theorem sr_221c {t n : Nat} (ht : t ≤ 72) (hn : n ≤ 200) (hm : M.1 56 27 = nI n) (h : Q none (px_aI M 81 (va_cpy (M.1 72) (M.1 81) 0 (200 * t) n))) : px_T 0 221 103 [some (.ref 56), some (.int (nI t)), some (.int 0)] [] M Q := by
  have hl : ∀ i, i ≤ n → px_T 0 221 103 [some (.ref 56), some (.int (nI t)), some (.int (nI i))] [] (px_aI M 81 (va_cpy (M.1 72) (M.1 81) 0 (200 * t) i)) Q := by
    have f : ∀ i, (px_aI M 81 (va_cpy (M.1 72) (M.1 81) 0 (200 * t) i)).1 56 27 = nI n := fun i => by rw [me_Ao (by omega)]; exact hm
    refine lp_dn ?_ (fun i hi ih => ?_)
    · refine sg_221_103 (fun c1 => ?_) (fun c1 => by exfalso; (try simp (disch := omega) only [in_lt, in_le, in_eq, in_add, in_mul, in_sb, in_cl, in_bz, in_bo, in_mo, not_true_eq_false, not_false_eq_true, il_0, il_1, il_2, il_3, il_4, il_5, il_6, il_7, il_8, il_9, il_10, il_11, il_12, il_13, il_14, il_15, il_16, il_31, f] at c1) <;> omega) (fun c1 => by exfalso; (try simp (disch := omega) only [in_lt, in_le, in_eq, in_add, in_mul, in_sb, in_cl, in_bz, in_bo, in_mo, not_true_eq_false, not_false_eq_true, il_0, il_1, il_2, il_3, il_4, il_5, il_6, il_7, il_8, il_9, il_10, il_11, il_12, il_13, il_14, il_15, il_16, il_31, il_200, f] at c1) <;> omega) (fun c1 => by exfalso; (try simp (disch := omega) only [in_lt, in_le, in_eq, in_add, in_mul, in_sb, in_cl, in_bz, in_bo, in_mo, not_true_eq_false, not_false_eq_true, il_0, il_1, il_2, il_3, il_4, il_5, il_6, il_7, il_8, il_9, il_10, il_11, il_12, il_13, il_14, il_15, il_16, il_31, f] at c1) <;> omega)
      exact h
    · refine sg_221_103 (fun c1 => by exfalso; (try simp (disch := omega) only [in_lt, in_le, in_eq, in_add, in_mul, in_sb, in_cl, in_bz, in_bo, in_mo, not_true_eq_false, not_false_eq_true, il_0, il_1, il_2, il_3, il_4, il_5, il_6, il_7, il_8, il_9, il_10, il_11, il_12, il_13, il_14, il_15, il_16, il_31, f] at c1) <;> omega) (fun c1 => by (try simp (disch := omega) only [in_lt, in_le, in_eq, in_add, in_mul, in_sb, in_cl, in_bz, in_bo, in_mo, not_true_eq_false, not_false_eq_true, il_0, il_1, il_2, il_3, il_4, il_5, il_6, il_7, il_8, il_9, il_10, il_11, il_12, il_13, il_14, il_15, il_16, il_31, f] at c1 ⊢) <;> exact me_vin (by omega) (by omega)) (fun c1 => by (try simp (disch := omega) only [in_lt, in_le, in_eq, in_add, in_mul, in_sb, in_cl, in_bz, in_bo, in_mo, not_true_eq_false, not_false_eq_true, il_0, il_1, il_2, il_3, il_4, il_5, il_6, il_7, il_8, il_9, il_10, il_11, il_12, il_13, il_14, il_15, il_16, il_31, il_200, f] at c1 ⊢) <;> exact me_vin (by omega) (by omega)) (fun c1 => ?_)
      rw [il_200, in_mul, in_add, in_cl (by omega), in_cl (by omega), in_a1]
      simp (disch := omega) only [me_II, me_Ii, me_Io, me_I2, me_L1, me_Li, me_LL, me_Lo, me_As, me_Ao, me_A2, me_Bs, me_Bo, me_B1]
      rw [me_AI, cp_s]
      exact ih
  have h0 := hl 0 (Nat.zero_le _)
  rw [cp_0, me_Aid] at h0
  exact h0
theorem sr_221 (hN : rf_N s M) (hm : ws_md s ≤ 200) {t : Nat} (ht : t ≤ 72) (h : ∀ M', kt_fr t M M' → rt_at s t M' → Q none M') : px_T 0 221 0 [some (.ref 56), some (.int (nI t)), none] [] M Q := by
  obtain ⟨⟨g1, g2, g3⟩, g4, g5, g6, g7, g8⟩ := hN
  refine sg_221_0 (by (try simp (disch := omega) only [in_lt, in_le, in_eq, in_add, in_mul, in_sb, in_cl, in_bz, in_bo, in_mo, not_true_eq_false, not_false_eq_true, il_0, il_1, il_2, il_3, il_4, il_5, il_6, il_7, il_8, il_9, il_10, il_11, il_12, il_13, il_14, il_15, il_16, il_31] at ⊢) <;> exact me_vin (by omega) (by omega)) ?_
  rw [in_cl (by omega), g1, g3]
  refine sr_221a ht (sr_221b ht (sr_221c ht hm ?_ ?_))
  · simp (disch := omega) only [me_II, me_Ii, me_Io, me_I2, me_L1, me_Li, me_LL, me_Lo, me_As, me_Ao, me_A2, me_Bs, me_Bo, me_B1]; exact g3
  · refine h _ ⟨fun a ha => ?_, rfl, fun i hi => ⟨?_, ?_⟩, fun i hi => ⟨?_, ?_⟩, fun i hi => ?_, fun i hi => ?_⟩ ⟨⟨?_, ?_⟩, fun p hp => ?_, fun p hp => ?_, fun i hi => ?_, fun x hx => ?_⟩
    · simp (disch := omega) only [me_II, me_Ii, me_Io, me_I2, me_L1, me_Li, me_LL, me_Lo, me_As, me_Ao, me_A2, me_Bs, me_Bo, me_B1]
    · simp (disch := omega) only [me_II, me_Ii, me_Io, me_I2, me_L1, me_Li, me_LL, me_Lo, me_As, me_Ao, me_A2, me_Bs, me_Bo, me_B1]
    · simp (disch := omega) only [me_II, me_Ii, me_Io, me_I2, me_L1, me_Li, me_LL, me_Lo, me_As, me_Ao, me_A2, me_Bs, me_Bo, me_B1]
    · simp (disch := omega) only [me_II, me_Ii, me_Io, me_I2, me_L1, me_Li, me_LL, me_Lo, me_As, me_Ao, me_A2, me_Bs, me_Bo, me_B1]
      rw [pk_cpy_out (by omega)]
    · simp (disch := omega) only [me_II, me_Ii, me_Io, me_I2, me_L1, me_Li, me_LL, me_Lo, me_As, me_Ao, me_A2, me_Bs, me_Bo, me_B1]
      rw [pk_cpy_out (by omega)]
    · simp (disch := omega) only [me_II, me_Ii, me_Io, me_I2, me_L1, me_Li, me_LL, me_Lo, me_As, me_Ao, me_A2, me_Bs, me_Bo, me_B1]
      rw [pk_cpy_out (by omega)]
    · simp (disch := omega) only [me_II, me_Ii, me_Io, me_I2, me_L1, me_Li, me_LL, me_Lo, me_As, me_Ao, me_A2, me_Bs, me_Bo, me_B1]
      rw [pk_cpy_out (by omega)]
    · simp (disch := omega) only [me_II, me_Ii, me_Io, me_I2, me_L1, me_Li, me_LL, me_Lo, me_As, me_Ao, me_A2, me_Bs, me_Bo, me_B1]
    · simp (disch := omega) only [me_II, me_Ii, me_Io, me_I2, me_L1, me_Li, me_LL, me_Lo, me_As, me_Ao, me_A2, me_Bs, me_Bo, me_B1]
    · simp (disch := omega) only [me_II, me_Ii, me_Io, me_I2, me_L1, me_Li, me_LL, me_Lo, me_As, me_Ao, me_A2, me_Bs, me_Bo, me_B1]
      rw [pk_cpy_in (by omega) (by omega), show 0 + (16 * t + p - 16 * t) = p by omega]
      exact g4 p hp
    · simp (disch := omega) only [me_II, me_Ii, me_Io, me_I2, me_L1, me_Li, me_LL, me_Lo, me_As, me_Ao, me_A2, me_Bs, me_Bo, me_B1]
      rw [pk_cpy_in (by omega) (by omega), show 0 + (16 * t + p - 16 * t) = p by omega]
      exact g5 p hp
    · simp (disch := omega) only [me_II, me_Ii, me_Io, me_I2, me_L1, me_Li, me_LL, me_Lo, me_As, me_Ao, me_A2, me_Bs, me_Bo, me_B1]
      rw [pk_cpy_in (by omega) (by omega), show 0 + (128 * t + i - 128 * t) = i by omega]
      exact g6 i hi
    · simp (disch := omega) only [me_II, me_Ii, me_Io, me_I2, me_L1, me_Li, me_LL, me_Lo, me_As, me_Ao, me_A2, me_Bs, me_Bo, me_B1]
      rw [pk_cpy_in (by omega) (by omega), show 0 + (200 * t + x - 200 * t) = x by omega]
      exact g8 x hx
/-- only the state now and the ticks changed -/
def gq (M M' : px_Mem) : Prop := (∀ a, (a < 68 ∨ 82 ≤ a) → a ≠ 56 → M'.1 a = M.1 a) ∧ M'.2 = M.2 ∧ ∀ i, i ≠ 22 → i ≠ 23 → i ≠ 27 → M'.1 56 i = M.1 56 i
theorem gq_rf : gq M M := ⟨fun _ _ _ => rfl, rfl, fun _ _ _ _ => rfl⟩
theorem gq_tr {M1 M2 : px_Mem} (h : gq M M1) (h2 : gq M1 M2) : gq M M2 := ⟨fun a h3 h4 => (h2.1 a h3 h4).trans (h.1 a h3 h4), h2.2.1.trans h.2.1, fun i a b c => (h2.2.2 i a b c).trans (h.2.2 i a b c)⟩
theorem gq_g {M1 : px_Mem} (h : rf_g M M1) : gq M M1 := ⟨fun a h3 h4 => h.1 a (by omega) h4, h.2.1, h.2.2⟩
theorem gq_kt {t : Nat} {M1 : px_Mem} (h : kt_fr t M M1) : gq M M1 := ⟨fun a h3 h4 => h.1 a (by omega), h.2.1, fun i _ _ _ => by rw [h.1 56 (by omega)]⟩
theorem gq_I {M1 : px_Mem} {a i : Nat} {x : Int32} (h : gq M M1) (h1 : 68 ≤ a) (h2 : a < 82) : gq M (px_wI M1 a i x) := ⟨fun b h3 h4 => by rw [me_Io (by omega)]; exact h.1 b h3 h4, h.2.1, fun j a b c => by rw [me_Io (by omega)]; exact h.2.2 j a b c⟩
theorem gq_A {M1 : px_Mem} {a : Nat} {f : Nat → Int32} (h : gq M M1) (h1 : 68 ≤ a) (h2 : a < 82) : gq M (px_aI M1 a f) := ⟨fun b h3 h4 => by rw [me_Ao (by omega)]; exact h.1 b h3 h4, h.2.1, fun j a b c => by rw [me_Ao (by omega)]; exact h.2.2 j a b c⟩
theorem gq_F {M1 : px_Mem} {i : Nat} {x : Int32} (h : gq M M1) (h1 : i = 22 ∨ i = 23 ∨ i = 27) : gq M (px_wI M1 56 i x) := ⟨fun b h3 h4 => by rw [me_Io h4]; exact h.1 b h3 h4, h.2.1, fun j a b c => by rw [me_Ii (by omega)]; exact h.2.2 j a b c⟩
theorem rf_L_gq {n law : Nat} {ev : Nat → ws_E} {lf : Nat → Bool} {M' : px_Mem} (hL : rf_L n law ev lf M) (h : gq M M') : rf_L n law ev lf M' := by
  obtain ⟨h1, h2, h3⟩ := hL
  refine ⟨?_, ?_, ?_⟩
  · rw [h.2.2 20 (by omega) (by omega) (by omega)]; exact h1
  · rw [h.2.2 21 (by omega) (by omega) (by omega)]; exact h2
  · rw [h.1 63 (by omega) (by omega), h.1 64 (by omega) (by omega), h.1 65 (by omega) (by omega), h.1 66 (by omega) (by omega), h.1 67 (by omega) (by omega)]; exact h3
theorem sr_222 (h : ∀ M', gq M M' → (∀ a, a < 68 ∨ (73 ≤ a ∧ a < 76) → a ≠ 56 → M'.1 a = M.1 a) → rf_N ws_0 M' → rt_at ws_0 0 M' → Q none M') : px_T 0 222 0 [some (.ref 56), none] [] M Q := by
  refine sg_222_0 ?_
  generalize hM1 : px_wI (px_wI (px_wI M 56 22 2) 56 23 2) 56 27 0 = M1
  have q1 : gq M M1 := by subst hM1; exact gq_F (gq_F (gq_F gq_rf (by omega)) (by omega)) (by omega)
  have l1 : ∀ i, i ≤ 16 → px_T 0 222 17 [some (.ref 56), some (.int (nI i))] [] (px_aI (px_aI M1 68 (fa_fill (fun _ => 0) (M1.1 68) i)) 69 (fa_fill (fun _ => 0) (M1.1 69) i)) Q := by
    refine lp_dn ?_ (fun i hi ih => ?_)
    · refine sg_222_17 (fun c1 => ?_) (fun c1 => by exfalso; (try simp (disch := omega) only [in_lt, in_le, in_eq, in_add, in_mul, in_sb, in_cl, in_bz, in_bo, in_mo, not_true_eq_false, not_false_eq_true, il_0, il_1, il_2, il_3, il_4, il_5, il_6, il_7, il_8, il_9, il_10, il_11, il_12, il_13, il_14, il_15, il_16, il_31] at c1) <;> omega) (fun c1 => by exfalso; (try simp (disch := omega) only [in_lt, in_le, in_eq, in_add, in_mul, in_sb, in_cl, in_bz, in_bo, in_mo, not_true_eq_false, not_false_eq_true, il_0, il_1, il_2, il_3, il_4, il_5, il_6, il_7, il_8, il_9, il_10, il_11, il_12, il_13, il_14, il_15, il_16, il_31] at c1) <;> omega)
      generalize hM2 : px_wI (px_aI (px_aI M1 68 (fa_fill (fun _ => 0) (M1.1 68) 16)) 69 (fa_fill (fun _ => 0) (M1.1 69) 16)) 69 1 1 = M2
      have q2 : gq M M2 := by subst hM2; exact gq_I (gq_A (gq_A q1 (by omega) (by omega)) (by omega) (by omega)) (by omega) (by omega)
      have l2 : ∀ i, i ≤ 128 → px_T 0 222 52 [some (.ref 56), some (.int (nI i))] [] (px_aI M2 70 (fa_fill (fun _ => -1) (M2.1 70) i)) Q := by
        refine lp_dn ?_ (fun i hi ih => ?_)
        · refine sg_222_52 (fun c1 => ?_) (fun c1 => by exfalso; (try simp (disch := omega) only [in_lt, in_le, in_eq, in_add, in_mul, in_sb, in_cl, in_bz, in_bo, in_mo, not_true_eq_false, not_false_eq_true, il_0, il_1, il_2, il_3, il_4, il_5, il_6, il_7, il_8, il_9, il_10, il_11, il_12, il_13, il_14, il_15, il_16, il_31, il_128] at c1) <;> omega) (fun c1 => by exfalso; (try simp (disch := omega) only [in_lt, in_le, in_eq, in_add, in_mul, in_sb, in_cl, in_bz, in_bo, in_mo, not_true_eq_false, not_false_eq_true, il_0, il_1, il_2, il_3, il_4, il_5, il_6, il_7, il_8, il_9, il_10, il_11, il_12, il_13, il_14, il_15, il_16, il_31, il_128] at c1) <;> omega)
          have hN : rf_N ws_0 (px_aI M2 70 (fa_fill (fun _ => -1) (M2.1 70) 128)) := by
            subst hM2 hM1
            refine ⟨⟨?_, ?_, ?_⟩, fun p hp => ?_, fun p hp => ?_, fun i hi => ?_, fun x hx => absurd hx (Nat.not_lt_zero x), fun x hx => absurd hx (Nat.not_lt_zero x)⟩
            · simp (disch := omega) only [me_II, me_Ii, me_Io, me_I2, me_L1, me_Li, me_LL, me_Lo, me_As, me_Ao, me_A2, me_Bs, me_Bo, me_B1]; rfl
            · simp (disch := omega) only [me_II, me_Ii, me_Io, me_I2, me_L1, me_Li, me_LL, me_Lo, me_As, me_Ao, me_A2, me_Bs, me_Bo, me_B1]; rfl
            · simp (disch := omega) only [me_II, me_Ii, me_Io, me_I2, me_L1, me_Li, me_LL, me_Lo, me_As, me_Ao, me_A2, me_Bs, me_Bo, me_B1]; rfl
            · simp (disch := omega) only [me_II, me_Ii, me_Io, me_I2, me_L1, me_Li, me_LL, me_Lo, me_As, me_Ao, me_A2, me_Bs, me_Bo, me_B1]
              rw [fa_fill_in hp]
              rfl
            · show _ = nI (if p = 1 then 1 else 0)
              by_cases hp1 : p = 1
              · subst hp1
                simp (disch := omega) only [me_II, me_Ii, me_Io, me_I2, me_L1, me_Li, me_LL, me_Lo, me_As, me_Ao, me_A2, me_Bs, me_Bo, me_B1]
                rfl
              · simp (disch := omega) only [me_II, me_Ii, me_Io, me_I2, me_L1, me_Li, me_LL, me_Lo, me_As, me_Ao, me_A2, me_Bs, me_Bo, me_B1]
                rw [fa_fill_in hp, if_neg hp1]
                rfl
            · simp (disch := omega) only [me_II, me_Ii, me_Io, me_I2, me_L1, me_Li, me_LL, me_Lo, me_As, me_Ao, me_A2, me_Bs, me_Bo, me_B1]
              rw [fa_fill_in hi]
              rfl
          refine sr_221 (t := 0) hN (by show (0 : Nat) ≤ 200; omega) (by omega) (fun M3 k1 k2 => ?_)
          refine sg_222_77 (h M3 (gq_tr (gq_A q2 (by omega) (by omega)) (gq_kt k1)) (fun a h1 h2 => ?_) ?_ k2)
          · rw [k1.1 a (by omega)]
            subst hM2 hM1
            simp (disch := omega) only [me_II, me_Ii, me_Io, me_I2, me_L1, me_Li, me_LL, me_Lo, me_As, me_Ao, me_A2, me_Bs, me_Bo, me_B1]
          · obtain ⟨⟨g1, g2, g3⟩, g4, g5, g6, g7, g8⟩ := hN
            refine ⟨⟨?_, ?_, ?_⟩, ?_, ?_, ?_, fun x hx => absurd hx (Nat.not_lt_zero x), fun x hx => absurd hx (Nat.not_lt_zero x)⟩
            · rw [k1.1 56 (by omega)]; exact g1
            · rw [k1.1 56 (by omega)]; exact g2
            · rw [k1.1 56 (by omega)]; exact g3
            · rw [k1.1 68 (by omega)]; exact g4
            · rw [k1.1 69 (by omega)]; exact g5
            · rw [k1.1 70 (by omega)]; exact g6
        · refine sg_222_52 (fun c1 => by exfalso; (try simp (disch := omega) only [in_lt, in_le, in_eq, in_add, in_mul, in_sb, in_cl, in_bz, in_bo, in_mo, not_true_eq_false, not_false_eq_true, il_0, il_1, il_2, il_3, il_4, il_5, il_6, il_7, il_8, il_9, il_10, il_11, il_12, il_13, il_14, il_15, il_16, il_31, il_128] at c1) <;> omega) (fun c1 => by (try simp (disch := omega) only [in_lt, in_le, in_eq, in_add, in_mul, in_sb, in_cl, in_bz, in_bo, in_mo, not_true_eq_false, not_false_eq_true, il_0, il_1, il_2, il_3, il_4, il_5, il_6, il_7, il_8, il_9, il_10, il_11, il_12, il_13, il_14, il_15, il_16, il_31, il_128] at c1 ⊢) <;> exact me_vin (by omega) (by omega)) (fun c1 => ?_)
          rw [in_cl (by omega), in_a1, me_AI, fa_fill_succ (fun _ => -1)]
          exact ih
      have h0 := l2 0 (Nat.zero_le _)
      rw [fa_fill_0, me_Aid] at h0
      exact h0
    · refine sg_222_17 (fun c1 => by exfalso; (try simp (disch := omega) only [in_lt, in_le, in_eq, in_add, in_mul, in_sb, in_cl, in_bz, in_bo, in_mo, not_true_eq_false, not_false_eq_true, il_0, il_1, il_2, il_3, il_4, il_5, il_6, il_7, il_8, il_9, il_10, il_11, il_12, il_13, il_14, il_15, il_16, il_31] at c1) <;> omega) (fun c1 => by (try simp (disch := omega) only [in_lt, in_le, in_eq, in_add, in_mul, in_sb, in_cl, in_bz, in_bo, in_mo, not_true_eq_false, not_false_eq_true, il_0, il_1, il_2, il_3, il_4, il_5, il_6, il_7, il_8, il_9, il_10, il_11, il_12, il_13, il_14, il_15, il_16, il_31] at c1 ⊢) <;> exact me_vin (by omega) (by omega)) (fun c1 => ?_)
      rw [in_cl (by omega), in_a1, me_AA (by omega), fa_fill_succ (fun _ => 0), fa_fill_succ (fun _ => 0)]
      exact ih
  have h0 := l1 0 (Nat.zero_le _)
  rw [fa_fill_0, fa_fill_0, me_Aid] at h0
  have e : px_aI M1 69 (M1.1 69) = M1 := me_Aid
  rw [e] at h0
  exact h0
/-- what an event dirties: the pages, whose -/
def ws_db (why : Nat) (e : ws_E) : Nat := if why = 0 then (if e.1 = 0 then 255 else if e.1 = 9 then 2 ^ e.2.2.1 else 0) else 0
def ws_dw (e : ws_E) : Nat := if e.1 = 0 then e.2.2.1 else e.2.1
/-- an event as the reference keeps it behind a run -/
def re_at (s : ws_S) (e : ws_E) (lf : Bool) (i : Nat) (M : px_Mem) : Prop := M.1 73 i = (if lf = true then -1 else nI (ws_why s e)) ∧ M.1 74 i = nI (if lf = true then 0 else ws_db (ws_why s e) e) ∧ (lf = false → ws_why s e = 0 → M.1 75 i = nI (ws_dw e))
/-- a run as the reference keeps it -/
def rf_A (n law : Nat) (ev : Nat → ws_E) (lf : Nat → Bool) (M : px_Mem) : Prop := (∀ t, t ≤ n → rt_at (ws_run law ev lf t) t M) ∧ (∀ e, e < n → re_at (ws_run law ev lf e) (ev e) (lf e) e M) ∧ ∀ x, x < ws_md (ws_run law ev lf n) → M.1 71 x = nI (ws_kd (ws_run law ev lf n) x)
theorem ws_hw_le (k p a b : Nat) : ws_hw s k p a b ≤ 3 := by
  unfold ws_hw
  simp only
  repeat' split
  all_goals omega
theorem ws_pw_le (k p a b : Nat) : ws_pw s k p a b ≤ 6 := by
  unfold ws_pw
  simp only
  repeat' split
  all_goals omega
theorem ws_why_le (e : ws_E) : ws_why s e ≤ 6 := by
  have h1 := ws_hw_le (s := s) e.1 e.2.1 e.2.2.1 e.2.2.2
  have h2 := ws_pw_le (s := s) e.1 e.2.1 e.2.2.1 e.2.2.2
  unfold ws_why
  simp only
  repeat' split
  all_goals omega
theorem rf_N_kt {t : Nat} {M1 : px_Mem} (hN : rf_N s M) (k : kt_fr t M M1) : rf_N s M1 := by
  obtain ⟨⟨g1, g2, g3⟩, g4, g5, g6, g7, g8⟩ := hN
  unfold rf_N
  rw [k.1 56 (by omega), k.1 68 (by omega), k.1 69 (by omega), k.1 70 (by omega), k.1 71 (by omega), k.1 72 (by omega)]
  exact ⟨⟨g1, g2, g3⟩, g4, g5, g6, g7, g8⟩
theorem rf_N_I {a i : Nat} {x : Int32} (hN : rf_N s M) (h1 : a ≠ 56) (h2 : a < 68 ∨ 73 ≤ a) : rf_N s (px_wI M a i x) := by
  obtain ⟨⟨g1, g2, g3⟩, g4, g5, g6, g7, g8⟩ := hN
  unfold rf_N
  rw [me_Io (by omega), me_Io (by omega), me_Io (by omega), me_Io (by omega), me_Io (by omega), me_Io (by omega)]
  exact ⟨⟨g1, g2, g3⟩, g4, g5, g6, g7, g8⟩
theorem rt_at_fr {t : Nat} {M1 : px_Mem} (h : rt_at s t M) (k : ∀ a, 76 ≤ a → a < 82 → M1.1 a = M.1 a) : rt_at s t M1 := by
  unfold rt_at
  rw [k 76 (by omega) (by omega), k 77 (by omega) (by omega), k 78 (by omega) (by omega), k 79 (by omega) (by omega), k 80 (by omega) (by omega), k 81 (by omega) (by omega)]
  exact h
theorem re_at_fr {e : ws_E} {lf : Bool} {i : Nat} {M1 : px_Mem} (h : re_at s e lf i M) (k : ∀ a, 73 ≤ a → a < 76 → M1.1 a i = M.1 a i) : re_at s e lf i M1 := by
  unfold re_at
  rw [k 73 (by omega) (by omega), k 74 (by omega) (by omega), k 75 (by omega) (by omega)]
  exact h
theorem sr_223l {n law : Nat} {ev : Nat → ws_E} {lf : Nat → Bool} (hn : n ≤ 72) (hlaw : law ≤ 3) (hok : ∀ e, e < n → iv_ok (ev e)) (h : ∀ M', gq M M' → rf_A n law ev lf M' → Q none M') : ∀ (m e : Nat) (N : px_Mem), e + m = n → gq M N → rf_L n law ev lf N → rf_N (ws_run law ev lf e) N → (∀ t, t ≤ e → rt_at (ws_run law ev lf t) t N) → (∀ i, i < e → re_at (ws_run law ev lf i) (ev i) (lf i) i N) → px_T 0 223 6 [some (.ref 56), some (.int (nI e))] [] N Q
  | 0, e, N, he, hq, hL, hN, ht, hr => by
    have e1 : e = n := by omega
    subst e1
    have f := hL.1
    refine sg_223_6 (fun c1 => ?_) (fun c1 => by exfalso; (try simp (disch := omega) only [in_lt, in_le, in_eq, in_add, in_mul, in_sb, in_cl, in_bz, in_bo, in_mo, not_true_eq_false, not_false_eq_true, il_0, il_1, il_2, il_3, il_4, il_5, il_6, il_7, il_8, il_9, il_10, il_11, il_12, il_13, il_14, il_15, il_16, il_31, f] at c1) <;> omega) (fun c1 c2 => by exfalso; (try simp (disch := omega) only [in_lt, in_le, in_eq, in_add, in_mul, in_sb, in_cl, in_bz, in_bo, in_mo, not_true_eq_false, not_false_eq_true, il_0, il_1, il_2, il_3, il_4, il_5, il_6, il_7, il_8, il_9, il_10, il_11, il_12, il_13, il_14, il_15, il_16, il_31, f] at c1 c2) <;> omega) (fun c1 c2 => by exfalso; (try simp (disch := omega) only [in_lt, in_le, in_eq, in_add, in_mul, in_sb, in_cl, in_bz, in_bo, in_mo, not_true_eq_false, not_false_eq_true, il_0, il_1, il_2, il_3, il_4, il_5, il_6, il_7, il_8, il_9, il_10, il_11, il_12, il_13, il_14, il_15, il_16, il_31, f] at c1 c2) <;> omega)
    exact h N hq ⟨ht, hr, hN.2.2.2.2.1⟩
  | m + 1, e, N, he, hq, hL, hN, ht, hr => by
    have f := hL.1
    obtain ⟨f1, f2, f3, f4, f5⟩ := hL.2.2 e (by omega)
    have hmd := ws_md_run law ev lf e
    have hmd2 := ws_md_run law ev lf (e + 1)
    have hW : ws_W (ws_run law ev lf e) := ws_W_run (fun t ht _ => hok t (by omega))
    have hoke := hok e (by omega)
    have hb := iv_okb hoke
    have hwl := ws_why_le (s := ws_run law ev lf e) (ev e)
    -- the end of a turn
    have fin : ∀ (N2 : px_Mem), gq N N2 → rf_N (ws_run law ev lf (e + 1)) N2 → (∀ a, 76 ≤ a → a < 82 → N2.1 a = N.1 a) → (∀ a i, 73 ≤ a → a < 76 → i ≠ e → N2.1 a i = N.1 a i) → re_at (ws_run law ev lf e) (ev e) (lf e) e N2 → px_T 0 221 0 [some (.ref 56), some (.int (nI e + 1)), none] [] N2 (fun r M1 => px_T 0 223 140 [some (.ref 56), some (.int (nI e))] (r.toList ++ []) M1 Q) := by
      intro N2 g1 g2 g3 g4 g5
      rw [in_a1]
      refine sr_221 g2 (by omega) (by omega) (fun N3 k1 k2 => ?_)
      refine sg_223_140 ?_
      rw [in_a1]
      refine sr_223l hn hlaw hok h m (e + 1) N3 (by omega) (gq_tr hq (gq_tr g1 (gq_kt k1))) (rf_L_gq hL (gq_tr g1 (gq_kt k1))) (rf_N_kt g2 k1) (fun t ht2 => ?_) (fun i hi => ?_)
      · by_cases hte : t = e + 1
        · rw [hte]
          exact k2
        · have := ws_md_run law ev lf t
          exact rt_at_kt (rt_at_fr (ht t (by omega)) g3) (by omega) k1 hte
      · refine re_at_fr (M := N2) ?_ (fun a h1 h2 => by rw [k1.1 a (by omega)])
        by_cases hie : i = e
        · rw [hie]
          exact g5
        · exact re_at_fr (hr i (by omega)) (fun a h1 h2 => g4 a i h1 h2 hie)
    cases hl : lf e with
    | true =>
      have f6 : N.1 67 e = 1 := by rw [f5, hl]; rfl
      refine sg_223_6 (fun c1 => by exfalso; (try simp (disch := omega) only [in_lt, in_le, in_eq, in_add, in_mul, in_sb, in_cl, in_bz, in_bo, in_mo, not_true_eq_false, not_false_eq_true, il_0, il_1, il_2, il_3, il_4, il_5, il_6, il_7, il_8, il_9, il_10, il_11, il_12, il_13, il_14, il_15, il_16, il_31, f] at c1) <;> omega) (fun c1 => by (try simp (disch := omega) only [in_lt, in_le, in_eq, in_add, in_mul, in_sb, in_cl, in_bz, in_bo, in_mo, not_true_eq_false, not_false_eq_true, il_0, il_1, il_2, il_3, il_4, il_5, il_6, il_7, il_8, il_9, il_10, il_11, il_12, il_13, il_14, il_15, il_16, il_31, f] at c1 ⊢) <;> exact me_vin (by omega) (by omega)) (fun c1 c2 => absurd c2 (by rw [in_cl (by omega), f6]; decide)) (fun c1 c2 => ?_)
      rw [in_cl (by omega)]
      refine sg_223_38 (by (try simp (disch := omega) only [in_lt, in_le, in_eq, in_add, in_mul, in_sb, in_cl, in_bz, in_bo, in_mo, not_true_eq_false, not_false_eq_true, il_0, il_1, il_2, il_3, il_4, il_5, il_6, il_7, il_8, il_9, il_10, il_11, il_12, il_13, il_14, il_15, il_16, il_31] at ⊢) <;> exact me_vin (by omega) (by omega)) ?_
      rw [in_cl (by omega)]
      have g73 : (px_wI (px_wI N 73 e (-1)) 74 e 0).1 73 e = -1 := by simp (disch := omega) only [me_II, me_Ii, me_Io, me_I2, me_L1, me_Li, me_LL, me_Lo, me_As, me_Ao, me_A2, me_Bs, me_Bo, me_B1]
      refine sg_223_45 (by (try simp (disch := omega) only [in_lt, in_le, in_eq, in_add, in_mul, in_sb, in_cl, in_bz, in_bo, in_mo, not_true_eq_false, not_false_eq_true, il_0, il_1, il_2, il_3, il_4, il_5, il_6, il_7, il_8, il_9, il_10, il_11, il_12, il_13, il_14, il_15, il_16, il_31] at ⊢) <;> exact me_vin (by omega) (by omega)) (fun c1 => absurd c1 (by rw [in_cl (by omega), g73]; decide)) (fun c1 => ?_)
      refine fin _ (gq_I (gq_I gq_rf (by omega) (by omega)) (by omega) (by omega)) ?_ (fun a h1 h2 => by simp (disch := omega) only [me_II, me_Ii, me_Io, me_I2, me_L1, me_Li, me_LL, me_Lo, me_As, me_Ao, me_A2, me_Bs, me_Bo, me_B1]) (fun a i h1 h2 h3 => ?_) ?_
      · rw [ws_run_k hl]
        exact rf_N_I (rf_N_I hN (by omega) (by omega)) (by omega) (by omega)
      · rcases (show a = 73 ∨ a = 74 ∨ a = 75 by omega) with rfl | rfl | rfl <;> simp (disch := omega) only [me_II, me_Ii, me_Io, me_I2, me_L1, me_Li, me_LL, me_Lo, me_As, me_Ao, me_A2, me_Bs, me_Bo, me_B1]
      · rw [hl]
        refine ⟨?_, ?_, fun q => absurd q (by decide)⟩
        · rw [g73]; rfl
        · simp (disch := omega) only [me_II, me_Ii, me_Io, me_I2, me_L1, me_Li, me_LL, me_Lo, me_As, me_Ao, me_A2, me_Bs, me_Bo, me_B1]; rfl
    | false =>
      have f6 : N.1 67 e = 0 := by rw [f5, hl]; rfl
      refine sg_223_6 (fun c1 => by exfalso; (try simp (disch := omega) only [in_lt, in_le, in_eq, in_add, in_mul, in_sb, in_cl, in_bz, in_bo, in_mo, not_true_eq_false, not_false_eq_true, il_0, il_1, il_2, il_3, il_4, il_5, il_6, il_7, il_8, il_9, il_10, il_11, il_12, il_13, il_14, il_15, il_16, il_31, f] at c1) <;> omega) (fun c1 => by (try simp (disch := omega) only [in_lt, in_le, in_eq, in_add, in_mul, in_sb, in_cl, in_bz, in_bo, in_mo, not_true_eq_false, not_false_eq_true, il_0, il_1, il_2, il_3, il_4, il_5, il_6, il_7, il_8, il_9, il_10, il_11, il_12, il_13, il_14, il_15, il_16, il_31, f] at c1 ⊢) <;> exact me_vin (by omega) (by omega)) (fun c1 c2 => ?_) (fun c1 c2 => absurd (by rw [in_cl (by omega), f6]) c2)
      refine sr_214 hL (by omega) hn hN hW (by omega) hoke ?_
      refine sg_223_37 (by (try simp (disch := omega) only [in_lt, in_le, in_eq, in_add, in_mul, in_sb, in_cl, in_bz, in_bo, in_mo, not_true_eq_false, not_false_eq_true, il_0, il_1, il_2, il_3, il_4, il_5, il_6, il_7, il_8, il_9, il_10, il_11, il_12, il_13, il_14, il_15, il_16, il_31] at ⊢) <;> exact me_vin (by omega) (by omega)) ?_
      rw [in_cl (by omega)]
      refine sg_223_38 (by (try simp (disch := omega) only [in_lt, in_le, in_eq, in_add, in_mul, in_sb, in_cl, in_bz, in_bo, in_mo, not_true_eq_false, not_false_eq_true, il_0, il_1, il_2, il_3, il_4, il_5, il_6, il_7, il_8, il_9, il_10, il_11, il_12, il_13, il_14, il_15, il_16, il_31] at ⊢) <;> exact me_vin (by omega) (by omega)) ?_
      rw [in_cl (by omega)]
      generalize hw : ws_why (ws_run law ev lf e) (ev e) = w at *
      generalize hN1 : px_wI (px_wI N 73 e (nI w)) 74 e 0 = N1
      have g73 : N1.1 73 e = nI w := by subst hN1; simp (disch := omega) only [me_II, me_Ii, me_Io, me_I2, me_L1, me_Li, me_LL, me_Lo, me_As, me_Ao, me_A2, me_Bs, me_Bo, me_B1]
      have g74 : N1.1 74 e = 0 := by subst hN1; simp (disch := omega) only [me_II, me_Ii, me_Io, me_I2, me_L1, me_Li, me_LL, me_Lo, me_As, me_Ao, me_A2, me_Bs, me_Bo, me_B1]
      have q1 : gq N N1 := by subst hN1; exact gq_I (gq_I gq_rf (by omega) (by omega)) (by omega) (by omega)
      have n1 : rf_N (ws_run law ev lf e) N1 := by subst hN1; exact rf_N_I (rf_N_I hN (by omega) (by omega)) (by omega) (by omega)
      have t1 : ∀ a, 75 ≤ a → a < 82 → N1.1 a = N.1 a := by subst hN1; intro a h1 h2; simp (disch := omega) only [me_II, me_Ii, me_Io, me_I2, me_L1, me_Li, me_LL, me_Lo, me_As, me_Ao, me_A2, me_Bs, me_Bo, me_B1]
      have r1 : ∀ a i, 73 ≤ a → a < 76 → i ≠ e → N1.1 a i = N.1 a i := by
        subst hN1
        intro a i h1 h2 h3
        rcases (show a = 73 ∨ a = 74 ∨ a = 75 by omega) with rfl | rfl | rfl <;> simp (disch := omega) only [me_II, me_Ii, me_Io, me_I2, me_L1, me_Li, me_LL, me_Lo, me_As, me_Ao, me_A2, me_Bs, me_Bo, me_B1]
      refine sg_223_45 (by (try simp (disch := omega) only [in_lt, in_le, in_eq, in_add, in_mul, in_sb, in_cl, in_bz, in_bo, in_mo, not_true_eq_false, not_false_eq_true, il_0, il_1, il_2, il_3, il_4, il_5, il_6, il_7, il_8, il_9, il_10, il_11, il_12, il_13, il_14, il_15, il_16, il_31, g73] at ⊢) <;> exact me_vin (by omega) (by omega)) (fun c1 => ?_) (fun c1 => ?_)
      · simp (disch := omega) only [in_lt, in_le, in_eq, in_add, in_mul, in_sb, in_cl, in_bz, in_bo, in_mo, not_true_eq_false, not_false_eq_true, il_0, il_1, il_2, il_3, il_4, il_5, il_6, il_7, il_8, il_9, il_10, il_11, il_12, il_13, il_14, il_15, il_16, il_31, g73] at c1
        rw [c1] at hw
        refine sr_220 (rf_L_gq hL q1) (by omega) hn n1 hW (by omega) hlaw hoke hw (fun N2 k1 k2 => ?_)
        have hrun : ws_run law ev lf (e + 1) = ws_ap law (ws_run law ev lf e) (ev e) := by rw [ws_run_s hl, ws_st, if_pos hw]
        rw [← hrun] at k2
        obtain ⟨l1, l2, l3, l4, l5⟩ := (rf_L_gq hL (gq_tr q1 (gq_g k1))).2.2 e (by omega)
        have last : ∀ (x75 : Int32) (x74 : Nat), x75 = nI (ws_dw (ev e)) → x74 = ws_db 0 (ev e) → px_T 0 221 0 [some (.ref 56), some (.int (nI e + 1)), none] [] (px_wI (px_wI N2 75 e x75) 74 e (nI x74)) (fun r M1 => px_T 0 223 140 [some (.ref 56), some (.int (nI e))] (r.toList ++ []) M1 Q) := by
          intro x75 x74 e75 e74
          refine fin _ (gq_I (gq_I (gq_tr q1 (gq_g k1)) (by omega) (by omega)) (by omega) (by omega)) (rf_N_I (rf_N_I k2 (by omega) (by omega)) (by omega) (by omega)) (fun a h1 h2 => ?_) (fun a i h1 h2 h3 => ?_) ?_
          · simp (disch := omega) only [me_II, me_Ii, me_Io, me_I2, me_L1, me_Li, me_LL, me_Lo, me_As, me_Ao, me_A2, me_Bs, me_Bo, me_B1]
            rw [k1.1 a (by omega) (by omega)]
            exact t1 a (by omega) h2
          · rcases (show a = 73 ∨ a = 74 ∨ a = 75 by omega) with rfl | rfl | rfl
            · simp (disch := omega) only [me_II, me_Ii, me_Io, me_I2, me_L1, me_Li, me_LL, me_Lo, me_As, me_Ao, me_A2, me_Bs, me_Bo, me_B1]
              rw [k1.1 73 (by omega) (by omega)]
              exact r1 73 i (by omega) (by omega) h3
            · simp (disch := omega) only [me_II, me_Ii, me_Io, me_I2, me_L1, me_Li, me_LL, me_Lo, me_As, me_Ao, me_A2, me_Bs, me_Bo, me_B1]
              rw [k1.1 74 (by omega) (by omega)]
              exact r1 74 i (by omega) (by omega) h3
            · simp (disch := omega) only [me_II, me_Ii, me_Io, me_I2, me_L1, me_Li, me_LL, me_Lo, me_As, me_Ao, me_A2, me_Bs, me_Bo, me_B1]
              rw [k1.1 75 (by omega) (by omega)]
              exact r1 75 i (by omega) (by omega) h3
          · rw [hl]
            refine ⟨?_, ?_, fun _ _ => ?_⟩
            · simp (disch := omega) only [me_II, me_Ii, me_Io, me_I2, me_L1, me_Li, me_LL, me_Lo, me_As, me_Ao, me_A2, me_Bs, me_Bo, me_B1]
              rw [k1.1 73 (by omega) (by omega), g73, if_neg (by decide), hw, c1]
            · simp (disch := omega) only [me_II, me_Ii, me_Io, me_I2, me_L1, me_Li, me_LL, me_Lo, me_As, me_Ao, me_A2, me_Bs, me_Bo, me_B1]
              rw [if_neg (by decide), hw, e74]
            · simp (disch := omega) only [me_II, me_Ii, me_Io, me_I2, me_L1, me_Li, me_LL, me_Lo, me_As, me_Ao, me_A2, me_Bs, me_Bo, me_B1]
              exact e75
        have mid : ∀ x75 : Int32, x75 = nI (ws_dw (ev e)) → px_T 0 223 89 [some (.ref 56), some (.int (nI e))] [] (px_wI N2 75 e x75) Q := by
          intro x75 e75
          have m1 : (px_wI N2 75 e x75).1 63 e = nI (ev e).1 := by simp (disch := omega) only [me_II, me_Ii, me_Io, me_I2, me_L1, me_Li, me_LL, me_Lo, me_As, me_Ao, me_A2, me_Bs, me_Bo, me_B1]; exact l1
          have m3 : (px_wI N2 75 e x75).1 65 e = nI (ev e).2.2.1 := by simp (disch := omega) only [me_II, me_Ii, me_Io, me_I2, me_L1, me_Li, me_LL, me_Lo, me_As, me_Ao, me_A2, me_Bs, me_Bo, me_B1]; exact l3
          refine sg_223_89 (by (try simp (disch := omega) only [in_lt, in_le, in_eq, in_add, in_mul, in_sb, in_cl, in_bz, in_bo, in_mo, not_true_eq_false, not_false_eq_true, il_0, il_1, il_2, il_3, il_4, il_5, il_6, il_7, il_8, il_9, il_10, il_11, il_12, il_13, il_14, il_15, il_16, il_31, m1, m3] at ⊢) <;> exact me_vin (by omega) (by omega)) (fun c1 => ?_) (fun c1 c2 => ?_) (fun c1 c2 => ?_)
          · simp (disch := omega) only [in_lt, in_le, in_eq, in_add, in_mul, in_sb, in_cl, in_bz, in_bo, in_mo, not_true_eq_false, not_false_eq_true, il_0, il_1, il_2, il_3, il_4, il_5, il_6, il_7, il_8, il_9, il_10, il_11, il_12, il_13, il_14, il_15, il_16, il_31, m1] at c1
            rw [in_cl (by omega)]
            exact last x75 255 e75 (by rw [ws_db, if_pos rfl, if_pos c1])
          · simp (disch := omega) only [in_lt, in_le, in_eq, in_add, in_mul, in_sb, in_cl, in_bz, in_bo, in_mo, not_true_eq_false, not_false_eq_true, il_0, il_1, il_2, il_3, il_4, il_5, il_6, il_7, il_8, il_9, il_10, il_11, il_12, il_13, il_14, il_15, il_16, il_31, m1] at c1 c2
            rw [in_cl (by omega), m3, in_one (by omega)]
            exact last x75 _ e75 (by rw [ws_db, if_pos rfl, if_neg c1, if_pos c2])
          · simp (disch := omega) only [in_lt, in_le, in_eq, in_add, in_mul, in_sb, in_cl, in_bz, in_bo, in_mo, not_true_eq_false, not_false_eq_true, il_0, il_1, il_2, il_3, il_4, il_5, il_6, il_7, il_8, il_9, il_10, il_11, il_12, il_13, il_14, il_15, il_16, il_31, m1] at c1 c2
            rw [in_cl (by omega)]
            exact last x75 0 e75 (by rw [ws_db, if_pos rfl, if_neg c1, if_neg c2])
        refine sg_223_59 (by (try simp (disch := omega) only [in_lt, in_le, in_eq, in_add, in_mul, in_sb, in_cl, in_bz, in_bo, in_mo, not_true_eq_false, not_false_eq_true, il_0, il_1, il_2, il_3, il_4, il_5, il_6, il_7, il_8, il_9, il_10, il_11, il_12, il_13, il_14, il_15, il_16, il_31, l1, l2, l3] at ⊢) <;> exact me_vin (by omega) (by omega)) (fun c1 => ?_) (fun c1 => ?_)
        · simp (disch := omega) only [in_lt, in_le, in_eq, in_add, in_mul, in_sb, in_cl, in_bz, in_bo, in_mo, not_true_eq_false, not_false_eq_true, il_0, il_1, il_2, il_3, il_4, il_5, il_6, il_7, il_8, il_9, il_10, il_11, il_12, il_13, il_14, il_15, il_16, il_31, l1] at c1
          rw [in_cl (by omega), l3]
          exact mid _ (by rw [ws_dw, if_pos c1])
        · simp (disch := omega) only [in_lt, in_le, in_eq, in_add, in_mul, in_sb, in_cl, in_bz, in_bo, in_mo, not_true_eq_false, not_false_eq_true, il_0, il_1, il_2, il_3, il_4, il_5, il_6, il_7, il_8, il_9, il_10, il_11, il_12, il_13, il_14, il_15, il_16, il_31, l1] at c1
          rw [in_cl (by omega), l2]
          exact mid _ (by rw [ws_dw, if_neg c1])
      · simp (disch := omega) only [in_lt, in_le, in_eq, in_add, in_mul, in_sb, in_cl, in_bz, in_bo, in_mo, not_true_eq_false, not_false_eq_true, il_0, il_1, il_2, il_3, il_4, il_5, il_6, il_7, il_8, il_9, il_10, il_11, il_12, il_13, il_14, il_15, il_16, il_31, g73] at c1
        refine fin N1 q1 ?_ (fun a h1 h2 => t1 a (by omega) h2) r1 ?_
        · rw [ws_run_s hl, ws_st, if_neg (by rw [hw]; exact c1)]
          exact n1
        · rw [hl]
          refine ⟨?_, ?_, fun _ q => absurd q (by rw [hw]; exact c1)⟩
          · rw [g73, if_neg (by decide), hw]
          · rw [g74, if_neg (by decide), ws_db, hw, if_neg c1]
            rfl
theorem sr_223 {n law : Nat} {ev : Nat → ws_E} {lf : Nat → Bool} (hL : rf_L n law ev lf M) (hn : n ≤ 72) (hlaw : law ≤ 3) (hok : ∀ e, e < n → iv_ok (ev e)) (h : ∀ M', gq M M' → rf_A n law ev lf M' → Q none M') : px_T 0 223 0 [some (.ref 56), none] [] M Q := by
  refine sg_223_0 (sr_222 (fun M1 k1 _ k3 k4 => ?_))
  refine sg_223_4 ?_
  refine sr_223l hn hlaw hok h n 0 M1 (by omega) k1 (rf_L_gq hL k1) k3 (fun t ht => ?_) (fun i hi => absurd hi (Nat.not_lt_zero i))
  have : t = 0 := by omega
  subst this
  exact k4
end G42
