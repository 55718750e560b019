/-! the reference: what an event does to the state now -/
section R41
variable {M : px_Mem} {Q : px_Po} {s : ws_S}
theorem rf_N_pa (hN : rf_N s M) (v y : Nat) : rf_N (ws_wpa s (ws_up (ws_pa s) v y)) (px_wI M 68 v (nI y)) := by
  obtain ⟨⟨h1, h2, h3⟩, h4, h5, h6, h7, h8⟩ := hN
  refine ⟨⟨?_, ?_, ?_⟩, fun x hx => ?_, ?_, ?_, ?_, ?_⟩
  · simp (disch := omega) only [me_II, me_Ii, me_Io, me_I2, me_L1, me_Li, me_LL, me_Lo, me_As, me_Ao, me_A2, me_Bs, me_Bo, me_B1]; exact h1
  · simp (disch := omega) only [me_II, me_Ii, me_Io, me_I2, me_L1, me_Li, me_LL, me_Lo, me_As, me_Ao, me_A2, me_Bs, me_Bo, me_B1]; exact h2
  · simp (disch := omega) only [me_II, me_Ii, me_Io, me_I2, me_L1, me_Li, me_LL, me_Lo, me_As, me_Ao, me_A2, me_Bs, me_Bo, me_B1]; exact h3
  · show _ = nI (ws_up (ws_pa s) v y x)
    by_cases hxv : x = v
    · subst hxv
      rw [me_II, ws_up_s]
    · rw [me_Ii hxv, ws_up_n _ _ hxv]
      exact h4 x hx
  · simp (disch := omega) only [me_II, me_Ii, me_Io, me_I2, me_L1, me_Li, me_LL, me_Lo, me_As, me_Ao, me_A2, me_Bs, me_Bo, me_B1]; exact h5
  · simp (disch := omega) only [me_II, me_Ii, me_Io, me_I2, me_L1, me_Li, me_LL, me_Lo, me_As, me_Ao, me_A2, me_Bs, me_Bo, me_B1]; exact h6
  · simp (disch := omega) only [me_II, me_Ii, me_Io, me_I2, me_L1, me_Li, me_LL, me_Lo, me_As, me_Ao, me_A2, me_Bs, me_Bo, me_B1]; exact h7
  · simp (disch := omega) only [me_II, me_Ii, me_Io, me_I2, me_L1, me_Li, me_LL, me_Lo, me_As, me_Ao, me_A2, me_Bs, me_Bo, me_B1]; exact h8
theorem rf_N_se (hN : rf_N s M) (v y : Nat) : rf_N (ws_wse s v y) (px_wI M 69 v (nI y)) := by
  obtain ⟨⟨h1, h2, h3⟩, h4, h5, h6, h7, h8⟩ := hN
  refine ⟨⟨?_, ?_, ?_⟩, ?_, fun x hx => ?_, ?_, ?_, ?_⟩
  · simp (disch := omega) only [me_II, me_Ii, me_Io, me_I2, me_L1, me_Li, me_LL, me_Lo, me_As, me_Ao, me_A2, me_Bs, me_Bo, me_B1]; exact h1
  · simp (disch := omega) only [me_II, me_Ii, me_Io, me_I2, me_L1, me_Li, me_LL, me_Lo, me_As, me_Ao, me_A2, me_Bs, me_Bo, me_B1]; exact h2
  · simp (disch := omega) only [me_II, me_Ii, me_Io, me_I2, me_L1, me_Li, me_LL, me_Lo, me_As, me_Ao, me_A2, me_Bs, me_Bo, me_B1]; exact h3
  · simp (disch := omega) only [me_II, me_Ii, me_Io, me_I2, me_L1, me_Li, me_LL, me_Lo, me_As, me_Ao, me_A2, me_Bs, me_Bo, me_B1]; exact h4
  · show _ = nI (ws_up (ws_se s) v y x)
    by_cases hxv : x = v
    · subst hxv
      rw [me_II, ws_up_s]
    · rw [me_Ii hxv, ws_up_n _ _ hxv]
      exact h5 x hx
  · simp (disch := omega) only [me_II, me_Ii, me_Io, me_I2, me_L1, me_Li, me_LL, me_Lo, me_As, me_Ao, me_A2, me_Bs, me_Bo, me_B1]; exact h6
  · simp (disch := omega) only [me_II, me_Ii, me_Io, me_I2, me_L1, me_Li, me_LL, me_Lo, me_As, me_Ao, me_A2, me_Bs, me_Bo, me_B1]; exact h7
  · simp (disch := omega) only [me_II, me_Ii, me_Io, me_I2, me_L1, me_Li, me_LL, me_Lo, me_As, me_Ao, me_A2, me_Bs, me_Bo, me_B1]; exact h8
theorem rf_N_ob (hN : rf_N s M) (v y : Nat) : rf_N (ws_hold s v y) (px_wI M 70 v (nI y - 1)) := by
  obtain ⟨⟨h1, h2, h3⟩, h4, h5, h6, h7, h8⟩ := hN
  refine ⟨⟨?_, ?_, ?_⟩, ?_, ?_, fun x hx => ?_, ?_, ?_⟩
  · simp (disch := omega) only [me_II, me_Ii, me_Io, me_I2, me_L1, me_Li, me_LL, me_Lo, me_As, me_Ao, me_A2, me_Bs, me_Bo, me_B1]; exact h1
  · simp (disch := omega) only [me_II, me_Ii, me_Io, me_I2, me_L1, me_Li, me_LL, me_Lo, me_As, me_Ao, me_A2, me_Bs, me_Bo, me_B1]; exact h2
  · simp (disch := omega) only [me_II, me_Ii, me_Io, me_I2, me_L1, me_Li, me_LL, me_Lo, me_As, me_Ao, me_A2, me_Bs, me_Bo, me_B1]; exact h3
  · simp (disch := omega) only [me_II, me_Ii, me_Io, me_I2, me_L1, me_Li, me_LL, me_Lo, me_As, me_Ao, me_A2, me_Bs, me_Bo, me_B1]; exact h4
  · simp (disch := omega) only [me_II, me_Ii, me_Io, me_I2, me_L1, me_Li, me_LL, me_Lo, me_As, me_Ao, me_A2, me_Bs, me_Bo, me_B1]; exact h5
  · show _ = nI (ws_up (ws_ob s) v y x) - 1
    by_cases hxv : x = v
    · subst hxv
      rw [me_II, ws_up_s]
    · rw [me_Ii hxv, ws_up_n _ _ hxv]
      exact h6 x hx
  · simp (disch := omega) only [me_II, me_Ii, me_Io, me_I2, me_L1, me_Li, me_LL, me_Lo, me_As, me_Ao, me_A2, me_Bs, me_Bo, me_B1]; exact h7
  · simp (disch := omega) only [me_II, me_Ii, me_Io, me_I2, me_L1, me_Li, me_LL, me_Lo, me_As, me_Ao, me_A2, me_Bs, me_Bo, me_B1]; exact h8
theorem rf_N_by (hN : rf_N s M) (v y : Nat) : rf_N (ws_wby s v y) (px_wI M 72 v (nI y)) := by
  obtain ⟨⟨h1, h2, h3⟩, h4, h5, h6, h7, h8⟩ := hN
  refine ⟨⟨?_, ?_, ?_⟩, ?_, ?_, ?_, ?_, fun x hx => ?_⟩
  · simp (disch := omega) only [me_II, me_Ii, me_Io, me_I2, me_L1, me_Li, me_LL, me_Lo, me_As, me_Ao, me_A2, me_Bs, me_Bo, me_B1]; exact h1
  · simp (disch := omega) only [me_II, me_Ii, me_Io, me_I2, me_L1, me_Li, me_LL, me_Lo, me_As, me_Ao, me_A2, me_Bs, me_Bo, me_B1]; exact h2
  · simp (disch := omega) only [me_II, me_Ii, me_Io, me_I2, me_L1, me_Li, me_LL, me_Lo, me_As, me_Ao, me_A2, me_Bs, me_Bo, me_B1]; exact h3
  · simp (disch := omega) only [me_II, me_Ii, me_Io, me_I2, me_L1, me_Li, me_LL, me_Lo, me_As, me_Ao, me_A2, me_Bs, me_Bo, me_B1]; exact h4
  · simp (disch := omega) only [me_II, me_Ii, me_Io, me_I2, me_L1, me_Li, me_LL, me_Lo, me_As, me_Ao, me_A2, me_Bs, me_Bo, me_B1]; exact h5
  · simp (disch := omega) only [me_II, me_Ii, me_Io, me_I2, me_L1, me_Li, me_LL, me_Lo, me_As, me_Ao, me_A2, me_Bs, me_Bo, me_B1]; exact h6
  · simp (disch := omega) only [me_II, me_Ii, me_Io, me_I2, me_L1, me_Li, me_LL, me_Lo, me_As, me_Ao, me_A2, me_Bs, me_Bo, me_B1]; exact h7
  · show _ = nI (ws_up (ws_by s) v y x)
    by_cases hxv : x = v
    · subst hxv
      rw [me_II, ws_up_s]
    · rw [me_Ii hxv, ws_up_n _ _ hxv]
      exact h8 x hx
theorem rf_N_new (hN : rf_N s M) (k : Nat) : rf_N (ws_new s k) (px_wI (px_wI (px_wI M 71 (ws_md s) (nI k)) 72 (ws_md s) 0) 56 27 (nI (ws_md s + 1))) := by
  obtain ⟨⟨h1, h2, h3⟩, h4, h5, h6, h7, h8⟩ := hN
  refine ⟨⟨?_, ?_, ?_⟩, ?_, ?_, ?_, fun x hx => ?_, fun x hx => ?_⟩
  · simp (disch := omega) only [me_II, me_Ii, me_Io, me_I2, me_L1, me_Li, me_LL, me_Lo, me_As, me_Ao, me_A2, me_Bs, me_Bo, me_B1]; exact h1
  · simp (disch := omega) only [me_II, me_Ii, me_Io, me_I2, me_L1, me_Li, me_LL, me_Lo, me_As, me_Ao, me_A2, me_Bs, me_Bo, me_B1]; exact h2
  · simp (disch := omega) only [me_II, me_Ii, me_Io, me_I2, me_L1, me_Li, me_LL, me_Lo, me_As, me_Ao, me_A2, me_Bs, me_Bo, me_B1]; rfl
  · simp (disch := omega) only [me_II, me_Ii, me_Io, me_I2, me_L1, me_Li, me_LL, me_Lo, me_As, me_Ao, me_A2, me_Bs, me_Bo, me_B1]; exact h4
  · simp (disch := omega) only [me_II, me_Ii, me_Io, me_I2, me_L1, me_Li, me_LL, me_Lo, me_As, me_Ao, me_A2, me_Bs, me_Bo, me_B1]; exact h5
  · simp (disch := omega) only [me_II, me_Ii, me_Io, me_I2, me_L1, me_Li, me_LL, me_Lo, me_As, me_Ao, me_A2, me_Bs, me_Bo, me_B1]; exact h6
  · show _ = nI (ws_up (ws_kd s) (ws_md s) k x)
    rw [me_Io (by omega), me_Io (by omega)]
    by_cases hxv : x = ws_md s
    · subst hxv
      rw [me_II, ws_up_s]
    · rw [me_Ii hxv, ws_up_n _ _ hxv]
      have hx2 : x < ws_md s + 1 := hx
      exact h7 x (by omega)
  · show _ = nI (ws_up (ws_by s) (ws_md s) 0 x)
    rw [me_Io (by omega)]
    by_cases hxv : x = ws_md s
    · subst hxv
      rw [me_II, ws_up_s]
      rfl
    · rw [me_Ii hxv, ws_up_n _ _ hxv, me_Io (by omega)]
      have hx2 : x < ws_md s + 1 := hx
      exact h8 x (by omega)
theorem sr_219 (hN : rf_N s M) (hm : ws_md s < 200) {k : Nat} (h : ∀ M', rf_g M M' → rf_N (ws_new s k) M' → Q (some (.int (nI (ws_md s)))) M') : px_T 0 219 0 [some (.ref 56), some (.int (nI k))] [] M Q := by
  have f1 := hN.1.2.2
  refine sg_219_0 ?_ ?_
  · rw [f1]
    exact me_vin hm (by omega)
  · rw [f1, in_cl (by omega), in_a1, nI_pred]
    exact h _ (rf_g_F (rf_g_I (rf_g_I rf_g_rf (by omega) (by omega)) (by omega) (by omega)) (by omega)) (rf_N_new hN k)
theorem sr_218l {p a : Nat} {ob : Nat → Nat} (hp : p < 16) (ha : a < 16) (hpa : p ≠ a) (h : ∀ M', rf_g M M' → rf_N (ws_wob s (ws_sp ob a (fun k => ob (8 * p + k)) 8)) M' → Q none M') : ∀ (n i : Nat) (N : px_Mem), i + n = 8 → rf_g M N → rf_N (ws_wob s (ws_sp ob a (fun k => ob (8 * p + k)) i)) N → px_T 0 218 45 [some (.ref 56), some (.int (nI p)), some (.int (nI a)), some (.int (nI i))] [] N Q
  | 0, i, N, hi, hk, hN => by
    have e : i = 8 := by omega
    subst e
    refine sg_218_45 (fun c1 => ?_) (fun c1 => by exfalso; (try simp (disch := omega) only [in_lt, in_le, in_eq, in_add, in_mul, in_sb, in_cl, in_bz, in_bo, in_mo, not_true_eq_false, not_false_eq_true, il_0, il_1, il_2, il_3, il_4, il_5, il_6, il_7, il_8, il_9, il_10, il_11, il_12, il_13, il_14, il_15, il_16, il_31] at c1) <;> omega)
    exact h N hk hN
  | n + 1, i, N, hi, hk, hN => by
    refine sg_218_45 (fun c1 => by exfalso; (try simp (disch := omega) only [in_lt, in_le, in_eq, in_add, in_mul, in_sb, in_cl, in_bz, in_bo, in_mo, not_true_eq_false, not_false_eq_true, il_0, il_1, il_2, il_3, il_4, il_5, il_6, il_7, il_8, il_9, il_10, il_11, il_12, il_13, il_14, il_15, il_16, il_31] at c1) <;> omega) (fun c1 => ?_)
    refine sr_210 hN hp (by omega) ?_
    have e1 : ws_ob (ws_wob s (ws_sp ob a (fun k => ob (8 * p + k)) i)) (8 * p + i) = ob (8 * p + i) := if_neg (by omega)
    rw [e1, il_8, in_mul, in_add]
    refine sg_218_67 (by (try simp (disch := omega) only [in_lt, in_le, in_eq, in_add, in_mul, in_sb, in_cl, in_bz, in_bo, in_mo, not_true_eq_false, not_false_eq_true, il_0, il_1, il_2, il_3, il_4, il_5, il_6, il_7, il_8, il_9, il_10, il_11, il_12, il_13, il_14, il_15, il_16, il_31] at ⊢) <;> exact me_vin (by omega) (by omega)) ?_
    rw [in_cl (by omega), in_a1]
    refine sr_218l hp ha hpa h n (i + 1) _ (by omega) (rf_g_I hk (by omega) (by omega)) ?_
    rw [← ws_sp_s ob a (fun k => ob (8 * p + k)) (by omega)]
    exact rf_N_ob hN (8 * a + i) (ob (8 * p + i))
theorem sr_218 (hN : rf_N s M) {p a : Nat} (hp : p < 16) (ha : a < 16) (hpa : p ≠ a) (h : ∀ M', rf_g M M' → rf_N (ws_wob (ws_ap0 s p a) (fun i => if i / 8 = a then ws_ob s (8 * p + i % 8) else ws_ob s i)) M' → Q none M') : px_T 0 218 0 [some (.ref 56), some (.int (nI p)), some (.int (nI a)), none] [] M Q := by
  obtain ⟨⟨h1, h2, h3⟩, h4, h5, h6, h7, h8⟩ := hN
  refine sg_218_0 (by (try simp (disch := omega) only [in_lt, in_le, in_eq, in_add, in_mul, in_sb, in_cl, in_bz, in_bo, in_mo, not_true_eq_false, not_false_eq_true, il_0, il_1, il_2, il_3, il_4, il_5, il_6, il_7, il_8, il_9, il_10, il_11, il_12, il_13, il_14, il_15, il_16, il_31] at ⊢) <;> exact me_vin (by omega) (by omega)) (by (try simp (disch := omega) only [in_lt, in_le, in_eq, in_add, in_mul, in_sb, in_cl, in_bz, in_bo, in_mo, not_true_eq_false, not_false_eq_true, il_0, il_1, il_2, il_3, il_4, il_5, il_6, il_7, il_8, il_9, il_10, il_11, il_12, il_13, il_14, il_15, il_16, il_31] at ⊢) <;> exact me_vin (by omega) (by omega)) ?_
  refine sg_218_43 ?_
  rw [in_one (by omega), h1, h2, in_or, in_or]
  simp (disch := omega) only [in_cl]
  rw [h5 p hp]
  refine sr_218l (M := M) (s := ws_ap0 s p a) (ob := ws_ob s) hp ha hpa (fun M' k1 d1 => ?_) 8 0 _ rfl (rf_g_I (rf_g_I (rf_g_F (rf_g_F rf_g_rf (by omega)) (by omega)) (by omega) (by omega)) (by omega) (by omega)) ?_
  · rw [ws_sp_8] at d1
    exact h M' k1 d1
  · rw [ws_sp_0]
    refine ⟨⟨?_, ?_, ?_⟩, fun x hx => ?_, fun x hx => ?_, ?_, ?_, ?_⟩
    · simp (disch := omega) only [me_II, me_Ii, me_Io, me_I2, me_L1, me_Li, me_LL, me_Lo, me_As, me_Ao, me_A2, me_Bs, me_Bo, me_B1]; rfl
    · simp (disch := omega) only [me_II, me_Ii, me_Io, me_I2, me_L1, me_Li, me_LL, me_Lo, me_As, me_Ao, me_A2, me_Bs, me_Bo, me_B1]; rfl
    · simp (disch := omega) only [me_II, me_Ii, me_Io, me_I2, me_L1, me_Li, me_LL, me_Lo, me_As, me_Ao, me_A2, me_Bs, me_Bo, me_B1]; exact h3
    · show _ = nI (ws_up (ws_pa s) a p x)
      by_cases hxv : x = a
      · subst hxv
        simp (disch := omega) only [me_II, me_Ii, me_Io, me_I2, me_L1, me_Li, me_LL, me_Lo, me_As, me_Ao, me_A2, me_Bs, me_Bo, me_B1, ws_up_s]
      · simp (disch := omega) only [me_II, me_Ii, me_Io, me_I2, me_L1, me_Li, me_LL, me_Lo, me_As, me_Ao, me_A2, me_Bs, me_Bo, me_B1, ws_up_n _ _ hxv]
        exact h4 x hx
    · show _ = nI (ws_up (ws_se s) a (ws_se s p) x)
      by_cases hxv : x = a
      · subst hxv
        simp (disch := omega) only [me_II, me_Ii, me_Io, me_I2, me_L1, me_Li, me_LL, me_Lo, me_As, me_Ao, me_A2, me_Bs, me_Bo, me_B1, ws_up_s]
      · simp (disch := omega) only [me_II, me_Ii, me_Io, me_I2, me_L1, me_Li, me_LL, me_Lo, me_As, me_Ao, me_A2, me_Bs, me_Bo, me_B1, ws_up_n _ _ hxv]
        exact h5 x hx
    · simp (disch := omega) only [me_II, me_Ii, me_Io, me_I2, me_L1, me_Li, me_LL, me_Lo, me_As, me_Ao, me_A2, me_Bs, me_Bo, me_B1]; exact h6
    · simp (disch := omega) only [me_II, me_Ii, me_Io, me_I2, me_L1, me_Li, me_LL, me_Lo, me_As, me_Ao, me_A2, me_Bs, me_Bo, me_B1]; exact h7
    · simp (disch := omega) only [me_II, me_Ii, me_Io, me_I2, me_L1, me_Li, me_LL, me_Lo, me_As, me_Ao, me_A2, me_Bs, me_Bo, me_B1]; exact h8
theorem sr_217l {p : Nat} {d3 : Option Value} {ob : Nat → Nat} (hp : p < 16) (h : ∀ M', rf_g M M' → rf_N (ws_wob s (ws_sp ob p (fun _ => 0) 8)) M' → px_T 0 217 44 [some (.ref 56), some (.int (nI p)), some (.int (-1)), some (.int 1)] [] M' Q) : ∀ (n i : Nat) (N : px_Mem), i + n = 8 → rf_g M N → rf_N (ws_wob s (ws_sp ob p (fun _ => 0) i)) N → px_T 0 217 16 [some (.ref 56), some (.int (nI p)), some (.int (nI i)), d3] [] N Q
  | 0, i, N, hi, hk, hN => by
    have e : i = 8 := by omega
    subst e
    refine sg_217_16 (fun c1 => ?_) (fun c1 => by exfalso; (try simp (disch := omega) only [in_lt, in_le, in_eq, in_add, in_mul, in_sb, in_cl, in_bz, in_bo, in_mo, not_true_eq_false, not_false_eq_true, il_0, il_1, il_2, il_3, il_4, il_5, il_6, il_7, il_8, il_9, il_10, il_11, il_12, il_13, il_14, il_15, il_16, il_31] at c1) <;> omega) (fun c1 => by exfalso; (try simp (disch := omega) only [in_lt, in_le, in_eq, in_add, in_mul, in_sb, in_cl, in_bz, in_bo, in_mo, not_true_eq_false, not_false_eq_true, il_0, il_1, il_2, il_3, il_4, il_5, il_6, il_7, il_8, il_9, il_10, il_11, il_12, il_13, il_14, il_15, il_16, il_31] at c1) <;> omega)
    exact h N hk hN
  | n + 1, i, N, hi, hk, hN => by
    refine sg_217_16 (fun c1 => by exfalso; (try simp (disch := omega) only [in_lt, in_le, in_eq, in_add, in_mul, in_sb, in_cl, in_bz, in_bo, in_mo, not_true_eq_false, not_false_eq_true, il_0, il_1, il_2, il_3, il_4, il_5, il_6, il_7, il_8, il_9, il_10, il_11, il_12, il_13, il_14, il_15, il_16, il_31] at c1) <;> omega) (fun c1 => by (try simp (disch := omega) only [in_lt, in_le, in_eq, in_add, in_mul, in_sb, in_cl, in_bz, in_bo, in_mo, not_true_eq_false, not_false_eq_true, il_0, il_1, il_2, il_3, il_4, il_5, il_6, il_7, il_8, il_9, il_10, il_11, il_12, il_13, il_14, il_15, il_16, il_31] at c1 ⊢) <;> exact me_vin (by omega) (by omega)) (fun c1 => ?_)
    rw [il_8, in_mul, in_add, in_cl (by omega), in_a1]
    refine sr_217l hp h n (i + 1) _ (by omega) (rf_g_I hk (by omega) (by omega)) ?_
    rw [← ws_sp_s ob p (fun _ => 0) (by omega)]
    exact rf_N_ob hN (8 * p + i) 0
theorem sr_217m {p law : Nat} (hp1 : 1 ≤ p) (hp : p < 16) (hlaw : law ≤ 3) (ha : ws_al s < 2 ^ 16) (hs2 : ∀ q, ws_se s q < 16) (hs1 : ∀ q, (ws_al s).testBit q = true → 1 ≤ ws_se s q) : ∀ (n c l : Nat) (pa : Nat → Nat) (x2 : Int32) (N : px_Mem), c + n = 16 → 1 ≤ c → l < c → (x2 = if l = 0 then -1 else nI l) → (∀ q, pa q < 16) → M.1 56 21 = nI law → rf_g M N → rf_N (ws_wpa s pa) N → (∀ M', rf_g M M' → rf_N (ws_wpa s (ws_xl law p (ws_al s) (ws_se s) n c l pa)) M' → Q none M') → px_T 0 217 44 [some (.ref 56), some (.int (nI p)), some (.int x2), some (.int (nI c))] [] N Q
  | 0, c, l, pa, x2, N, hn, hc, hl, hx2, hpb, hlw, hk, hN, h => by
    refine sg_217_44 (fun c1 => ?_) (fun c1 => by exfalso; (try simp (disch := omega) only [in_lt, in_le, in_eq, in_add, in_mul, in_sb, in_cl, in_bz, in_bo, in_mo, not_true_eq_false, not_false_eq_true, il_0, il_1, il_2, il_3, il_4, il_5, il_6, il_7, il_8, il_9, il_10, il_11, il_12, il_13, il_14, il_15, il_16, il_31] at c1) <;> omega)
    exact h N hk hN
  | n + 1, c, l, pa, x2, N, hn, hc, hl, hx2, hpb, hlw, hk, hN, h => by
    have hal : N.1 56 22 = nI (ws_al s) := hN.1.1
    have hpa : ∀ q, q < 16 → N.1 68 q = nI (pa q) := hN.2.1
    have hpc := hpb c
    have hpcc := hpa c (by omega)
    have hlN : N.1 56 21 = nI law := by rw [hk.2.2 21 (by omega) (by omega) (by omega)]; exact hlw
    refine sg_217_44 (fun c1 => by exfalso; (try simp (disch := omega) only [in_lt, in_le, in_eq, in_add, in_mul, in_sb, in_cl, in_bz, in_bo, in_mo, not_true_eq_false, not_false_eq_true, il_0, il_1, il_2, il_3, il_4, il_5, il_6, il_7, il_8, il_9, il_10, il_11, il_12, il_13, il_14, il_15, il_16, il_31] at c1) <;> omega) (fun c1 => ?_)
    rw [hal]
    refine sr_177 (by omega) (by omega) ?_
    have step : (ws_al s).testBit c = true → pa c = p → px_T 0 216 0 [some (.ref 56), some (.int (nI c)), some (.int (nI p)), some (.int (nI (if l = 0 then c else l))), none, none] [] N (fun r M1 => px_T 0 217 93 [some (.ref 56), some (.int (nI p)), some (.int (nI (if l = 0 then c else l))), some (.int (nI c))] (r.toList ++ [.int (nI c), .ref 68]) M1 Q) := by
      intro b1 b2
      have hl2 : (if l = 0 then c else l) < 16 := by split <;> omega
      have hx : ws_xl law p (ws_al s) (ws_se s) (n + 1) c l pa = ws_xl law p (ws_al s) (ws_se s) n (c + 1) (if l = 0 then c else l) (ws_up pa c (ws_np law (ws_al s) (ws_se s) pa c p (if l = 0 then c else l))) := if_pos ⟨b1, b2⟩
      rw [hx] at h
      refine sr_216 (al := ws_al s) (se := ws_se s) hlN hal ha hpa (fun q _ => hpb q) (hN.2.2.1 c (by omega)) (hs1 c b1) (hs2 c) hc (by omega) hp hl2 hlaw ?_
      have hnp : ws_np law (ws_al s) (ws_se s) pa c p (if l = 0 then c else l) < 16 := ws_np_lt hpb hs2 hl2
      refine sg_217_93 (by (try simp (disch := omega) only [in_lt, in_le, in_eq, in_add, in_mul, in_sb, in_cl, in_bz, in_bo, in_mo, not_true_eq_false, not_false_eq_true, il_0, il_1, il_2, il_3, il_4, il_5, il_6, il_7, il_8, il_9, il_10, il_11, il_12, il_13, il_14, il_15, il_16, il_31] at ⊢) <;> exact me_vin (by omega) (by omega)) ?_
      rw [in_cl (by omega), in_a1]
      refine sr_217m hp1 hp hlaw ha hs2 hs1 n (c + 1) (if l = 0 then c else l) _ _ _ (by omega) (by omega) (by split <;> omega) ?_ (ws_up_lt hpb hnp) hlw (rf_g_I hk (by omega) (by omega)) (rf_N_pa hN c _) h
      have hl3 : ¬ (if l = 0 then c else l) = 0 := by split <;> omega
      exact (if_neg hl3).symm
    refine sg_217_58 (fun c1 => ?_) (fun c1 => by (try simp (disch := omega) only [in_lt, in_le, in_eq, in_add, in_mul, in_sb, in_cl, in_bz, in_bo, in_mo, not_true_eq_false, not_false_eq_true, il_0, il_1, il_2, il_3, il_4, il_5, il_6, il_7, il_8, il_9, il_10, il_11, il_12, il_13, il_14, il_15, il_16, il_31, hpcc] at c1 ⊢) <;> exact me_vin (by omega) (by omega)) (fun c1 c2 c3 => ?_) (fun c1 c2 c3 => ?_) (fun c1 c2 => ?_)
    · rw [in_b0] at c1
      have hx : ws_xl law p (ws_al s) (ws_se s) (n + 1) c l pa = ws_xl law p (ws_al s) (ws_se s) n (c + 1) l pa := if_neg (fun q => by rw [c1] at q; exact absurd q.1 (by decide))
      rw [hx] at h
      rw [in_a1]
      exact sr_217m hp1 hp hlaw ha hs2 hs1 n (c + 1) l pa x2 N (by omega) (by omega) (by omega) hx2 hpb hlw hk hN h
    · rw [in_b0, Bool.not_eq_false] at c1
      simp (disch := omega) only [in_lt, in_le, in_eq, in_add, in_mul, in_sb, in_cl, in_bz, in_bo, in_mo, not_true_eq_false, not_false_eq_true, il_0, il_1, il_2, il_3, il_4, il_5, il_6, il_7, il_8, il_9, il_10, il_11, il_12, il_13, il_14, il_15, il_16, il_31, hpcc] at c2
      have hl0 : l = 0 := by
        by_cases hl0 : l = 0
        · exact hl0
        · rw [hx2, if_neg hl0] at c3
          exact ((in_mo (a := l) (by omega)).mp c3).elim
      have h3 := step c1 c2
      rw [if_pos hl0] at h3
      exact h3
    · rw [in_b0, Bool.not_eq_false] at c1
      simp (disch := omega) only [in_lt, in_le, in_eq, in_add, in_mul, in_sb, in_cl, in_bz, in_bo, in_mo, not_true_eq_false, not_false_eq_true, il_0, il_1, il_2, il_3, il_4, il_5, il_6, il_7, il_8, il_9, il_10, il_11, il_12, il_13, il_14, il_15, il_16, il_31, hpcc] at c2
      have hl0 : ¬ l = 0 := by
        intro hl0
        rw [hx2, if_pos hl0] at c3
        exact c3 rfl
      have h3 := step c1 c2
      rw [if_neg hl0] at h3
      rw [hx2, if_neg hl0]
      exact h3
    · simp (disch := omega) only [in_lt, in_le, in_eq, in_add, in_mul, in_sb, in_cl, in_bz, in_bo, in_mo, not_true_eq_false, not_false_eq_true, il_0, il_1, il_2, il_3, il_4, il_5, il_6, il_7, il_8, il_9, il_10, il_11, il_12, il_13, il_14, il_15, il_16, il_31, hpcc] at c2
      have hx : ws_xl law p (ws_al s) (ws_se s) (n + 1) c l pa = ws_xl law p (ws_al s) (ws_se s) n (c + 1) l pa := if_neg (fun q => c2 q.2)
      rw [hx] at h
      rw [in_a1]
      exact sr_217m hp1 hp hlaw ha hs2 hs1 n (c + 1) l pa x2 N (by omega) (by omega) (by omega) hx2 hpb hlw hk hN h
theorem sr_217 (hN : rf_N s M) (hW : ws_W s) {law p : Nat} (h1 : 1 ≤ p) (h2 : p ≤ 15) (hlaw : law ≤ 3) (hlw : M.1 56 21 = nI law) (hal : (ws_al s).testBit p = true) (h : ∀ M', rf_g M M' → rf_N (ws_wpa (ws_wob (ws_ap2 s p) (ws_clr (ws_ob s) p)) (ws_xl law p (ws_al s ^^^ 2 ^ p) (ws_se s) 15 1 0 (ws_pa s))) M' → Q none M') : px_T 0 217 0 [some (.ref 56), some (.int (nI p)), none, none] [] M Q := by
  have hN' := hN
  obtain ⟨⟨g1, g2, g3⟩, g4, g5, g6, g7, g8⟩ := hN'
  refine sg_217_0 ?_
  rw [g1, in_one (by omega), in_clr hal]
  have hlt : ws_al s ^^^ 2 ^ p < 2 ^ 16 := Nat.xor_lt_two_pow hW.1.1 (Nat.pow_lt_pow_right (by omega) (by omega))
  have hN2 : rf_N (ws_ap2 s p) (px_wI M 56 22 (nI (ws_al s ^^^ 2 ^ p))) := by
    refine ⟨⟨?_, ?_, ?_⟩, ?_, ?_, ?_, ?_, ?_⟩
    · simp (disch := omega) only [me_II, me_Ii, me_Io, me_I2, me_L1, me_Li, me_LL, me_Lo, me_As, me_Ao, me_A2, me_Bs, me_Bo, me_B1]; rfl
    · simp (disch := omega) only [me_II, me_Ii, me_Io, me_I2, me_L1, me_Li, me_LL, me_Lo, me_As, me_Ao, me_A2, me_Bs, me_Bo, me_B1]; exact g2
    · simp (disch := omega) only [me_II, me_Ii, me_Io, me_I2, me_L1, me_Li, me_LL, me_Lo, me_As, me_Ao, me_A2, me_Bs, me_Bo, me_B1]; exact g3
    · simp (disch := omega) only [me_II, me_Ii, me_Io, me_I2, me_L1, me_Li, me_LL, me_Lo, me_As, me_Ao, me_A2, me_Bs, me_Bo, me_B1]; exact g4
    · simp (disch := omega) only [me_II, me_Ii, me_Io, me_I2, me_L1, me_Li, me_LL, me_Lo, me_As, me_Ao, me_A2, me_Bs, me_Bo, me_B1]; exact g5
    · simp (disch := omega) only [me_II, me_Ii, me_Io, me_I2, me_L1, me_Li, me_LL, me_Lo, me_As, me_Ao, me_A2, me_Bs, me_Bo, me_B1]; exact g6
    · simp (disch := omega) only [me_II, me_Ii, me_Io, me_I2, me_L1, me_Li, me_LL, me_Lo, me_As, me_Ao, me_A2, me_Bs, me_Bo, me_B1]; exact g7
    · simp (disch := omega) only [me_II, me_Ii, me_Io, me_I2, me_L1, me_Li, me_LL, me_Lo, me_As, me_Ao, me_A2, me_Bs, me_Bo, me_B1]; exact g8
  refine sr_217l (M := M) (s := ws_ap2 s p) (ob := ws_ob s) (by omega) (fun M' k1 d1 => ?_) 8 0 _ rfl (rf_g_F rf_g_rf (by omega)) (by rw [ws_sp_0]; exact hN2)
  have e8 : ws_sp (ws_ob s) p (fun _ => 0) 8 = ws_clr (ws_ob s) p := ws_sp_8 _ _ _
  rw [e8] at d1
  refine sr_217m (s := ws_wob (ws_ap2 s p) (ws_clr (ws_ob s) p)) (M := M') h1 (by omega) hlaw hlt hW.2.2.1 (fun q hq => ?_) 15 1 0 (ws_pa s) _ M' rfl (by omega) (by omega) rfl hW.2.1 ?_ rf_g_rf d1 (fun M2 k2 d2 => h M2 (rf_g_tr k1 k2) d2)
  · have hq2 : (ws_al s ^^^ 2 ^ p).testBit q = true := hq
    rw [fb_bit_flip] at hq2
    by_cases hqp : q = p
    · rw [hqp, hal] at hq2
      simp at hq2
    · have : (ws_al s).testBit q = true := by
        simpa [hqp] using hq2
      exact hW.2.2.2.1 q (hW.1.2.2.2.2 q this)
  · rw [k1.2.2 21 (by omega) (by omega) (by omega)]
    exact hlw
theorem sr_220 {n law e : Nat} {ev : Nat → ws_E} {lf : Nat → Bool} (hL : rf_L n law ev lf M) (he : e < n) (hn : n ≤ 72) (hN : rf_N s M) (hW : ws_W s) (hm : ws_md s + 1 < 200) (hlaw : law ≤ 3) (hok : iv_ok (ev e)) (hy : ws_why s (ev e) = 0) (h : ∀ M', rf_g M M' → rf_N (ws_ap law s (ev e)) M' → Q none M') : px_T 0 220 0 [some (.ref 56), some (.int (nI e)), none, none, none] [] M Q := by
  obtain ⟨f1, f2, f3, f4, _⟩ := hL.2.2 e he
  have hlw := hL.2.1
  have hb := iv_okb hok
  generalize ev e = E at *
  have hal := ws_why_al hy
  obtain ⟨k, p, a, b⟩ := E
  simp only at f1 f2 f3 f4 hb hal
  unfold iv_ok at hok
  simp only at hok
  have hob := hW.2.2.2.2.1
  refine sg_220_0 (by (try simp (disch := omega) only [in_lt, in_le, in_eq, in_add, in_mul, in_sb, in_cl, in_bz, in_bo, in_mo, not_true_eq_false, not_false_eq_true, il_0, il_1, il_2, il_3, il_4, il_5, il_6, il_7, il_8, il_9, il_10, il_11, il_12, il_13, il_14, il_15, il_16, il_31] at ⊢) <;> exact me_vin (by omega) (by omega)) ?_
  rw [in_cl (by omega), f1, f2, f3, f4]
  have e1 : 8 * nI p + nI a = nI (8 * p + a) := by rw [il_8, in_mul, in_add]
  have e2 : 8 * nI p + nI b = nI (8 * p + b) := by rw [il_8, in_mul, in_add]
  rw [e1, e2]
  refine sg_220_38 (fun d => ?_) (fun d => ?_) (fun d => ?_) (fun d => ?_) (fun d => ?_) (fun d => ?_) (fun d => ?_) (fun d => ?_) (fun d => ?_) (fun d0 d1 d2 d3 d4 d5 d6 d7 d8 => ?_)
  · simp (disch := omega) only [in_lt, in_le, in_eq, in_add, in_mul, in_sb, in_cl, in_bz, in_bo, in_mo, not_true_eq_false, not_false_eq_true, il_0, il_1, il_2, il_3, il_4, il_5, il_6, il_7, il_8, il_9, il_10, il_11, il_12, il_13, il_14, il_15, il_16, il_31] at d
    subst d
    refine sg_220_88 (by (try simp (disch := omega) only [in_lt, in_le, in_eq, in_add, in_mul, in_sb, in_cl, in_bz, in_bo, in_mo, not_true_eq_false, not_false_eq_true, il_0, il_1, il_2, il_3, il_4, il_5, il_6, il_7, il_8, il_9, il_10, il_11, il_12, il_13, il_14, il_15, il_16, il_31] at ⊢) <;> exact me_vin (by omega) (by omega)) ?_
    rw [in_cl (by omega), f3]
    have hne : p ≠ a := fun q => by
      have h5 := hW.1.2.2.2.2 p hal
      rw [q, ws_why0 hy] at h5
      exact absurd h5 (by decide)
    exact sr_218 hN (by omega) (by omega) hne (fun M' k1 d1 => sg_220_99 (sg_220_248 (h M' k1 d1)))
  · simp (disch := omega) only [in_lt, in_le, in_eq, in_add, in_mul, in_sb, in_cl, in_bz, in_bo, in_mo, not_true_eq_false, not_false_eq_true, il_0, il_1, il_2, il_3, il_4, il_5, il_6, il_7, il_8, il_9, il_10, il_11, il_12, il_13, il_14, il_15, il_16, il_31] at d
    subst d
    refine sg_220_102 (by (try simp (disch := omega) only [in_lt, in_le, in_eq, in_add, in_mul, in_sb, in_cl, in_bz, in_bo, in_mo, not_true_eq_false, not_false_eq_true, il_0, il_1, il_2, il_3, il_4, il_5, il_6, il_7, il_8, il_9, il_10, il_11, il_12, il_13, il_14, il_15, il_16, il_31] at ⊢) <;> exact me_vin (by omega) (by omega)) ?_
    rw [in_cl (by omega)]
    exact sg_220_248 (h _ (rf_g_I rf_g_rf (by omega) (by omega)) (rf_N_se hN p p))
  · simp (disch := omega) only [in_lt, in_le, in_eq, in_add, in_mul, in_sb, in_cl, in_bz, in_bo, in_mo, not_true_eq_false, not_false_eq_true, il_0, il_1, il_2, il_3, il_4, il_5, il_6, il_7, il_8, il_9, il_10, il_11, il_12, il_13, il_14, il_15, il_16, il_31] at d
    subst d
    exact sg_220_112 (sr_217 hN hW (by omega) (by omega) hlaw hlw hal (fun M' k1 d1 => sg_220_117 (sg_220_248 (h M' k1 d1))))
  · simp (disch := omega) only [in_lt, in_le, in_eq, in_add, in_mul, in_sb, in_cl, in_bz, in_bo, in_mo, not_true_eq_false, not_false_eq_true, il_0, il_1, il_2, il_3, il_4, il_5, il_6, il_7, il_8, il_9, il_10, il_11, il_12, il_13, il_14, il_15, il_16, il_31] at d
    subst d
    refine sg_220_120 (sr_219 (k := 0) hN (by omega) (fun M1 k1 d1 => ?_))
    refine sg_220_130 (by (try simp (disch := omega) only [in_lt, in_le, in_eq, in_add, in_mul, in_sb, in_cl, in_bz, in_bo, in_mo, not_true_eq_false, not_false_eq_true, il_0, il_1, il_2, il_3, il_4, il_5, il_6, il_7, il_8, il_9, il_10, il_11, il_12, il_13, il_14, il_15, il_16, il_31] at ⊢) <;> exact me_vin (by omega) (by omega)) ?_
    rw [in_cl (by omega), ← nI_pred (ws_md s)]
    exact sg_220_248 (h _ (rf_g_I k1 (by omega) (by omega)) (rf_N_ob d1 (8 * p + a) (ws_md s + 1)))
  · simp (disch := omega) only [in_lt, in_le, in_eq, in_add, in_mul, in_sb, in_cl, in_bz, in_bo, in_mo, not_true_eq_false, not_false_eq_true, il_0, il_1, il_2, il_3, il_4, il_5, il_6, il_7, il_8, il_9, il_10, il_11, il_12, il_13, il_14, il_15, il_16, il_31] at d
    subst d
    refine sg_220_134 (sr_219 (k := 1) hN (by omega) (fun M1 k1 d1 => ?_))
    refine sg_220_144 (by (try simp (disch := omega) only [in_lt, in_le, in_eq, in_add, in_mul, in_sb, in_cl, in_bz, in_bo, in_mo, not_true_eq_false, not_false_eq_true, il_0, il_1, il_2, il_3, il_4, il_5, il_6, il_7, il_8, il_9, il_10, il_11, il_12, il_13, il_14, il_15, il_16, il_31] at ⊢) <;> exact me_vin (by omega) (by omega)) ?_
    rw [in_cl (by omega), ← nI_pred (ws_md s)]
    refine sr_219 (k := 2) (rf_N_ob d1 (8 * p + a) (ws_md s + 1)) hm (fun M2 k2 d2 => ?_)
    refine sg_220_156 (by (try simp (disch := omega) only [in_lt, in_le, in_eq, in_add, in_mul, in_sb, in_cl, in_bz, in_bo, in_mo, not_true_eq_false, not_false_eq_true, il_0, il_1, il_2, il_3, il_4, il_5, il_6, il_7, il_8, il_9, il_10, il_11, il_12, il_13, il_14, il_15, il_16, il_31] at ⊢) <;> exact me_vin (by omega) (by omega)) ?_
    show px_T 0 220 248 _ [] (px_wI M2 70 (nI (8 * p + b)).toNatClampNeg (nI (ws_md s + 1))) Q
    rw [in_cl (by omega), ← nI_pred (ws_md s + 1)]
    exact sg_220_248 (h _ (rf_g_I (rf_g_tr (rf_g_I k1 (by omega) (by omega)) k2) (by omega) (by omega)) (rf_N_ob d2 (8 * p + b) (ws_md s + 2)))
  · simp (disch := omega) only [in_lt, in_le, in_eq, in_add, in_mul, in_sb, in_cl, in_bz, in_bo, in_mo, not_true_eq_false, not_false_eq_true, il_0, il_1, il_2, il_3, il_4, il_5, il_6, il_7, il_8, il_9, il_10, il_11, il_12, il_13, il_14, il_15, il_16, il_31] at d
    subst d
    refine sg_220_160 (by (try simp (disch := omega) only [in_lt, in_le, in_eq, in_add, in_mul, in_sb, in_cl, in_bz, in_bo, in_mo, not_true_eq_false, not_false_eq_true, il_0, il_1, il_2, il_3, il_4, il_5, il_6, il_7, il_8, il_9, il_10, il_11, il_12, il_13, il_14, il_15, il_16, il_31] at ⊢) <;> exact me_vin (by omega) (by omega)) (by (try simp (disch := omega) only [in_lt, in_le, in_eq, in_add, in_mul, in_sb, in_cl, in_bz, in_bo, in_mo, not_true_eq_false, not_false_eq_true, il_0, il_1, il_2, il_3, il_4, il_5, il_6, il_7, il_8, il_9, il_10, il_11, il_12, il_13, il_14, il_15, il_16, il_31] at ⊢) <;> exact me_vin (by omega) (by omega)) ?_
    simp (disch := omega) only [in_cl]
    rw [hN.2.2.2.1 (8 * p + a) (by omega)]
    exact sg_220_248 (h _ (rf_g_I rf_g_rf (by omega) (by omega)) (rf_N_ob hN (8 * p + b) (ws_ob s (8 * p + a))))
  · simp (disch := omega) only [in_lt, in_le, in_eq, in_add, in_mul, in_sb, in_cl, in_bz, in_bo, in_mo, not_true_eq_false, not_false_eq_true, il_0, il_1, il_2, il_3, il_4, il_5, il_6, il_7, il_8, il_9, il_10, il_11, il_12, il_13, il_14, il_15, il_16, il_31] at d
    subst d
    refine sg_220_176 (by (try simp (disch := omega) only [in_lt, in_le, in_eq, in_add, in_mul, in_sb, in_cl, in_bz, in_bo, in_mo, not_true_eq_false, not_false_eq_true, il_0, il_1, il_2, il_3, il_4, il_5, il_6, il_7, il_8, il_9, il_10, il_11, il_12, il_13, il_14, il_15, il_16, il_31] at ⊢) <;> exact me_vin (by omega) (by omega)) ?_
    rw [in_cl (by omega)]
    exact sg_220_248 (h _ (rf_g_I rf_g_rf (by omega) (by omega)) (rf_N_ob hN (8 * p + a) 0))
  · simp (disch := omega) only [in_lt, in_le, in_eq, in_add, in_mul, in_sb, in_cl, in_bz, in_bo, in_mo, not_true_eq_false, not_false_eq_true, il_0, il_1, il_2, il_3, il_4, il_5, il_6, il_7, il_8, il_9, il_10, il_11, il_12, il_13, il_14, il_15, il_16, il_31] at d
    subst d
    have h7 := ws_why7 hy
    have hu := hob (8 * p + a)
    obtain ⟨w1, w2, w3⟩ := hW.2.2.2.2.2.2.1 (ws_ob s (8 * p + a) - 1) (by omega)
    have w4 := (w3 h7.2.1).1
    obtain ⟨v, hv⟩ : ∃ v, ws_ob s (8 * p + a) = v + 2 := ⟨ws_ob s (8 * p + a) - 2, by omega⟩
    have g1 : M.1 70 (nI (8 * p + a)).toNatClampNeg - 1 = nI v := by
      rw [in_cl (by omega), hN.2.2.2.1 _ (by omega), hv, nI_pred, nI_pred]
    have S := @sg_220_186 (nI e) (some (.int (nI p))) (nI (8 * p + a)) (some (.int (nI (8 * p + b)))) M Q
    rw [g1] at S
    refine S (me_vin (by omega) (by omega)) (me_vin (by omega) (by omega)) (me_vin (by omega) (by omega)) ?_
    simp (disch := omega) only [in_cl]
    rw [hN.2.2.2.2.2 v (by omega), f4, in_add]
    refine sg_220_248 (h _ (rf_g_I rf_g_rf (by omega) (by omega)) ?_)
    rw [ws_ap_7, hv]
    exact rf_N_by hN v (ws_by s v + b)
  · simp (disch := omega) only [in_lt, in_le, in_eq, in_add, in_mul, in_sb, in_cl, in_bz, in_bo, in_mo, not_true_eq_false, not_false_eq_true, il_0, il_1, il_2, il_3, il_4, il_5, il_6, il_7, il_8, il_9, il_10, il_11, il_12, il_13, il_14, il_15, il_16, il_31] at d
    subst d
    have hu := hob (8 * p + a)
    have h0 : ¬ ws_ob s (8 * p + a) = 0 := by
      intro h0
      simp [ws_why, hal, ws_hw, h0] at hy
    obtain ⟨v, hv⟩ : ∃ v, ws_ob s (8 * p + a) = v + 1 := ⟨ws_ob s (8 * p + a) - 1, by omega⟩
    have g1 : M.1 70 (nI (8 * p + a)).toNatClampNeg = nI v := by
      rw [in_cl (by omega), hN.2.2.2.1 _ (by omega), hv, nI_pred]
    have S := @sg_220_211 (nI e) (some (.int (nI p))) (nI (8 * p + a)) (some (.int (nI (8 * p + b)))) M Q
    rw [g1] at S
    refine S (me_vin (by omega) (by omega)) (me_vin (by omega) (by omega)) (me_vin (by omega) (by omega)) ?_
    simp (disch := omega) only [in_cl]
    have f5 := hW.2.2.2.2.2.2.2 v (by omega)
    have hmin : nI (ws_by s v) - (if nI b < nI (ws_by s v) then nI b else nI (ws_by s v)) = nI (ws_by s v - b) := by
      by_cases hlt : b < ws_by s v
      · rw [if_pos ((in_lt (by omega) (by omega)).mpr hlt), in_sb (by omega)]
      · rw [if_neg (fun q => hlt ((in_lt (by omega) (by omega)).mp q)), in_sb (Nat.le_refl _)]
        congr 1
        omega
    rw [hN.2.2.2.2.2 v (by omega), f4, hmin]
    refine sg_220_248 (h _ (rf_g_I rf_g_rf (by omega) (by omega)) ?_)
    rw [ws_ap_8, hv]
    exact rf_N_by hN v (ws_by s v - b)
  · simp (disch := omega) only [in_lt, in_le, in_eq, in_add, in_mul, in_sb, in_cl, in_bz, in_bo, in_mo, not_true_eq_false, not_false_eq_true, il_0, il_1, il_2, il_3, il_4, il_5, il_6, il_7, il_8, il_9, il_10, il_11, il_12, il_13, il_14, il_15, il_16, il_31] at d0 d1 d2 d3 d4 d5 d6 d7 d8
    have hk : k = 9 := by omega
    subst hk
    exact sg_220_248 (h M rf_g_rf hN)
end R41
