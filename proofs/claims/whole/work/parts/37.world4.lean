/-! pour, drain, fork, exit, act -/
section W37
variable {o : Nat} {M : px_Mem} {Q : px_Po} {s : ws_S}
theorem ws_ct_le (ob : Nat → Nat) (x : Nat) : ws_ct ob x ≤ 128 := fb_ct_le _ _
theorem sp_82 (ho : px_isW o) (hC : ws_C s o M) (hW : ws_W s) (hm : ws_md s ≤ 200) {law p a b : Nat} (hb : b ≤ 30) (hal : (ws_al s).testBit p = true) (h : ∀ M', ws_P law s (7, p, a, b) o M M' → Q (some (.int (nI (ws_why s (7, p, a, b))))) M') : px_T 0 82 0 [some (.ref o), some (.int (nI (ws_ob s (8 * p + a)) - 1)), some (.int (nI b)), none] [] M Q := by
  have hu := hW.2.2.2.2.1 (8 * p + a)
  by_cases h0 : ws_ob s (8 * p + a) = 0
  · refine sg_82_0 ho (fun c1 => by exfalso; (try simp (disch := omega) only [in_lt, in_le, in_eq, in_add, in_mul, in_sb, in_cl, in_bz, in_bo, in_mo, il_0, il_1, il_2, il_3, il_4, il_5, il_6, il_7, il_8, il_9, il_10, il_11, il_12, il_13, il_14, il_15, il_16, il_31, in_omg] at c1) <;> omega) (fun c1 => ?_)
    exact ws_no h hC (by simp [ws_why, hal, ws_hw, h0]) (by decide)
  obtain ⟨w, hw⟩ : ∃ w, ws_ob s (8 * p + a) = w + 1 := ⟨ws_ob s (8 * p + a) - 1, by omega⟩
  have hy : ws_why s (7, p, a, b) = if ws_kd s w ≠ 2 then 4 else if ws_hd s (w - 1) = false then 5 else if 60 < ws_by s (w - 1) + b then 6 else 0 := by
    have e1 : ws_pw s 7 p a b = if ws_kd s w ≠ 2 then 4 else if ws_hd s (w - 1) = false then 5 else if 60 < ws_by s (w - 1) + b then 6 else 0 := by
      unfold ws_pw
      rw [hw]
      rfl
    rw [← e1]
    simp [ws_why, hal, ws_hw, h0]
  obtain ⟨w1, w2, w3⟩ := hW.2.2.2.2.2.2.1 w (by omega)
  rw [hw, nI_pred]
  refine sg_82_0 ho (fun c1 => ?_) (fun c1 => by exfalso; (try simp (disch := omega) only [in_lt, in_le, in_eq, in_add, in_mul, in_sb, in_cl, in_bz, in_bo, in_mo, il_0, il_1, il_2, il_3, il_4, il_5, il_6, il_7, il_8, il_9, il_10, il_11, il_12, il_13, il_14, il_15, il_16, il_31] at c1) <;> omega)
  refine sp_71 ho hC hW hm (by omega) ?_
  by_cases k2 : ws_kd s w = 2
  · obtain ⟨v, rfl⟩ : ∃ v, w = v + 1 := ⟨w - 1, by have := w3 k2; omega⟩
    rw [if_neg (by omega), if_pos k2]
    have f1 := hC.2.2.2.2.2.1 v (by omega)
    have f2 := hC.2.2.2.2.2.2 v (by omega)
    have f3 := ws_ct_le (ws_ob s) v
    have f4 := hW.2.2.2.2.2.2.2 v (by omega)
    rw [if_neg (by omega), Nat.add_sub_cancel] at hy
    show px_T 0 82 11 [some (.ref o), some (.int (nI (v + 1))), some (.int (nI b)), none] [.int (nI v)] M Q
    refine sg_82_11 ho (fun c1 => by exfalso; (try simp (disch := omega) only [in_lt, in_le, in_eq, in_add, in_mul, in_sb, in_cl, in_bz, in_bo, in_mo, il_0, il_1, il_2, il_3, il_4, il_5, il_6, il_7, il_8, il_9, il_10, il_11, il_12, il_13, il_14, il_15, il_16, il_31, f1, f2] at c1) <;> omega) (fun c1 c2 => by exfalso; (try simp (disch := omega) only [in_lt, in_le, in_eq, in_add, in_mul, in_sb, in_cl, in_bz, in_bo, in_mo, il_0, il_1, il_2, il_3, il_4, il_5, il_6, il_7, il_8, il_9, il_10, il_11, il_12, il_13, il_14, il_15, il_16, il_31, f1, f2] at c1 c2) <;> omega) (fun c1 c2 => by (try simp (disch := omega) only [in_lt, in_le, in_eq, in_add, in_mul, in_sb, in_cl, in_bz, in_bo, in_mo, il_0, il_1, il_2, il_3, il_4, il_5, il_6, il_7, il_8, il_9, il_10, il_11, il_12, il_13, il_14, il_15, il_16, il_31, f1, f2] at c1 c2 ⊢) <;> exact me_vin (by omega) (by omega)) (fun c1 c2 c3 => ?_) (fun c1 c2 c3 c4 => ?_) (fun c1 c2 c3 c4 => ?_)
    · simp (disch := omega) only [in_lt, in_le, in_eq, in_add, in_mul, in_sb, in_cl, in_bz, in_bo, in_mo, il_0, il_1, il_2, il_3, il_4, il_5, il_6, il_7, il_8, il_9, il_10, il_11, il_12, il_13, il_14, il_15, il_16, il_31, f1, f2] at c3
      exact ws_no h hC (hy.trans (if_pos (ws_hd0.mpr c3))) (by decide)
    · simp (disch := omega) only [in_lt, in_le, in_eq, in_add, in_mul, in_sb, in_cl, in_bz, in_bo, in_mo, il_0, il_1, il_2, il_3, il_4, il_5, il_6, il_7, il_8, il_9, il_10, il_11, il_12, il_13, il_14, il_15, il_16, il_31, il_60, f1, f2] at c3 c4 ⊢
      rw [if_neg (fun q => c3 (ws_hd0.mp q)), if_neg (by omega)] at hy
      refine ws_doK h hy (ws_K_I ws_K_rf (by omega) (by omega) (by omega)) ?_ (by decide) (by decide)
      rw [ws_ap_7, hw]
      exact ws_C_by hC v (ws_by s v + b)
    · simp (disch := omega) only [in_lt, in_le, in_eq, in_add, in_mul, in_sb, in_cl, in_bz, in_bo, in_mo, il_0, il_1, il_2, il_3, il_4, il_5, il_6, il_7, il_8, il_9, il_10, il_11, il_12, il_13, il_14, il_15, il_16, il_31, il_60, f1, f2] at c3 c4
      rw [if_neg (fun q => c3 (ws_hd0.mp q)), if_pos (by omega)] at hy
      exact ws_no h hC hy (by decide)
  · rw [if_pos k2] at hy
    by_cases k1 : ws_kd s w = 1
    · rw [if_pos k1]
      show px_T 0 82 11 [some (.ref o), some (.int (nI w)), some (.int (nI b)), none] [.int (nI w)] M Q
      refine sg_82_11 ho (fun c1 => by exfalso; (try simp (disch := omega) only [in_lt, in_le, in_eq, in_add, in_mul, in_sb, in_cl, in_bz, in_bo, in_mo, il_0, il_1, il_2, il_3, il_4, il_5, il_6, il_7, il_8, il_9, il_10, il_11, il_12, il_13, il_14, il_15, il_16, il_31] at c1) <;> omega) (fun c1 c2 => ?_) (fun c1 c2 => absurd rfl c2) (fun c1 c2 c3 => absurd rfl c2) (fun c1 c2 c3 c4 => absurd rfl c2) (fun c1 c2 c3 c4 => absurd rfl c2)
      exact ws_no h hC hy (by decide)
    · rw [if_neg k1, if_neg k2]
      show px_T 0 82 11 [some (.ref o), some (.int (nI w)), some (.int (nI b)), none] [.int (-1)] M Q
      refine sg_82_11 ho (fun c1 => ?_) (fun c1 c2 => absurd (by decide) c1) (fun c1 c2 => absurd (by decide) c1) (fun c1 c2 c3 => absurd (by decide) c1) (fun c1 c2 c3 c4 => absurd (by decide) c1) (fun c1 c2 c3 c4 => absurd (by decide) c1)
      exact ws_no h hC hy (by decide)
theorem sp_83 (ho : px_isW o) (hC : ws_C s o M) (hW : ws_W s) (hm : ws_md s ≤ 200) {law p a b : Nat} (hb : b ≤ 30) (hal : (ws_al s).testBit p = true) (h : ∀ M', ws_P law s (8, p, a, b) o M M' → Q (some (.int (nI (ws_why s (8, p, a, b))))) M') : px_T 0 83 0 [some (.ref o), some (.int (nI (ws_ob s (8 * p + a)) - 1)), some (.int (nI b)), none] [] M Q := by
  have hu := hW.2.2.2.2.1 (8 * p + a)
  by_cases h0 : ws_ob s (8 * p + a) = 0
  · refine sg_83_0 ho (fun c1 => by exfalso; (try simp (disch := omega) only [in_lt, in_le, in_eq, in_add, in_mul, in_sb, in_cl, in_bz, in_bo, in_mo, il_0, il_1, il_2, il_3, il_4, il_5, il_6, il_7, il_8, il_9, il_10, il_11, il_12, il_13, il_14, il_15, il_16, il_31, in_omg] at c1) <;> omega) (fun c1 => ?_)
    exact ws_no h hC (by simp [ws_why, hal, ws_hw, h0]) (by decide)
  obtain ⟨w, hw⟩ : ∃ w, ws_ob s (8 * p + a) = w + 1 := ⟨ws_ob s (8 * p + a) - 1, by omega⟩
  have hy : ws_why s (8, p, a, b) = if ws_kd s w ≠ 1 then 4 else if ws_by s w < b ∧ ws_hd s (w + 1) = true then 5 else 0 := by
    have e1 : ws_pw s 8 p a b = if ws_kd s w ≠ 1 then 4 else if ws_by s w < b ∧ ws_hd s (w + 1) = true then 5 else 0 := by
      unfold ws_pw
      rw [hw]
      rfl
    rw [← e1]
    simp [ws_why, hal, ws_hw, h0]
  obtain ⟨w1, w2, w3⟩ := hW.2.2.2.2.2.2.1 w (by omega)
  rw [hw, nI_pred]
  refine sg_83_0 ho (fun c1 => ?_) (fun c1 => by exfalso; (try simp (disch := omega) only [in_lt, in_le, in_eq, in_add, in_mul, in_sb, in_cl, in_bz, in_bo, in_mo, il_0, il_1, il_2, il_3, il_4, il_5, il_6, il_7, il_8, il_9, il_10, il_11, il_12, il_13, il_14, il_15, il_16, il_31] at c1) <;> omega)
  refine sp_71 ho hC hW hm (by omega) ?_
  by_cases k1 : ws_kd s w = 1
  · rw [if_pos k1]
    have w4 := w2 k1
    have f1 := hC.2.2.2.2.2.1 (w + 1) (by omega)
    have f2 := hC.2.2.2.2.2.2 w (by omega)
    have f3 := ws_ct_le (ws_ob s) (w + 1)
    have f4 := hW.2.2.2.2.2.2.2 w (by omega)
    rw [if_neg (by omega)] at hy
    have hmin : nI (ws_by s w) - (if nI (ws_by s w) < nI b then nI (ws_by s w) else nI b) = nI (ws_by s w - b) := by
      by_cases hlt : ws_by s w < b
      · rw [if_pos ((in_lt (by omega) (by omega)).mpr hlt), in_sb (Nat.le_refl _)]
        congr 1
        omega
      · rw [if_neg (fun q => hlt ((in_lt (by omega) (by omega)).mp q)), in_sb (by omega)]
    have fin : ¬ (ws_by s w < b ∧ ws_hd s (w + 1) = true) → Q (some (.int 0)) (px_wI M (o + 7) w (nI (ws_by s w - b))) := by
      intro hn
      refine ws_doK h (hy.trans (if_neg hn)) (ws_K_I ws_K_rf (by omega) (by omega) (by omega)) ?_ (by decide) (by decide)
      rw [ws_ap_8, hw]
      exact ws_C_by hC w (ws_by s w - b)
    show px_T 0 83 11 [some (.ref o), some (.int (nI w)), some (.int (nI b)), none] [.int (nI w)] M Q
    refine sg_83_11 ho (fun c1 => by exfalso; (try simp (disch := omega) only [in_lt, in_le, in_eq, in_add, in_mul, in_sb, in_cl, in_bz, in_bo, in_mo, il_0, il_1, il_2, il_3, il_4, il_5, il_6, il_7, il_8, il_9, il_10, il_11, il_12, il_13, il_14, il_15, il_16, il_31, f1, f2] at c1) <;> omega) (fun c1 c2 => by (try simp (disch := omega) only [in_lt, in_le, in_eq, in_add, in_mul, in_sb, in_cl, in_bz, in_bo, in_mo, il_0, il_1, il_2, il_3, il_4, il_5, il_6, il_7, il_8, il_9, il_10, il_11, il_12, il_13, il_14, il_15, il_16, il_31, f1, f2] at c1 c2 ⊢) <;> exact me_vin (by omega) (by omega)) (fun c1 c2 c3 => ?_) (fun c1 c2 c3 => by (try simp (disch := omega) only [in_lt, in_le, in_eq, in_add, in_mul, in_sb, in_cl, in_bz, in_bo, in_mo, il_0, il_1, il_2, il_3, il_4, il_5, il_6, il_7, il_8, il_9, il_10, il_11, il_12, il_13, il_14, il_15, il_16, il_31, f1, f2] at c1 c2 c3 ⊢) <;> exact me_vin (by omega) (by omega)) (fun c1 c2 c3 c4 => ?_) (fun c1 c2 c3 c4 => ?_) (fun c1 c2 => absurd rfl c2)
    · simp (disch := omega) only [in_lt, in_le, in_eq, in_add, in_mul, in_sb, in_cl, in_bz, in_bo, in_mo, il_0, il_1, il_2, il_3, il_4, il_5, il_6, il_7, il_8, il_9, il_10, il_11, il_12, il_13, il_14, il_15, il_16, il_31, f2] at c3
      rw [in_cl (by omega), f2, hmin]
      exact fin (by omega)
    · simp (disch := omega) only [in_lt, in_le, in_eq, in_add, in_mul, in_sb, in_cl, in_bz, in_bo, in_mo, il_0, il_1, il_2, il_3, il_4, il_5, il_6, il_7, il_8, il_9, il_10, il_11, il_12, il_13, il_14, il_15, il_16, il_31, f1, f2] at c3 c4
      rw [in_cl (by omega), f2, hmin]
      exact fin (fun q => ws_hd1.mp q.2 (by omega))
    · simp (disch := omega) only [in_lt, in_le, in_eq, in_add, in_mul, in_sb, in_cl, in_bz, in_bo, in_mo, il_0, il_1, il_2, il_3, il_4, il_5, il_6, il_7, il_8, il_9, il_10, il_11, il_12, il_13, il_14, il_15, il_16, il_31, f1, f2] at c3 c4
      exact ws_no h hC (hy.trans (if_pos ⟨by omega, ws_hd1.mpr (by omega)⟩)) (by decide)
  · rw [if_pos k1] at hy
    rw [if_neg k1]
    by_cases k2 : ws_kd s w = 2
    · obtain ⟨v, rfl⟩ : ∃ v, w = v + 1 := ⟨w - 1, by have := w3 k2; omega⟩
      rw [if_pos k2]
      show px_T 0 83 11 [some (.ref o), some (.int (nI (v + 1))), some (.int (nI b)), none] [.int (nI v)] M Q
      refine sg_83_11 ho (fun c1 => by exfalso; (try simp (disch := omega) only [in_lt, in_le, in_eq, in_add, in_mul, in_sb, in_cl, in_bz, in_bo, in_mo, il_0, il_1, il_2, il_3, il_4, il_5, il_6, il_7, il_8, il_9, il_10, il_11, il_12, il_13, il_14, il_15, il_16, il_31] at c1) <;> omega) (fun c1 c2 => by exfalso; (try simp (disch := omega) only [in_lt, in_le, in_eq, in_add, in_mul, in_sb, in_cl, in_bz, in_bo, in_mo, il_0, il_1, il_2, il_3, il_4, il_5, il_6, il_7, il_8, il_9, il_10, il_11, il_12, il_13, il_14, il_15, il_16, il_31] at c1 c2) <;> omega) (fun c1 c2 c3 => by exfalso; (try simp (disch := omega) only [in_lt, in_le, in_eq, in_add, in_mul, in_sb, in_cl, in_bz, in_bo, in_mo, il_0, il_1, il_2, il_3, il_4, il_5, il_6, il_7, il_8, il_9, il_10, il_11, il_12, il_13, il_14, il_15, il_16, il_31] at c1 c2 c3) <;> omega) (fun c1 c2 c3 => by exfalso; (try simp (disch := omega) only [in_lt, in_le, in_eq, in_add, in_mul, in_sb, in_cl, in_bz, in_bo, in_mo, il_0, il_1, il_2, il_3, il_4, il_5, il_6, il_7, il_8, il_9, il_10, il_11, il_12, il_13, il_14, il_15, il_16, il_31] at c1 c2 c3) <;> omega) (fun c1 c2 c3 c4 => by exfalso; (try simp (disch := omega) only [in_lt, in_le, in_eq, in_add, in_mul, in_sb, in_cl, in_bz, in_bo, in_mo, il_0, il_1, il_2, il_3, il_4, il_5, il_6, il_7, il_8, il_9, il_10, il_11, il_12, il_13, il_14, il_15, il_16, il_31] at c1 c2 c3 c4) <;> omega) (fun c1 c2 c3 c4 => by exfalso; (try simp (disch := omega) only [in_lt, in_le, in_eq, in_add, in_mul, in_sb, in_cl, in_bz, in_bo, in_mo, il_0, il_1, il_2, il_3, il_4, il_5, il_6, il_7, il_8, il_9, il_10, il_11, il_12, il_13, il_14, il_15, il_16, il_31] at c1 c2 c3 c4) <;> omega) (fun c1 c2 => ?_)
      exact ws_no h hC hy (by decide)
    · rw [if_neg k2]
      show px_T 0 83 11 [some (.ref o), some (.int (nI w)), some (.int (nI b)), none] [.int (-1)] M Q
      refine sg_83_11 ho (fun c1 => ?_) (fun c1 c2 => absurd (by decide) c1) (fun c1 c2 c3 => absurd (by decide) c1) (fun c1 c2 c3 => absurd (by decide) c1) (fun c1 c2 c3 c4 => absurd (by decide) c1) (fun c1 c2 c3 c4 => absurd (by decide) c1) (fun c1 c2 => absurd (by decide) c1)
      exact ws_no h hC hy (by decide)
/-- the loop that copies handles -/
theorem sp_74l (ho : px_isW o) {p a : Nat} {ob : Nat → Nat} (hp : p < 16) (ha : a < 16) (hpa : p ≠ a) (hb : ∀ i, ob i ≤ 200) (h : ∀ M', ws_K o M M' → ws_C (ws_wob s (ws_sp ob a (fun k => ob (8 * p + k)) 8)) o M' → Q (some (.int 0)) M') : ∀ (n i : Nat) (N : px_Mem), i + n = 8 → ws_K o M N → ws_C (ws_wob s (ws_sp ob a (fun k => ob (8 * p + k)) i)) o N → px_T 0 74 81 [some (.ref o), some (.int (nI p)), some (.int (nI a)), some (.int (nI i))] [] N Q
  | 0, i, N, hi, hk, hC => by
    have e : i = 8 := by omega
    subst e
    refine sg_74_81 ho (fun c1 => ?_) (fun c1 => by exfalso; (try simp (disch := omega) only [in_lt, in_le, in_eq, in_add, in_mul, in_sb, in_cl, in_bz, in_bo, in_mo, il_0, il_1, il_2, il_3, il_4, il_5, il_6, il_7, il_8, il_9, il_10, il_11, il_12, il_13, il_14, il_15, il_16, il_31] at c1) <;> omega)
    exact h N hk hC
  | n + 1, i, N, hi, hk, hC => by
    refine sg_74_81 ho (fun c1 => by exfalso; (try simp (disch := omega) only [in_lt, in_le, in_eq, in_add, in_mul, in_sb, in_cl, in_bz, in_bo, in_mo, il_0, il_1, il_2, il_3, il_4, il_5, il_6, il_7, il_8, il_9, il_10, il_11, il_12, il_13, il_14, il_15, il_16, il_31] at c1) <;> omega) (fun c1 => ?_)
    refine sq_68 ho hC hp (by omega) ?_
    refine sg_74_96 ho ho ?_
    have e1 : ws_ob (ws_wob s (ws_sp ob a (fun k => ob (8 * p + k)) i)) (8 * p + i) = ob (8 * p + i) := if_neg (by omega)
    rw [e1]
    refine sq_85 ho hC ha (by omega) (hb _) (fun j _ => ?_) (fun M2 k2 d2 => ?_)
    · show ws_sp ob a (fun k => ob (8 * p + k)) i j ≤ 200
      unfold ws_sp
      split
      · exact hb _
      · exact hb _
    refine sg_74_99 ho ?_
    rw [in_a1]
    refine sp_74l ho hp ha hpa hb h n (i + 1) M2 (by omega) (ws_K_tr hk k2) ?_
    rw [← ws_sp_s ob a (fun k => ob (8 * p + k)) (by omega)]
    exact d2
theorem sp_74 (ho : px_isW o) (hC : ws_C s o M) (hW : ws_W s) (hm : ws_md s ≤ 200) {law p a b : Nat} (h1 : 1 ≤ p) (h2 : p ≤ 15) (ha1 : 1 ≤ a) (ha : a ≤ 15) (hal : (ws_al s).testBit p = true) (h : ∀ M', ws_P law s (0, p, a, b) o M M' → Q (some (.int (nI (ws_why s (0, p, a, b))))) M') : px_T 0 74 0 [some (.ref o), some (.int (nI p)), some (.int (nI a)), none] [] M Q := by
  have hy : ws_why s (0, p, a, b) = if (ws_ev s).testBit a = true then 2 else 0 := by simp [ws_why, hal]
  refine sg_74_0 ho (fun c1 => by exfalso; (try simp (disch := omega) only [in_lt, in_le, in_eq, in_add, in_mul, in_sb, in_cl, in_bz, in_bo, in_mo, il_0, il_1, il_2, il_3, il_4, il_5, il_6, il_7, il_8, il_9, il_10, il_11, il_12, il_13, il_14, il_15, il_16, il_31] at c1) <;> omega) (fun c1 c2 => by exfalso; (try simp (disch := omega) only [in_lt, in_le, in_eq, in_add, in_mul, in_sb, in_cl, in_bz, in_bo, in_mo, il_0, il_1, il_2, il_3, il_4, il_5, il_6, il_7, il_8, il_9, il_10, il_11, il_12, il_13, il_14, il_15, il_16, il_31] at c1 c2) <;> omega) (fun c1 c2 => ?_)
  refine sp_161 ha1 (by omega) ?_
  have hC' := hC
  obtain ⟨⟨g1, g2, g3⟩, g4, g5, g6, g7, g8, g9⟩ := hC'
  have hbit : (nI (ws_ev s / 2) &&& nI (2 ^ (a - 1)) = 0) ↔ (ws_ev s).testBit a = false := by
    rw [fa_bit (by omega), in_tb2 _ _ ha1]
  show px_T 0 74 19 [some (.ref o), some (.int (nI p)), some (.int (nI a)), none] [.int (nI (2 ^ (a - 1))), .int (M.1 o 2)] M Q
  rw [g3]
  refine sg_74_19 ho (fun c => ?_) (fun c => ?_)
  · rw [hbit] at c
    have hne : p ≠ a := fun q => by
      have := hW.1.2.2.2.2 p hal
      rw [q, c] at this
      exact absurd this (by decide)
    refine sp_161 ha1 (by omega) ?_
    refine sg_74_34 ho ho ?_
    refine sp_161 ha1 (by omega) ?_
    show px_T 0 74 47 [some (.ref o), some (.int (nI p)), some (.int (nI a)), none] [.int (nI (2 ^ (a - 1))), .int ((px_wI M o 0 (M.1 o 0 ||| nI (2 ^ (a - 1)))).1 o 2), .ref o] _ Q
    rw [me_Ii (by decide), g1, g3, fa_or, ← in_d2o ha1]
    refine sg_74_47 ho ho (by (try simp (disch := omega) only [in_lt, in_le, in_eq, in_add, in_mul, in_sb, in_cl, in_bz, in_bo, in_mo, il_0, il_1, il_2, il_3, il_4, il_5, il_6, il_7, il_8, il_9, il_10, il_11, il_12, il_13, il_14, il_15, il_16, il_31] at ⊢) <;> exact me_vin (by omega) (by omega)) (by (try simp (disch := omega) only [in_lt, in_le, in_eq, in_add, in_mul, in_sb, in_cl, in_bz, in_bo, in_mo, il_0, il_1, il_2, il_3, il_4, il_5, il_6, il_7, il_8, il_9, il_10, il_11, il_12, il_13, il_14, il_15, il_16, il_31] at ⊢) <;> exact me_vin (by omega) (by omega)) ?_
    rw [fa_or, ← in_d2o ha1]
    simp (disch := omega) only [in_cl]
    rw [me_Io (show o + 2 ≠ o by omega), g5 p (by omega)]
    have hob := hW.2.2.2.2.1
    refine sp_74l (M := px_wI (px_wI (px_wI (px_wI (px_wI M o 0 (nI ((ws_al s ||| 2 ^ a) / 2))) o 2 (nI ((ws_ev s ||| 2 ^ a) / 2))) (o + 1) a (nI p)) (o + 2) a (nI (ws_se s p))) (o + 3) a 255) (s := ws_ap0 s p a) (ob := ws_ob s) ho (by omega) (by omega) hne (fun i => by have := hob i; omega) (fun M' k1 d1 => ?_) 8 0 _ rfl ws_K_rf ?_
    · refine ws_do h (hy.trans (if_neg (by rw [c]; decide))) ?_ ?_ ?_
      · exact me_fw_tr (me_fw_I (me_fw_I (me_fw_I (me_fw_I (me_fw_I me_fw_rf (by omega) (by omega)) (by omega) (by omega)) (by omega) (by omega)) (by omega) (by omega)) (by omega) (by omega)) k1.1
      · rw [ws_sp_8] at d1
        exact d1
      · rw [k1.2, me_Is]
        simp (disch := omega) only [me_II, me_Ii, me_Io, me_I2, me_L1, me_Li, me_LL, me_Lo, me_As, me_Ao, me_A2, me_Bs, me_Bo, me_B1]
        rfl
    · rw [ws_sp_0]
      refine ⟨⟨?_, ?_, ?_⟩, ?_, ?_, ?_, ?_, ?_, ?_⟩
      · simp (disch := omega) only [me_II, me_Ii, me_Io, me_I2, me_L1, me_Li, me_LL, me_Lo, me_As, me_Ao, me_A2, me_Bs, me_Bo, me_B1]; rfl
      · simp (disch := omega) only [me_II, me_Ii, me_Io, me_I2, me_L1, me_Li, me_LL, me_Lo, me_As, me_Ao, me_A2, me_Bs, me_Bo, me_B1]; exact g2
      · simp (disch := omega) only [me_II, me_Ii, me_Io, me_I2, me_L1, me_Li, me_LL, me_Lo, me_As, me_Ao, me_A2, me_Bs, me_Bo, me_B1]; rfl
      · intro x hx
        show _ = nI (ws_up (ws_pa s) a p x)
        by_cases hxv : x = a
        · subst hxv
          simp (disch := omega) only [me_II, me_Ii, me_Io, me_I2, me_L1, me_Li, me_LL, me_Lo, me_As, me_Ao, me_A2, me_Bs, me_Bo, me_B1, ws_up_s]
        · simp (disch := omega) only [me_II, me_Ii, me_Io, me_I2, me_L1, me_Li, me_LL, me_Lo, me_As, me_Ao, me_A2, me_Bs, me_Bo, me_B1, ws_up_n _ _ hxv]
          exact g4 x hx
      · intro x hx
        show _ = nI (ws_up (ws_se s) a (ws_se s p) x)
        by_cases hxv : x = a
        · subst hxv
          simp (disch := omega) only [me_II, me_Ii, me_Io, me_I2, me_L1, me_Li, me_LL, me_Lo, me_As, me_Ao, me_A2, me_Bs, me_Bo, me_B1, ws_up_s]
        · simp (disch := omega) only [me_II, me_Ii, me_Io, me_I2, me_L1, me_Li, me_LL, me_Lo, me_As, me_Ao, me_A2, me_Bs, me_Bo, me_B1, ws_up_n _ _ hxv]
          exact g5 x hx
      · simp (disch := omega) only [me_II, me_Ii, me_Io, me_I2, me_L1, me_Li, me_LL, me_Lo, me_As, me_Ao, me_A2, me_Bs, me_Bo, me_B1]; exact g6
      · simp (disch := omega) only [me_II, me_Ii, me_Io, me_I2, me_L1, me_Li, me_LL, me_Lo, me_As, me_Ao, me_A2, me_Bs, me_Bo, me_B1]; exact g7
      · simp (disch := omega) only [me_II, me_Ii, me_Io, me_I2, me_L1, me_Li, me_LL, me_Lo, me_As, me_Ao, me_A2, me_Bs, me_Bo, me_B1]; exact g8
      · simp (disch := omega) only [me_II, me_Ii, me_Io, me_I2, me_L1, me_Li, me_LL, me_Lo, me_As, me_Ao, me_A2, me_Bs, me_Bo, me_B1]; exact g9
  · rw [hbit, Bool.not_eq_false] at c
    exact ws_no h hC (hy.trans (if_pos c)) (by decide)
/-- the loop that lets handles go -/
theorem sp_76l (ho : px_isW o) {p : Nat} {x2 : Int32} {d4 : Option Value} {ob : Nat → Nat} (hp : p < 16) (hb : ∀ i, ob i ≤ 200) (h : ∀ M', ws_K o M M' → ws_C (ws_wob s (ws_sp ob p (fun _ => 0) 8)) o M' → px_T 0 76 48 [some (.ref o), some (.int (nI p)), some (.int x2), some (.int 0), some (.int 1)] [] M' Q) : ∀ (n i : Nat) (N : px_Mem), i + n = 8 → ws_K o M N → ws_C (ws_wob s (ws_sp ob p (fun _ => 0) i)) o N → px_T 0 76 24 [some (.ref o), some (.int (nI p)), some (.int x2), some (.int (nI i)), d4] [] N Q
  | 0, i, N, hi, hk, hC => by
    have e : i = 8 := by omega
    subst e
    refine sg_76_24 ho (fun c1 => ?_) (fun c1 => by exfalso; (try simp (disch := omega) only [in_lt, in_le, in_eq, in_add, in_mul, in_sb, in_cl, in_bz, in_bo, in_mo, il_0, il_1, il_2, il_3, il_4, il_5, il_6, il_7, il_8, il_9, il_10, il_11, il_12, il_13, il_14, il_15, il_16, il_31] at c1) <;> omega)
    exact h N hk hC
  | n + 1, i, N, hi, hk, hC => by
    refine sg_76_24 ho (fun c1 => by exfalso; (try simp (disch := omega) only [in_lt, in_le, in_eq, in_add, in_mul, in_sb, in_cl, in_bz, in_bo, in_mo, il_0, il_1, il_2, il_3, il_4, il_5, il_6, il_7, il_8, il_9, il_10, il_11, il_12, il_13, il_14, il_15, il_16, il_31] at c1) <;> omega) (fun c1 => ?_)
    refine sq_85 (v := 0) ho hC hp (by omega) (by omega) (fun j _ => ?_) (fun M2 k2 d2 => ?_)
    · show ws_sp ob p (fun _ => 0) i j ≤ 200
      unfold ws_sp
      split
      · exact Nat.zero_le 200
      · exact hb _
    refine sg_76_37 ho ?_
    rw [in_a1]
    refine sp_76l ho hp hb h n (i + 1) M2 (by omega) (ws_K_tr hk k2) ?_
    rw [← ws_sp_s ob p (fun _ => 0) (by omega)]
    exact d2
theorem ws_np_lt {law al c g l : Nat} {se pa : Nat → Nat} (h1 : ∀ p, pa p < 16) (h2 : ∀ p, se p < 16) (h3 : l < 16) : ws_np law al se pa c g l < 16 := by
  unfold ws_np
  split
  · omega
  · split
    · exact h1 _
    · split
      · exact h3
      · split
        · exact h2 _
        · omega
/-- the loop that hangs the children anew -/
theorem sp_76m (ho : px_isW o) {p law : Nat} (hp1 : 1 ≤ p) (hp : p < 16) (hlaw : law ≤ 3) (ha : ws_al s < 2 ^ 16) (hs2 : ∀ q, ws_se s q < 16) (hs1 : ∀ q, (ws_al s).testBit q = true → 1 ≤ ws_se s q) : ∀ (n c l : Nat) (pa : Nat → Nat) (N : px_Mem), c + n = 16 → 1 ≤ c → l < c → (∀ q, pa q < 16) → ws_K o M N → ws_C (ws_wpa s pa) o N → (∀ M', ws_K o M M' → ws_C (ws_wpa s (ws_xl law p (ws_al s) (ws_se s) n c l pa)) o M' → Q (some (.int 0)) M') → px_T 0 76 48 [some (.ref o), some (.int (nI p)), some (.int (nI law)), some (.int (nI l)), some (.int (nI c))] [] N Q
  | 0, c, l, pa, N, hn, hc, hl, hpb, hk, hC, h => by
    refine sg_76_48 ho (fun c1 => ?_) (fun c1 => by exfalso; (try simp (disch := omega) only [in_lt, in_le, in_eq, in_add, in_mul, in_sb, in_cl, in_bz, in_bo, in_mo, il_0, il_1, il_2, il_3, il_4, il_5, il_6, il_7, il_8, il_9, il_10, il_11, il_12, il_13, il_14, il_15, il_16, il_31] at c1) <;> omega)
    exact h N hk hC
  | n + 1, c, l, pa, N, hn, hc, hl, hpb, hk, hC, h => by
    have hal : N.1 o 0 = nI (ws_al s / 2) := hC.1.1
    have hpa : ∀ q, q < 16 → N.1 (o + 1) q = nI (pa q) := hC.2.1
    have hpc := hpb c
    refine sg_76_48 ho (fun c1 => by exfalso; (try simp (disch := omega) only [in_lt, in_le, in_eq, in_add, in_mul, in_sb, in_cl, in_bz, in_bo, in_mo, il_0, il_1, il_2, il_3, il_4, il_5, il_6, il_7, il_8, il_9, il_10, il_11, il_12, il_13, il_14, il_15, il_16, il_31] at c1) <;> omega) (fun c1 => ?_)
    refine sp_64 (a := ws_al s) (pa := pa) ho hal ha (hpa c (by omega)) hc (by omega) ?_
    by_cases hb : (ws_al s).testBit c = true ∧ pa c = p
    · have hx : ws_xl law p (ws_al s) (ws_se s) (n + 1) c l pa = ws_xl law p (ws_al s) (ws_se s) n (c + 1) (if l = 0 then c else l) (ws_up pa c (ws_np law (ws_al s) (ws_se s) pa c p (if l = 0 then c else l))) := if_pos hb
      rw [if_pos hb.1, hb.2]
      show px_T 0 76 61 [some (.ref o), some (.int (nI p)), some (.int (nI law)), some (.int (nI l)), some (.int (nI c))] [.int (nI p)] N Q
      refine sg_76_61 ho (fun c1 => by (try simp (disch := omega) only [in_lt, in_le, in_eq, in_add, in_mul, in_sb, in_cl, in_bz, in_bo, in_mo, il_0, il_1, il_2, il_3, il_4, il_5, il_6, il_7, il_8, il_9, il_10, il_11, il_12, il_13, il_14, il_15, il_16, il_31] at c1 ⊢) <;> exact me_vin (by omega) (by omega)) (fun c1 => ?_) (fun c1 => absurd rfl c1)
      rw [in_cl (by omega), hpa p hp]
      refine sp_77 (al := ws_al s) (pa := pa) (se := ws_se s) ho hal ha hpa (fun q _ => hpb q) (hC.2.2.1 c (by omega)) (hs1 c hb.1) (hs2 c) hc (by omega) hl hlaw ?_
      have hnp : ws_np law (ws_al s) (ws_se s) pa c p (if l = 0 then c else l) < 16 := ws_np_lt hpb hs2 (by split <;> omega)
      have hat : px_at 0 0 (o + 1) (nI c) := by
        rcases ho with rfl | rfl
        · exact ⟨16, rfl, me_vin (by omega) (by omega)⟩
        · exact ⟨16, rfl, me_vin (by omega) (by omega)⟩
      have hC2 := ws_C_pa hC c (ws_np law (ws_al s) (ws_se s) pa c p (if l = 0 then c else l))
      have hk2 : ws_K o M (px_wI N (o + 1) c (nI (ws_np law (ws_al s) (ws_se s) pa c p (if l = 0 then c else l)))) := ws_K_I hk (by omega) (by omega) (by omega)
      have hpb2 : ∀ q, ws_up pa c (ws_np law (ws_al s) (ws_se s) pa c p (if l = 0 then c else l)) q < 16 := by
        intro q
        unfold ws_up
        split
        · exact hnp
        · exact hpb q
      show px_T 0 76 85 [some (.ref o), some (.int (nI p)), some (.int (nI law)), some (.int (nI l)), some (.int (nI c))] [.int (nI (ws_np law (ws_al s) (ws_se s) pa c p (if l = 0 then c else l))), .int (nI c), .ref (o + 1)] N Q
      refine sg_76_85 ho hat (fun c1 => ?_) (fun c1 => ?_)
      · simp (disch := omega) only [in_lt, in_le, in_eq, in_add, in_mul, in_sb, in_cl, in_bz, in_bo, in_mo, il_0, il_1, il_2, il_3, il_4, il_5, il_6, il_7, il_8, il_9, il_10, il_11, il_12, il_13, il_14, il_15, il_16, il_31] at c1
        rw [in_cl (by omega), in_a1]
        rw [hx, if_pos c1] at h
        rw [if_pos c1] at hC2 hk2 hpb2 ⊢
        exact sp_76m ho hp1 hp hlaw ha hs2 hs1 n (c + 1) c _ _ (by omega) (by omega) (by omega) hpb2 hk2 hC2 h
      · simp (disch := omega) only [in_lt, in_le, in_eq, in_add, in_mul, in_sb, in_cl, in_bz, in_bo, in_mo, il_0, il_1, il_2, il_3, il_4, il_5, il_6, il_7, il_8, il_9, il_10, il_11, il_12, il_13, il_14, il_15, il_16, il_31] at c1
        rw [in_cl (by omega), in_a1]
        rw [hx, if_neg c1] at h
        rw [if_neg c1] at hC2 hk2 hpb2 ⊢
        exact sp_76m ho hp1 hp hlaw ha hs2 hs1 n (c + 1) l _ _ (by omega) (by omega) (by omega) hpb2 hk2 hC2 h
    · have hx : ws_xl law p (ws_al s) (ws_se s) (n + 1) c l pa = ws_xl law p (ws_al s) (ws_se s) n (c + 1) l pa := if_neg hb
      rw [hx] at h
      have hne : ¬ (if (ws_al s).testBit c = true then nI (pa c) else -1) = nI p := by
        split
        · rename_i hq
          rw [in_eq (by omega) (by omega)]
          exact fun q => hb ⟨hq, q⟩
        · intro q
          exact (in_mo (a := p) (by omega)).mp q.symm
      show px_T 0 76 61 [some (.ref o), some (.int (nI p)), some (.int (nI law)), some (.int (nI l)), some (.int (nI c))] [.int (if (ws_al s).testBit c = true then nI (pa c) else -1)] N Q
      refine sg_76_61 ho (fun c1 => absurd c1 hne) (fun c1 => absurd c1 hne) (fun c1 => ?_)
      rw [in_a1]
      exact sp_76m ho hp1 hp hlaw ha hs2 hs1 n (c + 1) l pa N (by omega) (by omega) (by omega) hpb hk hC h
theorem sp_76 (ho : px_isW o) (hC : ws_C s o M) (hW : ws_W s) (hm : ws_md s ≤ 200) {law p a b : Nat} (h1 : 1 ≤ p) (h2 : p ≤ 15) (hlaw : law ≤ 3) (hal : (ws_al s).testBit p = true) (h : ∀ M', ws_P law s (2, p, a, b) o M M' → Q (some (.int (nI (ws_why s (2, p, a, b))))) M') : px_T 0 76 0 [some (.ref o), some (.int (nI p)), some (.int (nI law)), none, none] [] M Q := by
  have hy : ws_why s (2, p, a, b) = if p = 1 then 2 else 0 := by simp [ws_why, hal]
  have hob := hW.2.2.2.2.1
  refine sg_76_0 ho (fun c1 => ?_) (fun c1 => ?_)
  · simp (disch := omega) only [in_lt, in_le, in_eq, in_add, in_mul, in_sb, in_cl, in_bz, in_bo, in_mo, il_0, il_1, il_2, il_3, il_4, il_5, il_6, il_7, il_8, il_9, il_10, il_11, il_12, il_13, il_14, il_15, il_16, il_31] at c1
    exact ws_no h hC (hy.trans (if_pos c1)) (by decide)
  simp (disch := omega) only [in_lt, in_le, in_eq, in_add, in_mul, in_sb, in_cl, in_bz, in_bo, in_mo, il_0, il_1, il_2, il_3, il_4, il_5, il_6, il_7, il_8, il_9, il_10, il_11, il_12, il_13, il_14, il_15, il_16, il_31] at c1
  refine sp_161 h1 (by omega) ?_
  refine sg_76_16 ho ho ?_
  have hC' := hC
  obtain ⟨⟨g1, g2, g3⟩, g4, g5, g6, g7, g8, g9⟩ := hC'
  rw [g1, in_clr (by rw [in_tb2 _ _ h1]; exact hal), ← in_d2x h1]
  have hlt : ws_al s ^^^ 2 ^ p < 2 ^ 16 := Nat.xor_lt_two_pow hW.1.1 (Nat.pow_lt_pow_right (by omega) (by omega))
  have hC2 : ws_C (ws_ap2 s p) o (px_wI M o 0 (nI ((ws_al s ^^^ 2 ^ p) / 2))) := by
    refine ⟨⟨?_, ?_, ?_⟩, ?_, ?_, ?_, ?_, ?_, ?_⟩
    · simp (disch := omega) only [me_II, me_Ii, me_Io, me_I2, me_L1, me_Li, me_LL, me_Lo, me_As, me_Ao, me_A2, me_Bs, me_Bo, me_B1]; rfl
    · simp (disch := omega) only [me_II, me_Ii, me_Io, me_I2, me_L1, me_Li, me_LL, me_Lo, me_As, me_Ao, me_A2, me_Bs, me_Bo, me_B1]; exact g2
    · simp (disch := omega) only [me_II, me_Ii, me_Io, me_I2, me_L1, me_Li, me_LL, me_Lo, me_As, me_Ao, me_A2, me_Bs, me_Bo, me_B1]; exact g3
    · simp (disch := omega) only [me_II, me_Ii, me_Io, me_I2, me_L1, me_Li, me_LL, me_Lo, me_As, me_Ao, me_A2, me_Bs, me_Bo, me_B1]; exact g4
    · simp (disch := omega) only [me_II, me_Ii, me_Io, me_I2, me_L1, me_Li, me_LL, me_Lo, me_As, me_Ao, me_A2, me_Bs, me_Bo, me_B1]; exact g5
    · simp (disch := omega) only [me_II, me_Ii, me_Io, me_I2, me_L1, me_Li, me_LL, me_Lo, me_As, me_Ao, me_A2, me_Bs, me_Bo, me_B1]; exact g6
    · simp (disch := omega) only [me_II, me_Ii, me_Io, me_I2, me_L1, me_Li, me_LL, me_Lo, me_As, me_Ao, me_A2, me_Bs, me_Bo, me_B1]; exact g7
    · simp (disch := omega) only [me_II, me_Ii, me_Io, me_I2, me_L1, me_Li, me_LL, me_Lo, me_As, me_Ao, me_A2, me_Bs, me_Bo, me_B1]; exact g8
    · simp (disch := omega) only [me_II, me_Ii, me_Io, me_I2, me_L1, me_Li, me_LL, me_Lo, me_As, me_Ao, me_A2, me_Bs, me_Bo, me_B1]; exact g9
  refine sp_76l (s := ws_ap2 s p) (ob := ws_ob s) ho (by omega) (fun i => by have := hob i; omega) (fun M' k1 d1 => ?_) 8 0 _ rfl ws_K_rf (by rw [ws_sp_0]; exact hC2)
  have e8 : ws_sp (ws_ob s) p (fun _ => 0) 8 = ws_clr (ws_ob s) p := ws_sp_8 _ _ _
  rw [e8] at d1
  refine sp_76m (s := ws_wob (ws_ap2 s p) (ws_clr (ws_ob s) p)) (M := M') ho h1 (by omega) hlaw hlt hW.2.2.1 (fun q hq => ?_) 15 1 0 (ws_pa s) M' rfl (by omega) (by omega) hW.2.1 ws_K_rf d1 (fun M2 k2 d2 => ?_)
  · have hq2 : (ws_al s ^^^ 2 ^ p).testBit q = true := hq
    rw [fb_bit_flip] at hq2
    by_cases hqp : q = p
    · rw [hqp, hal] at hq2
      simp at hq2
    · have : (ws_al s).testBit q = true := by
        simpa [hqp] using hq2
      exact hW.2.2.2.1 q (hW.1.2.2.2.2 q this)
  · refine ws_doK h (hy.trans (if_neg c1)) ?_ d2 (by decide) (by decide)
    exact ws_K_tr (ws_K_I ws_K_rf (by omega) (by omega) (by omega)) (ws_K_tr k1 k2)
theorem sp_73 (ho : px_isW o) (hC : ws_C s o M) (hW : ws_W s) (hm : ws_md s + 1 < 200) {law : Nat} {e : ws_E} (he : iv_ok e) (hlaw : law ≤ 3) (h : ∀ M', ws_P law s e o M M' → Q (some (.int (nI (ws_why s e)))) M') : px_T 0 73 0 [some (.ref o), some (.int (nI (iv_pk e))), some (.int (nI law)), none, none, none, none] [] M Q := by
  refine sg_73_0 ho (sp_2 he ?_)
  refine sg_73_4 ho (sp_3a he ?_)
  refine sg_73_10 ho (sp_3b he ?_)
  refine sg_73_17 ho (sp_3c he ?_)
  have hb := iv_okb he
  refine sg_73_24 ho (sp_63 ho hC.1.1 hW.1.1 hb.2.1 hb.2.2.1 ?_)
  obtain ⟨k, p, a, b⟩ := e
  simp only at hb ⊢
  refine sg_73_32 ho (fun c1 => ?_) (fun c1 => ?_)
  · rw [in_b0] at c1
    exact ws_no h hC (by simp [ws_why, c1]) (by decide)
  rw [in_b0, Bool.not_eq_false] at c1
  unfold iv_ok at he
  simp only at he
  refine sg_73_38 ho (fun d => ?_) (fun d => ?_) (fun d => ?_) (fun d => ?_) (fun d => ?_) (fun d => ?_) (fun d => ?_) (fun d => ?_) (fun d => ?_) (fun d0 d1 d2 d3 d4 d5 d6 d7 d8 => ?_)
  · simp (disch := omega) only [in_lt, in_le, in_eq, in_add, in_mul, in_sb, in_cl, in_bz, in_bo, in_mo, il_0, il_1, il_2, il_3, il_4, il_5, il_6, il_7, il_8, il_9, il_10, il_11, il_12, il_13, il_14, il_15, il_16, il_31] at d
    subst d
    exact sg_73_88 ho (sp_74 (law := law) ho hC hW (by omega) (by omega) (by omega) (by omega) (by omega) c1 (fun M' hp => sg_73_96 (h M' hp)))
  · simp (disch := omega) only [in_lt, in_le, in_eq, in_add, in_mul, in_sb, in_cl, in_bz, in_bo, in_mo, il_0, il_1, il_2, il_3, il_4, il_5, il_6, il_7, il_8, il_9, il_10, il_11, il_12, il_13, il_14, il_15, il_16, il_31] at d
    subst d
    exact sg_73_97 ho (sp_75 (law := law) ho hC hW (by omega) (by omega) c1 (fun M' hp => sg_73_103 (h M' hp)))
  · simp (disch := omega) only [in_lt, in_le, in_eq, in_add, in_mul, in_sb, in_cl, in_bz, in_bo, in_mo, il_0, il_1, il_2, il_3, il_4, il_5, il_6, il_7, il_8, il_9, il_10, il_11, il_12, il_13, il_14, il_15, il_16, il_31] at d
    subst d
    exact sg_73_104 ho (sp_76 ho hC hW (by omega) (by omega) (by omega) hlaw c1 (fun M' hp => sg_73_111 (h M' hp)))
  · simp (disch := omega) only [in_lt, in_le, in_eq, in_add, in_mul, in_sb, in_cl, in_bz, in_bo, in_mo, il_0, il_1, il_2, il_3, il_4, il_5, il_6, il_7, il_8, il_9, il_10, il_11, il_12, il_13, il_14, il_15, il_16, il_31] at d
    subst d
    exact sg_73_112 ho (sp_78 (law := law) ho hC hW (by omega) (by omega) (by omega) c1 (fun M' hp => sg_73_120 (h M' hp)))
  · simp (disch := omega) only [in_lt, in_le, in_eq, in_add, in_mul, in_sb, in_cl, in_bz, in_bo, in_mo, il_0, il_1, il_2, il_3, il_4, il_5, il_6, il_7, il_8, il_9, il_10, il_11, il_12, il_13, il_14, il_15, il_16, il_31] at d
    subst d
    exact sg_73_121 ho (sp_79 (law := law) ho hC hW (by omega) (by omega) (by omega) (by omega) c1 (fun M' hp => sg_73_131 (h M' hp)))
  · simp (disch := omega) only [in_lt, in_le, in_eq, in_add, in_mul, in_sb, in_cl, in_bz, in_bo, in_mo, il_0, il_1, il_2, il_3, il_4, il_5, il_6, il_7, il_8, il_9, il_10, il_11, il_12, il_13, il_14, il_15, il_16, il_31] at d
    subst d
    exact sg_73_132 ho (sp_80 (law := law) ho hC hW (by omega) (by omega) (by omega) (by omega) c1 (fun M' hp => sg_73_142 (h M' hp)))
  · simp (disch := omega) only [in_lt, in_le, in_eq, in_add, in_mul, in_sb, in_cl, in_bz, in_bo, in_mo, il_0, il_1, il_2, il_3, il_4, il_5, il_6, il_7, il_8, il_9, il_10, il_11, il_12, il_13, il_14, il_15, il_16, il_31] at d
    subst d
    exact sg_73_143 ho (sp_81 (law := law) ho hC hW (by omega) (by omega) (by omega) c1 (fun M' hp => sg_73_151 (h M' hp)))
  · simp (disch := omega) only [in_lt, in_le, in_eq, in_add, in_mul, in_sb, in_cl, in_bz, in_bo, in_mo, il_0, il_1, il_2, il_3, il_4, il_5, il_6, il_7, il_8, il_9, il_10, il_11, il_12, il_13, il_14, il_15, il_16, il_31] at d
    subst d
    exact sg_73_152 ho (sq_68 ho hC (by omega) (by omega) (sg_73_161 ho (sp_82 (law := law) ho hC hW (by omega) (by omega) c1 (fun M' hp => sg_73_166 (h M' hp)))))
  · simp (disch := omega) only [in_lt, in_le, in_eq, in_add, in_mul, in_sb, in_cl, in_bz, in_bo, in_mo, il_0, il_1, il_2, il_3, il_4, il_5, il_6, il_7, il_8, il_9, il_10, il_11, il_12, il_13, il_14, il_15, il_16, il_31] at d
    subst d
    exact sg_73_167 ho (sq_68 ho hC (by omega) (by omega) (sg_73_176 ho (sp_83 (law := law) ho hC hW (by omega) (by omega) c1 (fun M' hp => sg_73_181 (h M' hp)))))
  · simp (disch := omega) only [in_lt, in_le, in_eq, in_add, in_mul, in_sb, in_cl, in_bz, in_bo, in_mo, il_0, il_1, il_2, il_3, il_4, il_5, il_6, il_7, il_8, il_9, il_10, il_11, il_12, il_13, il_14, il_15, il_16, il_31] at d0 d1 d2 d3 d4 d5 d6 d7 d8
    have hk : k = 9 := by omega
    subst hk
    refine sg_73_182 ho (by (try simp (disch := omega) only [in_lt, in_le, in_eq, in_add, in_mul, in_sb, in_cl, in_bz, in_bo, in_mo, il_0, il_1, il_2, il_3, il_4, il_5, il_6, il_7, il_8, il_9, il_10, il_11, il_12, il_13, il_14, il_15, il_16, il_31] at ⊢) <;> exact me_vin (by omega) (by omega)) ?_
    rw [in_cl (by omega), in_one (by omega)]
    refine ws_do h (by simp [ws_why, c1]) (me_fw_I me_fw_rf (by omega) (by omega)) ?_ ?_
    · rw [ws_ap_9]
      obtain ⟨⟨g1, g2, g3⟩, g4, g5, g6, g7, g8, g9⟩ := hC
      refine ⟨⟨?_, ?_, ?_⟩, ?_, ?_, ?_, ?_, ?_, ?_⟩
      · simp (disch := omega) only [me_II, me_Ii, me_Io, me_I2, me_L1, me_Li, me_LL, me_Lo, me_As, me_Ao, me_A2, me_Bs, me_Bo, me_B1]; exact g1
      · simp (disch := omega) only [me_II, me_Ii, me_Io, me_I2, me_L1, me_Li, me_LL, me_Lo, me_As, me_Ao, me_A2, me_Bs, me_Bo, me_B1]; exact g2
      · simp (disch := omega) only [me_II, me_Ii, me_Io, me_I2, me_L1, me_Li, me_LL, me_Lo, me_As, me_Ao, me_A2, me_Bs, me_Bo, me_B1]; exact g3
      · simp (disch := omega) only [me_II, me_Ii, me_Io, me_I2, me_L1, me_Li, me_LL, me_Lo, me_As, me_Ao, me_A2, me_Bs, me_Bo, me_B1]; exact g4
      · simp (disch := omega) only [me_II, me_Ii, me_Io, me_I2, me_L1, me_Li, me_LL, me_Lo, me_As, me_Ao, me_A2, me_Bs, me_Bo, me_B1]; exact g5
      · simp (disch := omega) only [me_II, me_Ii, me_Io, me_I2, me_L1, me_Li, me_LL, me_Lo, me_As, me_Ao, me_A2, me_Bs, me_Bo, me_B1]; exact g6
      · simp (disch := omega) only [me_II, me_Ii, me_Io, me_I2, me_L1, me_Li, me_LL, me_Lo, me_As, me_Ao, me_A2, me_Bs, me_Bo, me_B1]; exact g7
      · simp (disch := omega) only [me_II, me_Ii, me_Io, me_I2, me_L1, me_Li, me_LL, me_Lo, me_As, me_Ao, me_A2, me_Bs, me_Bo, me_B1]; exact g8
      · simp (disch := omega) only [me_II, me_Ii, me_Io, me_I2, me_L1, me_Li, me_LL, me_Lo, me_As, me_Ao, me_A2, me_Bs, me_Bo, me_B1]; exact g9
    · rw [me_Is]
      rfl
end W37
