/-! the reference: why an event is refused, what it does -/
def rf_N (s : ws_S) (M : px_Mem) : Prop := (M.1 56 22 = nI (ws_al s) ∧ M.1 56 23 = nI (ws_ev s) ∧ M.1 56 27 = nI (ws_md s)) ∧ (∀ p, p < 16 → M.1 68 p = nI (ws_pa s p)) ∧ (∀ p, p < 16 → M.1 69 p = nI (ws_se s p)) ∧ (∀ i, i < 128 → M.1 70 i = nI (ws_ob s i) - 1) ∧ (∀ x, x < ws_md s → M.1 71 x = nI (ws_kd s x)) ∧ (∀ x, x < ws_md s → M.1 72 x = nI (ws_by s x))
/-- events laid: how many, the law, they, which are left out -/
def rf_L (n law : Nat) (ev : Nat → ws_E) (lf : Nat → Bool) (M : px_Mem) : Prop := M.1 56 20 = nI n ∧ M.1 56 21 = nI law ∧ ∀ e, e < n → M.1 63 e = nI (ev e).1 ∧ M.1 64 e = nI (ev e).2.1 ∧ M.1 65 e = nI (ev e).2.2.1 ∧ M.1 66 e = nI (ev e).2.2.2 ∧ M.1 67 e = in_b (lf e)
/-- only the state now changed -/
def rf_g (M M' : px_Mem) : Prop := (∀ a, (a < 68 ∨ 73 ≤ a) → a ≠ 56 → M'.1 a = M.1 a) ∧ M'.2 = M.2 ∧ ∀ i, i ≠ 22 → i ≠ 23 → i ≠ 27 → M'.1 56 i = M.1 56 i
theorem rf_g_rf {M : px_Mem} : rf_g M M := ⟨fun _ _ _ => rfl, rfl, fun _ _ _ _ => rfl⟩
theorem rf_g_tr {M M' M2 : px_Mem} (h : rf_g M M') (h2 : rf_g M' M2) : rf_g M M2 := ⟨fun a h3 h4 => (h2.1 a h3 h4).trans (h.1 a h3 h4), h2.2.1.trans h.2.1, fun i a b c => (h2.2.2 i a b c).trans (h.2.2 i a b c)⟩
theorem rf_g_I {M M' : px_Mem} {a i : Nat} {x : Int32} (h : rf_g M M') (h1 : 68 ≤ a) (h2 : a < 73) : rf_g M (px_wI M' a i x) := ⟨fun b h3 h4 => by rw [me_Io (by omega)]; exact h.1 b h3 h4, h.2.1, fun j a b c => by rw [me_Io (by omega)]; exact h.2.2 j a b c⟩
theorem rf_g_F {M M' : px_Mem} {i : Nat} {x : Int32} (h : rf_g M M') (h1 : i = 22 ∨ i = 23 ∨ i = 27) : rf_g M (px_wI M' 56 i x) := ⟨fun b h3 h4 => by rw [me_Io h4]; exact h.1 b h3 h4, h.2.1, fun j a b c => by rw [me_Ii (by omega)]; exact h.2.2 j a b c⟩
theorem rf_L_g {n law : Nat} {ev : Nat → ws_E} {lf : Nat → Bool} {M M' : px_Mem} (hL : rf_L n law ev lf M) (h : rf_g M M') : rf_L n law ev lf M' := by
  obtain ⟨h1, h2, h3⟩ := hL
  refine ⟨?_, ?_, ?_⟩
  · rw [h.2.2 20 (by omega) (by omega) (by omega)]; exact h1
  · rw [h.2.2 21 (by omega) (by omega) (by omega)]; exact h2
  · rw [h.1 63 (by omega) (by omega), h.1 64 (by omega) (by omega), h.1 65 (by omega) (by omega), h.1 66 (by omega) (by omega), h.1 67 (by omega) (by omega)]; exact h3
section R40
variable {M : px_Mem} {Q : px_Po} {s : ws_S}
theorem sr_177 {a k : Nat} (ha : a < 2 ^ 31) (hk : k < 32) (h : Q (some (.int (in_b (a.testBit k)))) M) : px_T 0 177 0 [some (.int (nI a)), some (.int (nI k))] [] M Q := by
  refine sg_177_0 ?_
  rw [in_bit ha hk]
  exact h
theorem sr_210 (hN : rf_N s M) {p k : Nat} (hp : p < 16) (hk : k < 8) (h : Q (some (.int (nI (ws_ob s (8 * p + k)) - 1))) M) : px_T 0 210 0 [some (.ref 56), some (.int (nI p)), some (.int (nI k))] [] M Q := by
  have e : 8 * nI p + nI k = nI (8 * p + k) := by rw [il_8, in_mul, in_add]
  refine sg_210_0 ?_ ?_
  · rw [e]
    exact me_vin (by omega) (by omega)
  · rw [e, in_cl (by omega), hN.2.2.2.1 _ (by omega)]
    exact h
theorem in_oeq {u v : Nat} (hu : u < 2 ^ 31) (hv : v < 2 ^ 30) : nI u - 1 = nI v ↔ u = v + 1 := by
  cases u with
  | zero => exact ⟨fun h => absurd h.symm (fun q => (in_mo (a := v) (by omega)).mp q), fun h => by omega⟩
  | succ u =>
    rw [nI_pred, in_eq (by omega) (by omega)]
    omega
theorem sr_211 (hN : rf_N s M) (hob : ∀ i, ws_ob s i ≤ 200) {v : Nat} (hv : v < 2 ^ 30) (h : Q (some (.int (in_b (ws_hd s v)))) M) : px_T 0 211 0 [some (.ref 56), some (.int (nI v)), none, none] [] M Q := by
  refine sg_211_0 ?_
  have hl : ∀ i, i ≤ 128 → px_T 0 211 4 [some (.ref 56), some (.int (nI v)), some (.int (in_b (decide (0 < fb_ct (fun i => decide (ws_ob s i = v + 1)) i)))), some (.int (nI i))] [] M Q := by
    refine lp_dn ?_ (fun i hi ih => ?_)
    · refine sg_211_4 (fun c1 => in_b01 _) (fun c1 => ?_) (fun c1 c2 => by exfalso; (try simp (disch := omega) only [in_lt, in_le, in_eq, in_add, in_mul, in_sb, in_cl, in_bz, in_bo, in_mo, not_true_eq_false, not_false_eq_true, il_0, il_1, il_2, il_3, il_4, il_5, il_6, il_7, il_8, il_9, il_10, il_11, il_12, il_13, il_14, il_15, il_16, il_31, il_128] at c1 c2) <;> omega) (fun c1 c2 c3 => by exfalso; (try simp (disch := omega) only [in_lt, in_le, in_eq, in_add, in_mul, in_sb, in_cl, in_bz, in_bo, in_mo, not_true_eq_false, not_false_eq_true, il_0, il_1, il_2, il_3, il_4, il_5, il_6, il_7, il_8, il_9, il_10, il_11, il_12, il_13, il_14, il_15, il_16, il_31, il_128] at c1 c2 c3) <;> omega) (fun c1 c2 c3 => by exfalso; (try simp (disch := omega) only [in_lt, in_le, in_eq, in_add, in_mul, in_sb, in_cl, in_bz, in_bo, in_mo, not_true_eq_false, not_false_eq_true, il_0, il_1, il_2, il_3, il_4, il_5, il_6, il_7, il_8, il_9, il_10, il_11, il_12, il_13, il_14, il_15, il_16, il_31, il_128] at c1 c2 c3) <;> omega) (fun c1 c2 => by exfalso; (try simp (disch := omega) only [in_lt, in_le, in_eq, in_add, in_mul, in_sb, in_cl, in_bz, in_bo, in_mo, not_true_eq_false, not_false_eq_true, il_0, il_1, il_2, il_3, il_4, il_5, il_6, il_7, il_8, il_9, il_10, il_11, il_12, il_13, il_14, il_15, il_16, il_31, il_128] at c1 c2) <;> omega)
      exact h
    · have hb := hob i
      have f1 := hN.2.2.2.1 i hi
      rw [fb_ct_succ] at ih
      refine sg_211_4 (fun c1 => by exfalso; (try simp (disch := omega) only [in_lt, in_le, in_eq, in_add, in_mul, in_sb, in_cl, in_bz, in_bo, in_mo, not_true_eq_false, not_false_eq_true, il_0, il_1, il_2, il_3, il_4, il_5, il_6, il_7, il_8, il_9, il_10, il_11, il_12, il_13, il_14, il_15, il_16, il_31, il_128] at c1) <;> omega) (fun c1 => by exfalso; (try simp (disch := omega) only [in_lt, in_le, in_eq, in_add, in_mul, in_sb, in_cl, in_bz, in_bo, in_mo, not_true_eq_false, not_false_eq_true, il_0, il_1, il_2, il_3, il_4, il_5, il_6, il_7, il_8, il_9, il_10, il_11, il_12, il_13, il_14, il_15, il_16, il_31, il_128] at c1) <;> omega) (fun c1 c2 => by (try simp (disch := omega) only [in_lt, in_le, in_eq, in_add, in_mul, in_sb, in_cl, in_bz, in_bo, in_mo, not_true_eq_false, not_false_eq_true, il_0, il_1, il_2, il_3, il_4, il_5, il_6, il_7, il_8, il_9, il_10, il_11, il_12, il_13, il_14, il_15, il_16, il_31, il_128] at c1 c2 ⊢) <;> exact me_vin (by omega) (by omega)) (fun c1 c2 c3 => ?_) (fun c1 c2 c3 => ?_) (fun c1 c2 => ?_)
      · rw [in_cl (by omega), f1, in_oeq (by omega) hv] at c3
        rw [in_b0] at c2
        rw [in_a1]
        rw [decide_eq_true (show 0 < _ by rw [if_pos (decide_eq_true c3)]; omega)] at ih
        exact ih
      · rw [in_cl (by omega), f1, in_oeq (by omega) hv] at c3
        rw [in_b0, decide_eq_false_iff_not] at c2
        rw [in_a1]
        rw [decide_eq_false (show ¬ 0 < _ by rw [if_neg (by rw [decide_eq_false c3]; decide)]; omega)] at ih
        exact ih
      · rw [in_b0, Bool.not_eq_false, decide_eq_true_iff] at c2
        rw [in_a1]
        rw [decide_eq_true (show 0 < _ by omega)] at ih
        exact ih
  exact hl 0 (by omega)
theorem sr_212 (hN : rf_N s M) (hob : ∀ i, ws_ob s i ≤ 200) {k p a b : Nat} (hk : k ≤ 9) (hp : p < 16) (ha : a < 8) (hb : k = 4 ∨ k = 5 → b < 8) (hb2 : b < 100) (h : Q (some (.int (nI (ws_hw s k p a b)))) M) : px_T 0 212 0 [some (.ref 56), some (.int (nI k)), some (.int (nI p)), some (.int (nI a)), some (.int (nI b)), none] [] M Q := by
  have o1 := hob (8 * p + a)
  have o2 := hob (8 * p + b)
  refine sg_212_0 (sr_210 hN hp ha ?_)
  refine sg_212_6 (fun c1 c2 => ?_) (fun c1 c2 c3 => ?_) (fun c1 c2 c3 c4 => ?_) (fun c1 c2 c3 c4 => ?_) (fun c1 c2 => ?_) (fun c1 c2 c3 => ?_) (fun c1 c2 c3 c4 => ?_) (fun c1 c2 c3 c4 => ?_)
  · simp (disch := omega) only [in_lt, in_le, in_eq, in_add, in_mul, in_sb, in_cl, in_bz, in_bo, in_mo, not_true_eq_false, not_false_eq_true, il_0, il_1, il_2, il_3, il_4, il_5, il_6, il_7, il_8, il_9, il_10, il_11, il_12, il_13, il_14, il_15, il_16, il_31, in_om1] at c1 c2
    have e : ws_hw s k p a b = 0 := by simp [ws_hw, c1, c2]
    rw [e] at h
    exact h
  · simp (disch := omega) only [in_lt, in_le, in_eq, in_add, in_mul, in_sb, in_cl, in_bz, in_bo, in_mo, not_true_eq_false, not_false_eq_true, il_0, il_1, il_2, il_3, il_4, il_5, il_6, il_7, il_8, il_9, il_10, il_11, il_12, il_13, il_14, il_15, il_16, il_31, in_om1] at c1 c2 c3
    refine sr_210 hN hp (hb (by omega)) ?_
    refine sg_212_50 (fun d1 d2 => ?_) (fun d1 d2 => ?_) (fun d1 => ?_)
    · simp (disch := omega) only [in_lt, in_le, in_eq, in_add, in_mul, in_sb, in_cl, in_bz, in_bo, in_mo, not_true_eq_false, not_false_eq_true, il_0, il_1, il_2, il_3, il_4, il_5, il_6, il_7, il_8, il_9, il_10, il_11, il_12, il_13, il_14, il_15, il_16, il_31, in_om1] at d1 d2
      have e : ws_hw s k p a b = 3 := by simp [ws_hw, c3, d2]
      rw [e] at h
      exact h
    · simp (disch := omega) only [in_lt, in_le, in_eq, in_add, in_mul, in_sb, in_cl, in_bz, in_bo, in_mo, not_true_eq_false, not_false_eq_true, il_0, il_1, il_2, il_3, il_4, il_5, il_6, il_7, il_8, il_9, il_10, il_11, il_12, il_13, il_14, il_15, il_16, il_31, in_om1] at d1 d2
      have e : ws_hw s k p a b = 0 := by simp [ws_hw, c1, c3, d1, d2]
      rw [e] at h
      exact h
    · simp (disch := omega) only [in_lt, in_le, in_eq, in_add, in_mul, in_sb, in_cl, in_bz, in_bo, in_mo, not_true_eq_false, not_false_eq_true, il_0, il_1, il_2, il_3, il_4, il_5, il_6, il_7, il_8, il_9, il_10, il_11, il_12, il_13, il_14, il_15, il_16, il_31, in_om1] at d1
      have e : ws_hw s k p a b = 3 := by simp [ws_hw, c3, d1]
      rw [e] at h
      exact h
  · simp (disch := omega) only [in_lt, in_le, in_eq, in_add, in_mul, in_sb, in_cl, in_bz, in_bo, in_mo, not_true_eq_false, not_false_eq_true, il_0, il_1, il_2, il_3, il_4, il_5, il_6, il_7, il_8, il_9, il_10, il_11, il_12, il_13, il_14, il_15, il_16, il_31, in_om1] at c1 c2 c3 c4
    have e : ws_hw s k p a b = 3 := by simp [ws_hw, c1, c4]
    rw [e] at h
    exact h
  · simp (disch := omega) only [in_lt, in_le, in_eq, in_add, in_mul, in_sb, in_cl, in_bz, in_bo, in_mo, not_true_eq_false, not_false_eq_true, il_0, il_1, il_2, il_3, il_4, il_5, il_6, il_7, il_8, il_9, il_10, il_11, il_12, il_13, il_14, il_15, il_16, il_31, in_om1] at c1 c2 c3 c4
    have e : ws_hw s k p a b = 3 := by simp [ws_hw, c1, c2, c3, c4]
    rw [e] at h
    exact h
  · simp (disch := omega) only [in_lt, in_le, in_eq, in_add, in_mul, in_sb, in_cl, in_bz, in_bo, in_mo, not_true_eq_false, not_false_eq_true, il_0, il_1, il_2, il_3, il_4, il_5, il_6, il_7, il_8, il_9, il_10, il_11, il_12, il_13, il_14, il_15, il_16, il_31, in_om1] at c1 c2
    have e : ws_hw s k p a b = 3 := by simp [ws_hw, c1, c2]
    rw [e] at h
    exact h
  · simp (disch := omega) only [in_lt, in_le, in_eq, in_add, in_mul, in_sb, in_cl, in_bz, in_bo, in_mo, not_true_eq_false, not_false_eq_true, il_0, il_1, il_2, il_3, il_4, il_5, il_6, il_7, il_8, il_9, il_10, il_11, il_12, il_13, il_14, il_15, il_16, il_31, in_om1] at c1 c2 c3
    have e : ws_hw s k p a b = 3 := by simp [ws_hw, c1, c3]
    rw [e] at h
    exact h
  · simp (disch := omega) only [in_lt, in_le, in_eq, in_add, in_mul, in_sb, in_cl, in_bz, in_bo, in_mo, not_true_eq_false, not_false_eq_true, il_0, il_1, il_2, il_3, il_4, il_5, il_6, il_7, il_8, il_9, il_10, il_11, il_12, il_13, il_14, il_15, il_16, il_31, in_om1] at c1 c2 c3 c4
    refine sr_210 hN hp (hb (by omega)) ?_
    refine sg_212_83 (fun d1 => ?_) (fun d1 => ?_)
    · simp (disch := omega) only [in_lt, in_le, in_eq, in_add, in_mul, in_sb, in_cl, in_bz, in_bo, in_mo, not_true_eq_false, not_false_eq_true, il_0, il_1, il_2, il_3, il_4, il_5, il_6, il_7, il_8, il_9, il_10, il_11, il_12, il_13, il_14, il_15, il_16, il_31, in_om1] at d1
      have e : ws_hw s k p a b = 0 := by simp [ws_hw, c1, c4, d1]
      rw [e] at h
      exact h
    · simp (disch := omega) only [in_lt, in_le, in_eq, in_add, in_mul, in_sb, in_cl, in_bz, in_bo, in_mo, not_true_eq_false, not_false_eq_true, il_0, il_1, il_2, il_3, il_4, il_5, il_6, il_7, il_8, il_9, il_10, il_11, il_12, il_13, il_14, il_15, il_16, il_31, in_om1] at d1
      have e : ws_hw s k p a b = 3 := by simp [ws_hw, c4, d1]
      rw [e] at h
      exact h
  · simp (disch := omega) only [in_lt, in_le, in_eq, in_add, in_mul, in_sb, in_cl, in_bz, in_bo, in_mo, not_true_eq_false, not_false_eq_true, il_0, il_1, il_2, il_3, il_4, il_5, il_6, il_7, il_8, il_9, il_10, il_11, il_12, il_13, il_14, il_15, il_16, il_31, in_om1] at c1 c2 c3 c4
    have e : ws_hw s k p a b = 0 := by simp [ws_hw, c1, c2, c3, c4]
    rw [e] at h
    exact h
theorem sr_213 (hN : rf_N s M) (hW : ws_W s) (hm : ws_md s ≤ 200) {k p a b : Nat} (hk : k = 7 ∨ k = 8) (hp : p < 16) (ha : a < 8) (hb : b ≤ 30) (h0 : ¬ ws_ob s (8 * p + a) = 0) (h : Q (some (.int (nI (ws_pw s k p a b)))) M) : px_T 0 213 0 [some (.ref 56), some (.int (nI k)), some (.int (nI p)), some (.int (nI a)), some (.int (nI b)), none] [] M Q := by
  have hob := hW.2.2.2.2.1
  have hu := hob (8 * p + a)
  obtain ⟨w, hw⟩ : ∃ w, ws_ob s (8 * p + a) = w + 1 := ⟨ws_ob s (8 * p + a) - 1, by omega⟩
  obtain ⟨w1, w2, w3⟩ := hW.2.2.2.2.2.2.1 w (by omega)
  have hob2 : ∀ i, ws_ob s i ≤ 200 := fun i => by have := hob i; omega
  have f1 := hN.2.2.2.2.1 w (by omega)
  have f2 := hN.2.2.2.2.2 w (by omega)
  have f3 := hW.2.2.2.2.2.2.2 w (by omega)
  refine sg_213_0 (sr_210 hN hp ha ?_)
  rw [hw, nI_pred]
  rcases hk with rfl | rfl
  · have e1 : ws_pw s 7 p a b = if ws_kd s w ≠ 2 then 4 else if ws_hd s (w - 1) = false then 5 else if 60 < ws_by s (w - 1) + b then 6 else 0 := by
      unfold ws_pw
      rw [hw]
      rfl
    rw [e1] at h
    refine sg_213_6 (fun c1 => by (try simp (disch := omega) only [in_lt, in_le, in_eq, in_add, in_mul, in_sb, in_cl, in_bz, in_bo, in_mo, not_true_eq_false, not_false_eq_true, il_0, il_1, il_2, il_3, il_4, il_5, il_6, il_7, il_8, il_9, il_10, il_11, il_12, il_13, il_14, il_15, il_16, il_31, f1, f2] at c1 ⊢) <;> exact me_vin (by omega) (by omega)) (fun c1 c2 => ?_) (fun c1 c2 => ?_) (fun c1 => by exfalso; (try simp (disch := omega) only [in_lt, in_le, in_eq, in_add, in_mul, in_sb, in_cl, in_bz, in_bo, in_mo, not_true_eq_false, not_false_eq_true, il_0, il_1, il_2, il_3, il_4, il_5, il_6, il_7, il_8, il_9, il_10, il_11, il_12, il_13, il_14, il_15, il_16, il_31, f1, f2] at c1) <;> omega) (fun c1 c2 c3 => by exfalso; (try simp (disch := omega) only [in_lt, in_le, in_eq, in_add, in_mul, in_sb, in_cl, in_bz, in_bo, in_mo, not_true_eq_false, not_false_eq_true, il_0, il_1, il_2, il_3, il_4, il_5, il_6, il_7, il_8, il_9, il_10, il_11, il_12, il_13, il_14, il_15, il_16, il_31, f1, f2] at c1 c2 c3) <;> omega) (fun c1 c2 c3 => by exfalso; (try simp (disch := omega) only [in_lt, in_le, in_eq, in_add, in_mul, in_sb, in_cl, in_bz, in_bo, in_mo, not_true_eq_false, not_false_eq_true, il_0, il_1, il_2, il_3, il_4, il_5, il_6, il_7, il_8, il_9, il_10, il_11, il_12, il_13, il_14, il_15, il_16, il_31, f1, f2] at c1 c2 c3) <;> omega) (fun c1 c2 => by exfalso; (try simp (disch := omega) only [in_lt, in_le, in_eq, in_add, in_mul, in_sb, in_cl, in_bz, in_bo, in_mo, not_true_eq_false, not_false_eq_true, il_0, il_1, il_2, il_3, il_4, il_5, il_6, il_7, il_8, il_9, il_10, il_11, il_12, il_13, il_14, il_15, il_16, il_31, f1, f2] at c1 c2) <;> omega)
    · simp (disch := omega) only [in_lt, in_le, in_eq, in_add, in_mul, in_sb, in_cl, in_bz, in_bo, in_mo, not_true_eq_false, not_false_eq_true, il_0, il_1, il_2, il_3, il_4, il_5, il_6, il_7, il_8, il_9, il_10, il_11, il_12, il_13, il_14, il_15, il_16, il_31, f1] at c2
      obtain ⟨v, rfl⟩ : ∃ v, w = v + 1 := ⟨w - 1, by have := w3 c2; omega⟩
      have f4 := hN.2.2.2.2.2 v (by omega)
      have f5 := hW.2.2.2.2.2.2.2 v (by omega)
      rw [if_neg (by omega), Nat.add_sub_cancel] at h
      rw [nI_pred]
      refine sr_211 hN hob2 (by omega) ?_
      refine sg_213_35 (fun c1 => ?_) (fun c1 => by (try simp (disch := omega) only [in_lt, in_le, in_eq, in_add, in_mul, in_sb, in_cl, in_bz, in_bo, in_mo, not_true_eq_false, not_false_eq_true, il_0, il_1, il_2, il_3, il_4, il_5, il_6, il_7, il_8, il_9, il_10, il_11, il_12, il_13, il_14, il_15, il_16, il_31, f4] at c1 ⊢) <;> exact me_vin (by omega) (by omega)) (fun c1 c2 => ?_) (fun c1 c2 => ?_)
      · rw [in_b0] at c1
        rw [if_pos c1] at h
        exact h
      · rw [in_b0] at c1
        simp (disch := omega) only [in_lt, in_le, in_eq, in_add, in_mul, in_sb, in_cl, in_bz, in_bo, in_mo, not_true_eq_false, not_false_eq_true, il_0, il_1, il_2, il_3, il_4, il_5, il_6, il_7, il_8, il_9, il_10, il_11, il_12, il_13, il_14, il_15, il_16, il_31, il_60, Nat.add_sub_cancel, f4] at c2
        rw [if_neg c1, if_neg (by omega)] at h
        exact h
      · rw [in_b0] at c1
        simp (disch := omega) only [in_lt, in_le, in_eq, in_add, in_mul, in_sb, in_cl, in_bz, in_bo, in_mo, not_true_eq_false, not_false_eq_true, il_0, il_1, il_2, il_3, il_4, il_5, il_6, il_7, il_8, il_9, il_10, il_11, il_12, il_13, il_14, il_15, il_16, il_31, il_60, Nat.add_sub_cancel, f4] at c2
        rw [if_neg c1, if_pos (by omega)] at h
        exact h
    · simp (disch := omega) only [in_lt, in_le, in_eq, in_add, in_mul, in_sb, in_cl, in_bz, in_bo, in_mo, not_true_eq_false, not_false_eq_true, il_0, il_1, il_2, il_3, il_4, il_5, il_6, il_7, il_8, il_9, il_10, il_11, il_12, il_13, il_14, il_15, il_16, il_31, f1] at c2
      rw [if_pos c2] at h
      exact h
  · have e1 : ws_pw s 8 p a b = if ws_kd s w ≠ 1 then 4 else if ws_by s w < b ∧ ws_hd s (w + 1) = true then 5 else 0 := by
      unfold ws_pw
      rw [hw]
      rfl
    rw [e1] at h
    refine sg_213_6 (fun c1 => by exfalso; (try simp (disch := omega) only [in_lt, in_le, in_eq, in_add, in_mul, in_sb, in_cl, in_bz, in_bo, in_mo, not_true_eq_false, not_false_eq_true, il_0, il_1, il_2, il_3, il_4, il_5, il_6, il_7, il_8, il_9, il_10, il_11, il_12, il_13, il_14, il_15, il_16, il_31, f1, f2] at c1) <;> omega) (fun c1 c2 => by exfalso; (try simp (disch := omega) only [in_lt, in_le, in_eq, in_add, in_mul, in_sb, in_cl, in_bz, in_bo, in_mo, not_true_eq_false, not_false_eq_true, il_0, il_1, il_2, il_3, il_4, il_5, il_6, il_7, il_8, il_9, il_10, il_11, il_12, il_13, il_14, il_15, il_16, il_31, f1, f2] at c1 c2) <;> omega) (fun c1 c2 => by exfalso; (try simp (disch := omega) only [in_lt, in_le, in_eq, in_add, in_mul, in_sb, in_cl, in_bz, in_bo, in_mo, not_true_eq_false, not_false_eq_true, il_0, il_1, il_2, il_3, il_4, il_5, il_6, il_7, il_8, il_9, il_10, il_11, il_12, il_13, il_14, il_15, il_16, il_31, f1, f2] at c1 c2) <;> omega) (fun c1 => by (try simp (disch := omega) only [in_lt, in_le, in_eq, in_add, in_mul, in_sb, in_cl, in_bz, in_bo, in_mo, not_true_eq_false, not_false_eq_true, il_0, il_1, il_2, il_3, il_4, il_5, il_6, il_7, il_8, il_9, il_10, il_11, il_12, il_13, il_14, il_15, il_16, il_31, f1, f2] at c1 ⊢) <;> exact me_vin (by omega) (by omega)) (fun c1 c2 c3 => ?_) (fun c1 c2 c3 => ?_) (fun c1 c2 => ?_)
    · simp (disch := omega) only [in_lt, in_le, in_eq, in_add, in_mul, in_sb, in_cl, in_bz, in_bo, in_mo, not_true_eq_false, not_false_eq_true, il_0, il_1, il_2, il_3, il_4, il_5, il_6, il_7, il_8, il_9, il_10, il_11, il_12, il_13, il_14, il_15, il_16, il_31, f1, f2] at c2 c3
      rw [if_neg (by omega), if_neg (by omega)] at h
      exact h
    · simp (disch := omega) only [in_lt, in_le, in_eq, in_add, in_mul, in_sb, in_cl, in_bz, in_bo, in_mo, not_true_eq_false, not_false_eq_true, il_0, il_1, il_2, il_3, il_4, il_5, il_6, il_7, il_8, il_9, il_10, il_11, il_12, il_13, il_14, il_15, il_16, il_31, f1, f2] at c2 c3
      rw [in_a1]
      refine sr_211 hN hob2 (by omega) ?_
      rw [if_neg (by omega)] at h
      refine sg_213_97 (fun d1 => ?_) (fun d1 => ?_)
      · rw [in_b0] at d1
        rw [if_neg (by rw [d1]; simp)] at h
        exact h
      · rw [in_b0, Bool.not_eq_false] at d1
        rw [if_pos ⟨by omega, d1⟩] at h
        exact h
    · simp (disch := omega) only [in_lt, in_le, in_eq, in_add, in_mul, in_sb, in_cl, in_bz, in_bo, in_mo, not_true_eq_false, not_false_eq_true, il_0, il_1, il_2, il_3, il_4, il_5, il_6, il_7, il_8, il_9, il_10, il_11, il_12, il_13, il_14, il_15, il_16, il_31, f1] at c2
      rw [if_pos c2] at h
      exact h
theorem sr_214 {n law e : Nat} {ev : Nat → ws_E} {lf : Nat → Bool} (hL : rf_L n law ev lf M) (he : e < n) (hn : n ≤ 72) (hN : rf_N s M) (hW : ws_W s) (hm : ws_md s ≤ 200) (hok : iv_ok (ev e)) (h : Q (some (.int (nI (ws_why s (ev e))))) M) : px_T 0 214 0 [some (.ref 56), some (.int (nI e)), none, none, none] [] M Q := by
  obtain ⟨f1, f2, f3, f4, _⟩ := hL.2.2 e he
  have hb := iv_okb hok
  generalize ev e = E at *
  obtain ⟨k, p, a, b⟩ := E
  simp only at f1 f2 f3 f4 hb
  unfold iv_ok at hok
  simp only at hok
  obtain ⟨⟨g1, g2, _⟩, g4, g5, g6, g7, g8⟩ := hN
  have hN : rf_N s M := ⟨⟨g1, g2, by assumption⟩, g4, g5, g6, g7, g8⟩
  have hob := hW.2.2.2.2.1
  have hob2 : ∀ i, ws_ob s i ≤ 200 := fun i => by have := hob i; omega
  have hal := hW.1.1
  have hev := hW.1.2.1
  have hsp := hW.2.2.1 p
  have gs := g5 p (by omega)
  refine sg_214_0 (by (try simp (disch := omega) only [in_lt, in_le, in_eq, in_add, in_mul, in_sb, in_cl, in_bz, in_bo, in_mo, not_true_eq_false, not_false_eq_true, il_0, il_1, il_2, il_3, il_4, il_5, il_6, il_7, il_8, il_9, il_10, il_11, il_12, il_13, il_14, il_15, il_16, il_31] at ⊢) <;> exact me_vin (by omega) (by omega)) ?_
  rw [in_cl (by omega), g1, f1, f2]
  refine sr_177 (by omega) (by omega) ?_
  refine sg_214_22 (fun c1 => ?_) (fun c1 c2 => by (try simp (disch := omega) only [in_lt, in_le, in_eq, in_add, in_mul, in_sb, in_cl, in_bz, in_bo, in_mo, not_true_eq_false, not_false_eq_true, il_0, il_1, il_2, il_3, il_4, il_5, il_6, il_7, il_8, il_9, il_10, il_11, il_12, il_13, il_14, il_15, il_16, il_31, gs] at c1 c2 ⊢) <;> exact me_vin (by omega) (by omega)) (fun c1 c2 => ?_) (fun c1 c2 c3 => by (try simp (disch := omega) only [in_lt, in_le, in_eq, in_add, in_mul, in_sb, in_cl, in_bz, in_bo, in_mo, not_true_eq_false, not_false_eq_true, il_0, il_1, il_2, il_3, il_4, il_5, il_6, il_7, il_8, il_9, il_10, il_11, il_12, il_13, il_14, il_15, il_16, il_31, gs] at c1 c2 c3 ⊢) <;> exact me_vin (by omega) (by omega)) (fun c1 c2 c3 c4 => ?_) (fun c1 c2 c3 c4 => ?_) (fun c1 c2 c3 c4 c5 => ?_) (fun c1 c2 c3 c4 c5 => ?_) (fun c1 c2 c3 c4 c5 => ?_) (fun c1 c2 c3 c4 c5 => by (try simp (disch := omega) only [in_lt, in_le, in_eq, in_add, in_mul, in_sb, in_cl, in_bz, in_bo, in_mo, not_true_eq_false, not_false_eq_true, il_0, il_1, il_2, il_3, il_4, il_5, il_6, il_7, il_8, il_9, il_10, il_11, il_12, il_13, il_14, il_15, il_16, il_31, gs] at c1 c2 c3 c4 c5 ⊢) <;> exact me_vin (by omega) (by omega)) (fun c1 c2 c3 c4 c5 => ?_)
  · rw [in_b0] at c1
    have e1 : ws_why s (k, p, a, b) = 1 := by simp [ws_why, c1]
    rw [e1] at h
    exact h
  · rw [in_b0, Bool.not_eq_false] at c1
    simp (disch := omega) only [in_lt, in_le, in_eq, in_add, in_mul, in_sb, in_cl, in_bz, in_bo, in_mo, not_true_eq_false, not_false_eq_true, il_0, il_1, il_2, il_3, il_4, il_5, il_6, il_7, il_8, il_9, il_10, il_11, il_12, il_13, il_14, il_15, il_16, il_31] at c2
    rw [in_cl (by omega), g2, f3]
    refine sr_177 (by omega) (by omega) ?_
    refine sg_214_44 (fun d => ?_) (fun d => ?_)
    · simp (disch := omega) only [in_lt, in_le, in_eq, in_add, in_mul, in_sb, in_cl, in_bz, in_bo, in_mo, not_true_eq_false, not_false_eq_true, il_0, il_1, il_2, il_3, il_4, il_5, il_6, il_7, il_8, il_9, il_10, il_11, il_12, il_13, il_14, il_15, il_16, il_31] at d
      have e1 : ws_why s (k, p, a, b) = 2 := by simp [ws_why, c1, c2, d]
      rw [e1] at h
      exact h
    · simp (disch := omega) only [in_lt, in_le, in_eq, in_add, in_mul, in_sb, in_cl, in_bz, in_bo, in_mo, not_true_eq_false, not_false_eq_true, il_0, il_1, il_2, il_3, il_4, il_5, il_6, il_7, il_8, il_9, il_10, il_11, il_12, il_13, il_14, il_15, il_16, il_31] at d
      have e1 : ws_why s (k, p, a, b) = 0 := by simp [ws_why, c1, c2, d]
      rw [e1] at h
      exact h
  · rw [in_b0, Bool.not_eq_false] at c1
    simp (disch := omega) only [in_lt, in_le, in_eq, in_add, in_mul, in_sb, in_cl, in_bz, in_bo, in_mo, not_true_eq_false, not_false_eq_true, il_0, il_1, il_2, il_3, il_4, il_5, il_6, il_7, il_8, il_9, il_10, il_11, il_12, il_13, il_14, il_15, il_16, il_31, gs] at c2 c3 c4
    have e1 : ws_why s (k, p, a, b) = 2 := by simp [ws_why, c1, c3, c4]
    rw [e1] at h
    exact h
  · rw [in_b0, Bool.not_eq_false] at c1
    simp (disch := omega) only [in_lt, in_le, in_eq, in_add, in_mul, in_sb, in_cl, in_bz, in_bo, in_mo, not_true_eq_false, not_false_eq_true, il_0, il_1, il_2, il_3, il_4, il_5, il_6, il_7, il_8, il_9, il_10, il_11, il_12, il_13, il_14, il_15, il_16, il_31, gs] at c2 c3 c4
    have e1 : ws_why s (k, p, a, b) = 0 := by simp [ws_why, c1, c3, c4]
    rw [e1] at h
    exact h
  · rw [in_b0, Bool.not_eq_false] at c1
    simp (disch := omega) only [in_lt, in_le, in_eq, in_add, in_mul, in_sb, in_cl, in_bz, in_bo, in_mo, not_true_eq_false, not_false_eq_true, il_0, il_1, il_2, il_3, il_4, il_5, il_6, il_7, il_8, il_9, il_10, il_11, il_12, il_13, il_14, il_15, il_16, il_31] at c4 c5
    have e1 : ws_why s (k, p, a, b) = 2 := by rw [c5] at c1; simp [ws_why, c1, c4, c5]
    rw [e1] at h
    exact h
  · rw [in_b0, Bool.not_eq_false] at c1
    simp (disch := omega) only [in_lt, in_le, in_eq, in_add, in_mul, in_sb, in_cl, in_bz, in_bo, in_mo, not_true_eq_false, not_false_eq_true, il_0, il_1, il_2, il_3, il_4, il_5, il_6, il_7, il_8, il_9, il_10, il_11, il_12, il_13, il_14, il_15, il_16, il_31] at c4 c5
    have e1 : ws_why s (k, p, a, b) = 0 := by simp [ws_why, c1, c4, c5]
    rw [e1] at h
    exact h
  · rw [in_b0, Bool.not_eq_false] at c1
    simp (disch := omega) only [in_lt, in_le, in_eq, in_add, in_mul, in_sb, in_cl, in_bz, in_bo, in_mo, not_true_eq_false, not_false_eq_true, il_0, il_1, il_2, il_3, il_4, il_5, il_6, il_7, il_8, il_9, il_10, il_11, il_12, il_13, il_14, il_15, il_16, il_31] at c5
    have e1 : ws_why s (k, p, a, b) = 0 := by simp [ws_why, c1, c5]
    rw [e1] at h
    exact h
  · rw [in_b0, Bool.not_eq_false] at c1
    simp (disch := omega) only [in_lt, in_le, in_eq, in_add, in_mul, in_sb, in_cl, in_bz, in_bo, in_mo, not_true_eq_false, not_false_eq_true, il_0, il_1, il_2, il_3, il_4, il_5, il_6, il_7, il_8, il_9, il_10, il_11, il_12, il_13, il_14, il_15, il_16, il_31] at c2 c3 c4 c5
    rw [in_cl (by omega), f3, f4]
    have e1 : ws_why s (k, p, a, b) = if ws_hw s k p a b ≠ 0 then ws_hw s k p a b else if k = 7 ∨ k = 8 then ws_pw s k p a b else 0 := by simp [ws_why, c1, c2, c3, c4, c5]
    rw [e1] at h
    have hw3 : ws_hw s k p a b = 0 ∨ ws_hw s k p a b = 3 := by
      unfold ws_hw
      simp only
      repeat' split
      all_goals omega
    refine sr_212 hN hob2 (by omega) (by omega) (by omega) (by omega) (by omega) ?_
    have hz : k = 7 ∨ k = 8 → ws_hw s k p a b = 0 → ¬ ws_ob s (8 * p + a) = 0 := by
      intro hk hz h0
      rcases hk with rfl | rfl
      · simp [ws_hw, h0] at hz
      · simp [ws_hw, h0] at hz
    refine sg_214_117 (fun c1 c2 => by (try simp (disch := omega) only [in_lt, in_le, in_eq, in_add, in_mul, in_sb, in_cl, in_bz, in_bo, in_mo, not_true_eq_false, not_false_eq_true, il_0, il_1, il_2, il_3, il_4, il_5, il_6, il_7, il_8, il_9, il_10, il_11, il_12, il_13, il_14, il_15, il_16, il_31] at c1 c2 ⊢) <;> exact me_vin (by omega) (by omega)) (fun c1 c2 => ?_) (fun c1 c2 c3 => by (try simp (disch := omega) only [in_lt, in_le, in_eq, in_add, in_mul, in_sb, in_cl, in_bz, in_bo, in_mo, not_true_eq_false, not_false_eq_true, il_0, il_1, il_2, il_3, il_4, il_5, il_6, il_7, il_8, il_9, il_10, il_11, il_12, il_13, il_14, il_15, il_16, il_31] at c1 c2 c3 ⊢) <;> exact me_vin (by omega) (by omega)) (fun c1 c2 c3 => ?_) (fun c1 c2 c3 => ?_) (fun c1 => ?_)
    · simp (disch := omega) only [in_lt, in_le, in_eq, in_add, in_mul, in_sb, in_cl, in_bz, in_bo, in_mo, not_true_eq_false, not_false_eq_true, il_0, il_1, il_2, il_3, il_4, il_5, il_6, il_7, il_8, il_9, il_10, il_11, il_12, il_13, il_14, il_15, il_16, il_31] at c1 c2
      rw [in_cl (by omega), f3, f4]
      refine sr_213 hN hW hm (Or.inl c2) (by omega) (by omega) (by omega) (hz (Or.inl c2) c1) ?_
      refine sg_214_154 ?_
      rw [if_neg (by omega), if_pos (Or.inl c2)] at h
      exact h
    · simp (disch := omega) only [in_lt, in_le, in_eq, in_add, in_mul, in_sb, in_cl, in_bz, in_bo, in_mo, not_true_eq_false, not_false_eq_true, il_0, il_1, il_2, il_3, il_4, il_5, il_6, il_7, il_8, il_9, il_10, il_11, il_12, il_13, il_14, il_15, il_16, il_31] at c1 c2 c3
      rw [in_cl (by omega), f3, f4]
      refine sr_213 hN hW hm (Or.inr c3) (by omega) (by omega) (by omega) (hz (Or.inr c3) c1) ?_
      refine sg_214_154 ?_
      rw [if_neg (by omega), if_pos (Or.inr c3)] at h
      exact h
    · simp (disch := omega) only [in_lt, in_le, in_eq, in_add, in_mul, in_sb, in_cl, in_bz, in_bo, in_mo, not_true_eq_false, not_false_eq_true, il_0, il_1, il_2, il_3, il_4, il_5, il_6, il_7, il_8, il_9, il_10, il_11, il_12, il_13, il_14, il_15, il_16, il_31] at c1 c2 c3
      rw [if_neg (by omega), if_neg (by omega)] at h
      rw [c1]
      exact h
    · simp (disch := omega) only [in_lt, in_le, in_eq, in_add, in_mul, in_sb, in_cl, in_bz, in_bo, in_mo, not_true_eq_false, not_false_eq_true, il_0, il_1, il_2, il_3, il_4, il_5, il_6, il_7, il_8, il_9, il_10, il_11, il_12, il_13, il_14, il_15, il_16, il_31] at c1
      rw [if_pos c1] at h
      exact h
theorem sr_215l {a f q : Nat} {pa : Nat → Nat} {d0 d3 : Option Value} (hpa : ∀ p, p < 16 → M.1 a (f + p) = nI (pa p)) (hia : ∀ p, p < 16 → px_ia 0 M a (nI (f + p))) (hf : f < 2 ^ 20) (hpb : ∀ p, p < 16 → pa p < 16) (hq1 : 1 ≤ q) (hq : q < 16) : ∀ (n k x : Nat), k + n = 16 → x < 16 → Q (some (.int (in_b (ws_hb pa q n x)))) M → px_T 0 215 10 [d0, some (.ref a), some (.int (nI f)), d3, some (.int (nI q)), some (.int (nI x)), some (.int (nI k))] [] M Q
  | 0, k, x, hk, hx, h => by
    refine sg_215_10 (fun c1 => ?_) (fun c1 c2 => by exfalso; (try simp (disch := omega) only [in_lt, in_le, in_eq, in_add, in_mul, in_sb, in_cl, in_bz, in_bo, in_mo, not_true_eq_false, not_false_eq_true, il_0, il_1, il_2, il_3, il_4, il_5, il_6, il_7, il_8, il_9, il_10, il_11, il_12, il_13, il_14, il_15, il_16, il_31] at c1 c2) <;> omega) (fun c1 c2 c3 => by exfalso; (try simp (disch := omega) only [in_lt, in_le, in_eq, in_add, in_mul, in_sb, in_cl, in_bz, in_bo, in_mo, not_true_eq_false, not_false_eq_true, il_0, il_1, il_2, il_3, il_4, il_5, il_6, il_7, il_8, il_9, il_10, il_11, il_12, il_13, il_14, il_15, il_16, il_31] at c1 c2 c3) <;> omega) (fun c1 c2 c3 => by exfalso; (try simp (disch := omega) only [in_lt, in_le, in_eq, in_add, in_mul, in_sb, in_cl, in_bz, in_bo, in_mo, not_true_eq_false, not_false_eq_true, il_0, il_1, il_2, il_3, il_4, il_5, il_6, il_7, il_8, il_9, il_10, il_11, il_12, il_13, il_14, il_15, il_16, il_31] at c1 c2 c3) <;> omega) (fun c1 c2 c3 => by exfalso; (try simp (disch := omega) only [in_lt, in_le, in_eq, in_add, in_mul, in_sb, in_cl, in_bz, in_bo, in_mo, not_true_eq_false, not_false_eq_true, il_0, il_1, il_2, il_3, il_4, il_5, il_6, il_7, il_8, il_9, il_10, il_11, il_12, il_13, il_14, il_15, il_16, il_31] at c1 c2 c3) <;> omega)
    exact h
  | n + 1, k, x, hk, hx, h => by
    unfold ws_hb at h
    refine sg_215_10 (fun c1 => by exfalso; (try simp (disch := omega) only [in_lt, in_le, in_eq, in_add, in_mul, in_sb, in_cl, in_bz, in_bo, in_mo, not_true_eq_false, not_false_eq_true, il_0, il_1, il_2, il_3, il_4, il_5, il_6, il_7, il_8, il_9, il_10, il_11, il_12, il_13, il_14, il_15, il_16, il_31] at c1) <;> omega) (fun c1 c2 => ?_) (fun c1 c2 c3 => ?_) (fun c1 c2 c3 => ?_) (fun c1 c2 c3 => ?_)
    · simp (disch := omega) only [in_lt, in_le, in_eq, in_add, in_mul, in_sb, in_cl, in_bz, in_bo, in_mo, not_true_eq_false, not_false_eq_true, il_0, il_1, il_2, il_3, il_4, il_5, il_6, il_7, il_8, il_9, il_10, il_11, il_12, il_13, il_14, il_15, il_16, il_31] at c2
      rw [if_pos c2] at h
      exact h
    · simp (disch := omega) only [in_lt, in_le, in_eq, in_add, in_mul, in_sb, in_cl, in_bz, in_bo, in_mo, not_true_eq_false, not_false_eq_true, il_0, il_1, il_2, il_3, il_4, il_5, il_6, il_7, il_8, il_9, il_10, il_11, il_12, il_13, il_14, il_15, il_16, il_31] at c2 c3
      rw [if_neg c2, if_pos c3] at h
      exact h
    · rw [in_add]
      exact hia x hx
    · simp (disch := omega) only [in_lt, in_le, in_eq, in_add, in_mul, in_sb, in_cl, in_bz, in_bo, in_mo, not_true_eq_false, not_false_eq_true, il_0, il_1, il_2, il_3, il_4, il_5, il_6, il_7, il_8, il_9, il_10, il_11, il_12, il_13, il_14, il_15, il_16, il_31] at c2 c3
      rw [if_neg c2, if_neg c3] at h
      rw [in_add, in_cl (by omega), hpa x hx, in_a1]
      exact sr_215l hpa hia hf hpb hq1 hq n (k + 1) (pa x) (by omega) (hpb x hx) h
theorem sr_215 {a f p q : Nat} {pa : Nat → Nat} (hpa : ∀ p, p < 16 → M.1 a (f + p) = nI (pa p)) (hia : ∀ p, p < 16 → px_ia 0 M a (nI (f + p))) (hf : f < 2 ^ 20) (hpb : ∀ p, p < 16 → pa p < 16) (hp : p < 16) (hq1 : 1 ≤ q) (hq : q < 16) (h : Q (some (.int (in_b (ws_hb pa q 16 (pa p))))) M) : px_T 0 215 0 [some (.ref 56), some (.ref a), some (.int (nI f)), some (.int (nI p)), some (.int (nI q)), none, none] [] M Q := by
  refine sg_215_0 ?_ ?_
  · rw [in_add]
    exact hia p hp
  · rw [in_add, in_cl (by omega), hpa p hp]
    exact sr_215l hpa hia hf hpb hq1 hq 16 0 (pa p) rfl (hpb p hp) h
theorem sr_216 {law c g l al : Nat} {pa se : Nat → Nat} (hlw : M.1 56 21 = nI law) (hal : M.1 56 22 = nI al) (ha : al < 2 ^ 16) (hpa : ∀ p, p < 16 → M.1 68 p = nI (pa p)) (hpb : ∀ p, p < 16 → pa p < 16) (hse : M.1 69 c = nI (se c)) (hs1 : 1 ≤ se c) (hs2 : se c < 16) (hc1 : 1 ≤ c) (hc : c < 16) (hg : g < 16) (hl : l < 16) (hlaw : law ≤ 3) (h : Q (some (.int (nI (ws_np law al se pa c g l)))) M) : px_T 0 216 0 [some (.ref 56), some (.int (nI c)), some (.int (nI g)), some (.int (nI l)), none, none] [] M Q := by
  unfold ws_np at h
  have fin : ¬ law = 0 → ¬ law = 1 → ¬ law = 3 → px_T 0 177 0 [some (.int (nI al)), some (.int (nI (se c)))] [] M (fun r M1 => px_T 0 216 64 [some (.ref 56), some (.int (nI c)), some (.int (nI g)), some (.int (nI l)), some (.int (nI (se c))), none] (r.toList ++ []) M1 Q) := by
    intro h0 h1 h3
    rw [if_neg h0, if_neg (by omega), if_neg h3] at h
    refine sr_177 (by omega) (by omega) ?_
    refine sg_216_64 (fun d1 d2 => ?_) (fun d1 d2 => ?_) (fun d1 => ?_)
    · simp (disch := omega) only [in_lt, in_le, in_eq, in_add, in_mul, in_sb, in_cl, in_bz, in_bo, in_mo, not_true_eq_false, not_false_eq_true, il_0, il_1, il_2, il_3, il_4, il_5, il_6, il_7, il_8, il_9, il_10, il_11, il_12, il_13, il_14, il_15, il_16, il_31] at d1 d2
      rw [if_neg (fun q => q.2.1 d2)] at h
      exact h
    · simp (disch := omega) only [in_lt, in_le, in_eq, in_add, in_mul, in_sb, in_cl, in_bz, in_bo, in_mo, not_true_eq_false, not_false_eq_true, il_0, il_1, il_2, il_3, il_4, il_5, il_6, il_7, il_8, il_9, il_10, il_11, il_12, il_13, il_14, il_15, il_16, il_31] at d1 d2
      have e68 : ∀ p, p < 16 → px_ia 0 M 68 (nI (0 + p)) := fun p hp => Or.inl ⟨0, 16, Or.inl rfl, rfl, me_vin (by omega) (by omega)⟩
      refine sr_215 (f := 0) (fun p hp => by rw [Nat.zero_add]; exact hpa p hp) e68 (by omega) hpb hs2 hc1 hc ?_
      refine sg_216_86 (fun d3 => ?_) (fun d3 => ?_)
      · rw [in_b0] at d3
        rw [if_pos ⟨d1, d2, d3⟩] at h
        exact h
      · rw [in_b0] at d3
        rw [if_neg (fun q => d3 q.2.2)] at h
        exact h
    · simp (disch := omega) only [in_lt, in_le, in_eq, in_add, in_mul, in_sb, in_cl, in_bz, in_bo, in_mo, not_true_eq_false, not_false_eq_true, il_0, il_1, il_2, il_3, il_4, il_5, il_6, il_7, il_8, il_9, il_10, il_11, il_12, il_13, il_14, il_15, il_16, il_31] at d1
      rw [if_neg (fun q => d1 q.1)] at h
      exact h
  refine sg_216_0 (fun c1 => ?_) (fun c1 c2 => by (try simp (disch := omega) only [in_lt, in_le, in_eq, in_add, in_mul, in_sb, in_cl, in_bz, in_bo, in_mo, not_true_eq_false, not_false_eq_true, il_0, il_1, il_2, il_3, il_4, il_5, il_6, il_7, il_8, il_9, il_10, il_11, il_12, il_13, il_14, il_15, il_16, il_31, hlw] at c1 c2 ⊢) <;> exact me_vin (by omega) (by omega)) (fun c1 c2 => ?_) (fun c1 c2 c3 c4 => by (try simp (disch := omega) only [in_lt, in_le, in_eq, in_add, in_mul, in_sb, in_cl, in_bz, in_bo, in_mo, not_true_eq_false, not_false_eq_true, il_0, il_1, il_2, il_3, il_4, il_5, il_6, il_7, il_8, il_9, il_10, il_11, il_12, il_13, il_14, il_15, il_16, il_31, hlw] at c1 c2 c3 c4 ⊢) <;> exact me_vin (by omega) (by omega)) (fun c1 c2 c3 c4 => ?_) (fun c1 c2 c3 c4 c5 => ?_) (fun c1 c2 c3 c4 c5 => by exfalso; (try simp (disch := omega) only [in_lt, in_le, in_eq, in_add, in_mul, in_sb, in_cl, in_bz, in_bo, in_mo, not_true_eq_false, not_false_eq_true, il_0, il_1, il_2, il_3, il_4, il_5, il_6, il_7, il_8, il_9, il_10, il_11, il_12, il_13, il_14, il_15, il_16, il_31, hlw] at c1 c2 c3 c4 c5) <;> omega) (fun c1 c2 c3 c4 c5 => by exfalso; (try simp (disch := omega) only [in_lt, in_le, in_eq, in_add, in_mul, in_sb, in_cl, in_bz, in_bo, in_mo, not_true_eq_false, not_false_eq_true, il_0, il_1, il_2, il_3, il_4, il_5, il_6, il_7, il_8, il_9, il_10, il_11, il_12, il_13, il_14, il_15, il_16, il_31, hlw] at c1 c2 c3 c4 c5) <;> omega) (fun c1 c2 c3 c4 => by exfalso; (try simp (disch := omega) only [in_lt, in_le, in_eq, in_add, in_mul, in_sb, in_cl, in_bz, in_bo, in_mo, not_true_eq_false, not_false_eq_true, il_0, il_1, il_2, il_3, il_4, il_5, il_6, il_7, il_8, il_9, il_10, il_11, il_12, il_13, il_14, il_15, il_16, il_31, hlw] at c1 c2 c3 c4) <;> omega) (fun c1 c2 c3 c4 => by (try simp (disch := omega) only [in_lt, in_le, in_eq, in_add, in_mul, in_sb, in_cl, in_bz, in_bo, in_mo, not_true_eq_false, not_false_eq_true, il_0, il_1, il_2, il_3, il_4, il_5, il_6, il_7, il_8, il_9, il_10, il_11, il_12, il_13, il_14, il_15, il_16, il_31, hlw] at c1 c2 c3 c4 ⊢) <;> exact me_vin (by omega) (by omega)) (fun c1 c2 c3 c4 => ?_)
  · simp (disch := omega) only [in_lt, in_le, in_eq, in_add, in_mul, in_sb, in_cl, in_bz, in_bo, in_mo, not_true_eq_false, not_false_eq_true, il_0, il_1, il_2, il_3, il_4, il_5, il_6, il_7, il_8, il_9, il_10, il_11, il_12, il_13, il_14, il_15, il_16, il_31, hlw] at c1
    rw [if_pos c1] at h
    exact h
  · simp (disch := omega) only [in_lt, in_le, in_eq, in_add, in_mul, in_sb, in_cl, in_bz, in_bo, in_mo, not_true_eq_false, not_false_eq_true, il_0, il_1, il_2, il_3, il_4, il_5, il_6, il_7, il_8, il_9, il_10, il_11, il_12, il_13, il_14, il_15, il_16, il_31, hlw] at c1 c2
    rw [if_neg c1, if_pos (Or.inl c2)] at h
    rw [in_cl (by omega), hpa g hg]
    exact h
  · simp (disch := omega) only [in_lt, in_le, in_eq, in_add, in_mul, in_sb, in_cl, in_bz, in_bo, in_mo, not_true_eq_false, not_false_eq_true, il_0, il_1, il_2, il_3, il_4, il_5, il_6, il_7, il_8, il_9, il_10, il_11, il_12, il_13, il_14, il_15, il_16, il_31, hlw] at c1 c2 c3 c4
    rw [if_neg c1, if_pos (Or.inr ⟨c3, c4⟩)] at h
    rw [in_cl (by omega), hpa g hg]
    exact h
  · simp (disch := omega) only [in_lt, in_le, in_eq, in_add, in_mul, in_sb, in_cl, in_bz, in_bo, in_mo, not_true_eq_false, not_false_eq_true, il_0, il_1, il_2, il_3, il_4, il_5, il_6, il_7, il_8, il_9, il_10, il_11, il_12, il_13, il_14, il_15, il_16, il_31, hlw] at c1 c2 c3 c4
    rw [if_neg c1, if_neg (by omega), if_pos c3] at h
    exact h
  · simp (disch := omega) only [in_lt, in_le, in_eq, in_add, in_mul, in_sb, in_cl, in_bz, in_bo, in_mo, not_true_eq_false, not_false_eq_true, il_0, il_1, il_2, il_3, il_4, il_5, il_6, il_7, il_8, il_9, il_10, il_11, il_12, il_13, il_14, il_15, il_16, il_31, hlw] at c1 c2 c3
    rw [in_cl (by omega), hse, hal]
    exact fin c1 c2 c3
end R40
