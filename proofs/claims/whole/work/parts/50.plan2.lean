/-! questions about the plan -/
def vl_116 (s : ws_S) (p : Nat) : Int32 := if (ws_al s).testBit p = true then nI ((pl_of s).1 p) else -1
def an_116 (y : iv_Y) (x1 x2 : Int32) : Int32 := if (tk y x2 && rg x1 1 15) = true then vl_116 (iv_rn y x2.toNatClampNeg) x1.toNatClampNeg else -2
def pl_lo (s : ws_S) : Nat := pl_L s (pl_of s).1
def vl_117 (s : ws_S) : Int32 := nI (pl_lo s)
def an_117 (y : iv_Y) (x1 : Int32) : Int32 := if tk y x1 = true then vl_117 (iv_rn y x1.toNatClampNeg) else -2
def pl_sp (s : ws_S) : Nat := sm (fun i => pl_g ((pl_of s).1 ((pl_of s).2.1 (i + 1)))) ((pl_of s).2.2 - 1)
def vl_118 (s : ws_S) : Int32 := nI (pl_sp s)
def an_118 (y : iv_Y) (x1 : Int32) : Int32 := if tk y x1 = true then vl_118 (iv_rn y x1.toNatClampNeg) else -2
def vl_119 (s : ws_S) (i : Nat) : Int32 := if i < (pl_of s).2.2 then nI ((pl_of s).2.1 i) else -1
def an_119 (y : iv_Y) (x1 x2 : Int32) : Int32 := if (tk y x2 && rg x1 0 2147483647) = true then vl_119 (iv_rn y x2.toNatClampNeg) x1.toNatClampNeg else -2
def vl_120 (s : ws_S) : Int32 := nI (pl_ct (pl_of s).1 4)
def an_120 (y : iv_Y) (x1 : Int32) : Int32 := if tk y x1 = true then vl_120 (iv_rn y x1.toNatClampNeg) else -2
def vl_sf (f : Nat → Bool) : Nat → Nat
  | 0 => 0
  | k + 1 => if f k = true then k else vl_sf f k
theorem vl_sf_s (f : Nat → Bool) (k : Nat) : vl_sf f (k + 1) = if f k = true then k else vl_sf f k := rfl
def an_121 (y : iv_Y) : Int32 := if iv_ln y ≠ 0 then nI (vl_sf (fun t => decide (pl_lo (iv_rn y t) = 0)) (iv_n y + 1)) else -2
theorem in_dec (t : Nat) : nI (t + 1) + Int32.ofInt (-1) = nI t := by
  rw [← nI_pred t, Int32.sub_eq_add_neg]
  rfl
section P50
variable {M : px_Mem} {Q : px_Po} {y : iv_Y} {s : ws_S}
theorem pl_of_I (hW : ws_W s) : pl_I s (pl_of s) := pl_I_go hW.1.2.2.2.1 14
theorem pl_ct_le (w : Nat → Nat) (c : Nat) : pl_ct w c ≤ 15 := fb_ct_le _ _
theorem cq_p {M1 M2 : px_Mem} (C : ic y M) (q : cq y M M1) (k : me_fr [44, 45, 46] M1 M2) : cq y M M2 :=
  cq_tr q (cq_w (ic_cq C q) (fun a ha => (k a (by simp; omega)).1) (fun a ha => (k a (by simp; omega)).2))
theorem sc_116 (C : ic y M) {x1 x2 : Int32} (h : ∀ M', cq y M M' → Q (some (.int (an_116 y x1 x2))) M') : px_T 0 116 0 [some (.ref 0), some (.int x1), some (.int x2), none] [] M Q := by
  refine sg_116_0 (sc_153 (fun p hp p1 p2 g1 => ?_) (fun g1 => sg_116_4 (fun c1 => absurd c1 (by decide)) (fun c1 => by have h9 := h _ (cq_rf C); rw [(show an_116 y x1 x2 = -2 from by (unfold an_116; simp only [g1, Bool.and_false, Bool.false_and, Bool.false_eq_true, if_false]))] at h9; exact h9)))
  refine sg_116_4 (fun c1 => sc_152 C (fun t ht t1 g2 => ?_) (fun g2 => sg_116_12 (fun c1 => absurd c1 (by decide)) (fun c1 => by have h9 := h _ (cq_rf C); rw [(show an_116 y x1 x2 = -2 from by (unfold an_116; simp only [g2, Bool.and_false, Bool.false_and, Bool.false_eq_true, if_false]))] at h9; exact h9))) (fun c1 => absurd rfl c1)
  refine sg_116_12 (fun c1 => ?_) (fun c1 => absurd rfl c1)
  subst hp ht
  have hn := ic_n C
  have ev : an_116 y (nI p) (nI t) = vl_116 (iv_rn y t) p := by unfold an_116; simp (disch := omega) only [g1, g2, in_cl, Bool.and_true, if_true]
  rw [ev] at h
  refine sc_11 C t1 (fun M1 q1 hF => ?_)
  have hC := hF.2.1
  have hW := iv_rnW C.1 t1
  have hT := iv_rnT C.1 t1
  have hm := iv_rnm C.1 t1
  generalize iv_rn y t = s at h hC hW hT hm
  refine sg_116_26 (Or.inl rfl) (sw_63 (Or.inl rfl) hC hW p1 p2 ?_)
  unfold vl_116 at h
  refine sg_116_32 (Or.inl rfl) (fun c => ?_) (fun c => ?_)
  · rw [in_b0] at c
    rw [c] at h
    exact h M1 q1
  · rw [in_b0, Bool.not_eq_false] at c
    rw [if_pos c] at h
    refine sw_16 (Or.inl rfl) hC hW (fun M2 k2 hP => ?_)
    refine sg_116_45 (me_vin (by omega) (by omega)) ?_
    rw [in_cl (by omega), hP.2.2.1 p (by omega)]
    exact h M2 (cq_p C q1 k2)
theorem sc_117 (C : ic y M) {x1 : Int32} (h : ∀ M', cq y M M' → Q (some (.int (an_117 y x1))) M') : px_T 0 117 0 [some (.ref 0), some (.int x1)] [] M Q := by
  refine sg_117_0 (sc_152 C (fun t ht t1 g1 => ?_) (fun g1 => sg_117_5 (fun c1 => absurd c1 (by decide)) (fun c1 => by have h9 := h _ (cq_rf C); rw [(show an_117 y x1 = -2 from by (unfold an_117; simp only [g1, Bool.and_false, Bool.false_and, Bool.false_eq_true, if_false]))] at h9; exact h9)))
  refine sg_117_5 (fun c1 => ?_) (fun c1 => absurd rfl c1)
  subst ht
  have hn := ic_n C
  have ev : an_117 y (nI t) = vl_117 (iv_rn y t) := by unfold an_117; simp (disch := omega) only [g1, in_cl, Bool.and_true, if_true]
  rw [ev] at h
  refine sc_11 C t1 (fun M1 q1 hF => ?_)
  have hC := hF.2.1
  have hW := iv_rnW C.1 t1
  have hT := iv_rnT C.1 t1
  have hm := iv_rnm C.1 t1
  generalize iv_rn y t = s at h hC hW hT hm
  refine sg_117_23 (Or.inl rfl) (sw_16 (Or.inl rfl) hC hW (fun M2 k2 hP => sg_117_26 ?_))
  rw [hP.2.1]
  exact h M2 (cq_p C q1 k2)
theorem sc_118 (C : ic y M) {x1 : Int32} (h : ∀ M', cq y M M' → Q (some (.int (an_118 y x1))) M') : px_T 0 118 0 [some (.ref 0), some (.int x1)] [] M Q := by
  refine sg_118_0 (sc_152 C (fun t ht t1 g1 => ?_) (fun g1 => sg_118_5 (fun c1 => absurd c1 (by decide)) (fun c1 => by have h9 := h _ (cq_rf C); rw [(show an_118 y x1 = -2 from by (unfold an_118; simp only [g1, Bool.and_false, Bool.false_and, Bool.false_eq_true, if_false]))] at h9; exact h9)))
  refine sg_118_5 (fun c1 => ?_) (fun c1 => absurd rfl c1)
  subst ht
  have hn := ic_n C
  have ev : an_118 y (nI t) = vl_118 (iv_rn y t) := by unfold an_118; simp (disch := omega) only [g1, in_cl, Bool.and_true, if_true]
  rw [ev] at h
  refine sc_11 C t1 (fun M1 q1 hF => ?_)
  have hC := hF.2.1
  have hW := iv_rnW C.1 t1
  have hT := iv_rnT C.1 t1
  have hm := iv_rnm C.1 t1
  generalize iv_rn y t = s at h hC hW hT hm
  refine sg_118_23 (Or.inl rfl) (sw_16 (Or.inl rfl) hC hW (fun M2 k2 hP => sg_118_26 ?_))
  have hI := pl_of_I hW
  have h9 := h M2 (cq_p C q1 k2)
  have hr := hI.1.2.2.1
  refine sw_17 (c := 1) hP hr (by omega) (sg_118_35 (sw_17 (c := 2) hP hr (by omega) (sg_118_46 (sw_17 (c := 3) hP hr (by omega) (sg_118_55 (sw_17 (c := 4) hP hr (by omega) (sg_118_65 ?_)))))))
  have hs := hI.2.2.2.1
  have h1 : 1 ≤ pl_ct (pl_of s).1 1 := by
    have : 0 < fb_ct (fun i => decide ((pl_of s).1 (i + 1) = 1)) 15 := fb_ct_pos.mpr ⟨0, by omega, decide_eq_true hI.1.2.1⟩
    exact this
  unfold vl_118 pl_sp at h9
  have e : sm (fun i => pl_g ((pl_of s).1 ((pl_of s).2.1 (i + 1)))) ((pl_of s).2.2 - 1) = 2 * (pl_ct (pl_of s).1 1 - 1) + pl_ct (pl_of s).1 2 + pl_ct (pl_of s).1 3 + 3 * pl_ct (pl_of s).1 4 := by omega
  rw [e] at h9
  rw [in_s1 h1, il_2, il_3, in_mul, in_add, in_add, in_mul, in_add]
  exact h9
theorem sc_119 (C : ic y M) {x1 x2 : Int32} (h : ∀ M', cq y M M' → Q (some (.int (an_119 y x1 x2))) M') : px_T 0 119 0 [some (.ref 0), some (.int x1), some (.int x2)] [] M Q := by
  unfold an_119 at h
  have hn := ic_n C
  refine sg_119_0 (fun c => ?_) (fun c => ?_)
  · rw [fa_lt, Int32.toInt_zero] at c
    have h9 := h M (cq_rf C)
    rw [rg_f (Or.inl c), Bool.and_false, if_neg (by decide)] at h9
    exact h9
  · obtain ⟨i, hi, rfl⟩ := nI_of c
    rw [rg_n hi, decide_eq_true (by omega), Bool.and_true, in_cl hi] at h
    refine sc_152 C (fun t ht t1 g => sg_119_9 (fun _ => ?_) (fun c => absurd rfl c)) (fun g => sg_119_9 (fun c => absurd c (by decide)) (fun _ => ?_))
    · subst ht
      rw [g, if_pos rfl, in_cl (by omega)] at h
      refine sc_11 C t1 (fun M1 q1 hF => ?_)
      have hC := hF.2.1
      have hW := iv_rnW C.1 t1
      generalize iv_rn y t = s at h hC hW
      refine sg_119_27 (Or.inl rfl) (sw_16 (Or.inl rfl) hC hW (fun M2 k2 hP => ?_))
      have h9 := h M2 (cq_p C q1 k2)
      have hI := pl_of_I hW
      have f := hP.1
      have hz : (pl_of s).2.2 ≤ 16 := by rw [← hI.2.1.1]; exact fb_ct_le _ _
      have hz2 : (pl_of s).2.2 ≤ 15 := by
        have h1 := fb_ct_split (fun p => decide ((pl_of s).1 p ≠ 0)) 1 15
        have h2 := fb_ct_le (fun k => decide ((pl_of s).1 (1 + k) ≠ 0)) 15
        have h3 : fb_ct (fun p => decide ((pl_of s).1 p ≠ 0)) 1 = 0 := by
          rw [fb_ct_succ, decide_eq_false (fun q => q hI.1.1)]
          rfl
        have h4 := hI.2.1.1
        rw [h3] at h1
        have h5 : fb_ct (fun p => decide ((pl_of s).1 p ≠ 0)) 16 = 0 + fb_ct (fun k => decide ((pl_of s).1 (1 + k) ≠ 0)) 15 := h1
        omega
      unfold vl_119 at h9
      refine sg_119_30 (fun c1 => ?_) (fun c1 => by (try simp (disch := omega) only [in_lt, in_le, in_eq, in_add, in_mul, in_sb, in_cl, in_bz, in_bo, in_mo, not_true_eq_false, not_false_eq_true, il_0, il_1, il_2, il_3, il_4, il_5, il_6, il_7, il_8, il_9, il_10, il_11, il_12, il_13, il_14, il_15, il_16, il_31, f] at c1 ⊢) <;> exact me_vin (by omega) (by omega)) (fun c1 => ?_)
      · simp (disch := omega) only [in_lt, in_le, in_eq, in_add, in_mul, in_sb, in_cl, in_bz, in_bo, in_mo, not_true_eq_false, not_false_eq_true, il_0, il_1, il_2, il_3, il_4, il_5, il_6, il_7, il_8, il_9, il_10, il_11, il_12, il_13, il_14, il_15, il_16, il_31, f] at c1
        rw [if_neg (by omega)] at h9
        exact h9
      · simp (disch := omega) only [in_lt, in_le, in_eq, in_add, in_mul, in_sb, in_cl, in_bz, in_bo, in_mo, not_true_eq_false, not_false_eq_true, il_0, il_1, il_2, il_3, il_4, il_5, il_6, il_7, il_8, il_9, il_10, il_11, il_12, il_13, il_14, il_15, il_16, il_31, f] at c1
        rw [if_pos (by omega)] at h9
        rw [in_cl hi, hP.2.2.2 i (by omega)]
        exact h9
    · have h9 := h M (cq_rf C)
      rw [g, if_neg (by decide)] at h9
      exact h9
theorem sc_120 (C : ic y M) {x1 : Int32} (h : ∀ M', cq y M M' → Q (some (.int (an_120 y x1))) M') : px_T 0 120 0 [some (.ref 0), some (.int x1)] [] M Q := by
  refine sg_120_0 (sc_152 C (fun t ht t1 g1 => ?_) (fun g1 => sg_120_5 (fun c1 => absurd c1 (by decide)) (fun c1 => by have h9 := h _ (cq_rf C); rw [(show an_120 y x1 = -2 from by (unfold an_120; simp only [g1, Bool.and_false, Bool.false_and, Bool.false_eq_true, if_false]))] at h9; exact h9)))
  refine sg_120_5 (fun c1 => ?_) (fun c1 => absurd rfl c1)
  subst ht
  have hn := ic_n C
  have ev : an_120 y (nI t) = vl_120 (iv_rn y t) := by unfold an_120; simp (disch := omega) only [g1, in_cl, Bool.and_true, if_true]
  rw [ev] at h
  refine sc_11 C t1 (fun M1 q1 hF => ?_)
  have hC := hF.2.1
  have hW := iv_rnW C.1 t1
  have hT := iv_rnT C.1 t1
  have hm := iv_rnm C.1 t1
  generalize iv_rn y t = s at h hC hW hT hm
  refine sg_120_23 (Or.inl rfl) (sw_16 (Or.inl rfl) hC hW (fun M2 k2 hP => sg_120_26 ?_))
  exact sw_17 (c := 4) hP (pl_of_I hW).1.2.2.1 (by omega) (sg_120_34 (h M2 (cq_p C q1 k2)))
theorem sc_121l (h : ∀ M', cq y M M' → Q (some (.int (nI (vl_sf (fun t => decide (pl_lo (iv_rn y t) = 0)) (iv_n y + 1))))) M') (C0 : ic y M) : ∀ (n t : Nat) (N : px_Mem), t + n = iv_n y + 1 → cq y M N → px_T 0 121 14 [some (.ref 0), some (.int (nI (vl_sf (fun t => decide (pl_lo (iv_rn y t) = 0)) t))), some (.int (nI t))] [] N Q
  | 0, t, N, ht, q => by
    have C := ic_cq C0 q
    have hn := ic_n C
    have e : t = iv_n y + 1 := by omega
    subst e
    refine sg_121_14 (sp_53 (Or.inl rfl) C.2.1 ?_)
    refine sg_121_22 (fun c1 => ?_) (fun c1 => by exfalso; (try simp (disch := omega) only [in_lt, in_le, in_eq, in_add, in_mul, in_sb, in_cl, in_bz, in_bo, in_mo, not_true_eq_false, not_false_eq_true, il_0, il_1, il_2, il_3, il_4, il_5, il_6, il_7, il_8, il_9, il_10, il_11, il_12, il_13, il_14, il_15, il_16, il_31] at c1) <;> omega)
    exact h N q
  | n + 1, t, N, ht, q => by
    have C := ic_cq C0 q
    have hn := ic_n C
    refine sg_121_14 (sp_53 (Or.inl rfl) C.2.1 ?_)
    refine sg_121_22 (fun c1 => by exfalso; (try simp (disch := omega) only [in_lt, in_le, in_eq, in_add, in_mul, in_sb, in_cl, in_bz, in_bo, in_mo, not_true_eq_false, not_false_eq_true, il_0, il_1, il_2, il_3, il_4, il_5, il_6, il_7, il_8, il_9, il_10, il_11, il_12, il_13, il_14, il_15, il_16, il_31] at c1) <;> omega) (fun c1 => ?_)
    refine sc_11 C (by omega) (fun M1 q1 hF => ?_)
    have hW := iv_rnW C.1 (t := t) (by omega)
    refine sg_121_37 (Or.inl rfl) (sw_16 (Or.inl rfl) hF.2.1 hW (fun M2 k2 hP => ?_))
    have q2 := cq_tr q (cq_p C q1 k2)
    have f : M2.1 44 3 = nI (pl_lo (iv_rn y t)) := hP.2.1
    have fl : pl_lo (iv_rn y t) < 2 ^ 15 := pl_L_lt _ _
    have ih := sc_121l h C0 n (t + 1) M2 (by omega) q2
    unfold vl_sf at ih
    refine sg_121_40 (fun c => ?_) (fun c => ?_)
    · simp (disch := omega) only [in_lt, in_le, in_eq, in_add, in_mul, in_sb, in_cl, in_bz, in_bo, in_mo, not_true_eq_false, not_false_eq_true, il_0, il_1, il_2, il_3, il_4, il_5, il_6, il_7, il_8, il_9, il_10, il_11, il_12, il_13, il_14, il_15, il_16, il_31, f] at c
      rw [decide_eq_true c, if_pos rfl] at ih
      rw [in_a1]
      exact ih
    · simp (disch := omega) only [in_lt, in_le, in_eq, in_add, in_mul, in_sb, in_cl, in_bz, in_bo, in_mo, not_true_eq_false, not_false_eq_true, il_0, il_1, il_2, il_3, il_4, il_5, il_6, il_7, il_8, il_9, il_10, il_11, il_12, il_13, il_14, il_15, il_16, il_31, f] at c
      rw [decide_eq_false c, if_neg (by decide)] at ih
      rw [in_a1]
      exact ih
theorem sc_121 (C : ic y M) (h : ∀ M', cq y M M' → Q (some (.int (an_121 y))) M') : px_T 0 121 0 [some (.ref 0), none, none] [] M Q := by
  unfold an_121 at h
  refine sg_121_0 (sc_151 C (fun g => sg_121_4 (fun _ => ?_) (fun c => absurd rfl c)) (fun g => sg_121_4 (fun c => absurd c (by decide)) (fun _ => ?_)))
  · rw [if_pos g] at h
    exact sc_121l h C (iv_n y + 1) 0 M (by omega) (cq_rf C)
  · rw [if_neg (fun q => q g)] at h
    exact h M (cq_rf C)
/-! the reference -/
/-- only the plan changed -/
def pq (M M' : px_Mem) : Prop := (∀ a, a ≠ 56 → a ≠ 85 → a ≠ 86 → M'.1 a = M.1 a) ∧ M'.2 = M.2 ∧ ∀ i, i ≠ 43 → i ≠ 46 → M'.1 56 i = M.1 56 i
theorem pq_rf : pq M M := ⟨fun _ _ _ _ => rfl, rfl, fun _ _ _ => rfl⟩
theorem pq_tr {M1 M2 : px_Mem} (h : pq M M1) (h2 : pq M1 M2) : pq M M2 := ⟨fun a h3 h4 h5 => (h2.1 a h3 h4 h5).trans (h.1 a h3 h4 h5), h2.2.1.trans h.2.1, fun i a b => (h2.2.2 i a b).trans (h.2.2 i a b)⟩
theorem rq_p {M1 : px_Mem} (h : pq M M1) : rq M M1 := ⟨fun a h1 h2 => h.1 a h2 (by omega) (by omega), fun a _ => by rw [h.2.1], fun i hi => h.2.2 i (by omega) (by omega)⟩
theorem rt_at_p {t : Nat} {M1 : px_Mem} (hA : rt_at s t M) (h : pq M M1) : rt_at s t M1 := rt_at_fr hA (fun a h1 h2 => h.1 a (by omega) (by omega) (by omega))
theorem sr_268 {r : pl_S} (hP : pl_M r M) {q k : Nat} (q2 : q ≤ 15) (hn : r.2.2 ≤ 15) (h0 : k ≠ 0) (h : ∀ M', pq M M' → pl_M (pl_ra r q k) M' → Q none M') : px_T 0 268 0 [some (.ref 56), some (.int (nI q)), some (.int (nI k))] [] M Q := by
  obtain ⟨p1, p2, p3, p4⟩ := hP
  refine sg_268_0 (by (try simp (disch := omega) only [in_lt, in_le, in_eq, in_add, in_mul, in_sb, in_cl, in_bz, in_bo, in_mo, not_true_eq_false, not_false_eq_true, il_0, il_1, il_2, il_3, il_4, il_5, il_6, il_7, il_8, il_9, il_10, il_11, il_12, il_13, il_14, il_15, il_16, il_31, p2] at ⊢) <;> exact me_vin (by omega) (by omega)) (by (try simp (disch := omega) only [in_lt, in_le, in_eq, in_add, in_mul, in_sb, in_cl, in_bz, in_bo, in_mo, not_true_eq_false, not_false_eq_true, il_0, il_1, il_2, il_3, il_4, il_5, il_6, il_7, il_8, il_9, il_10, il_11, il_12, il_13, il_14, il_15, il_16, il_31, p2] at ⊢) <;> exact me_vin (by omega) (by omega)) ?_
  rw [p1, p2, in_cl (by omega), in_cl (by omega), in_a1, in_one (by omega), in_or, pl_R_ra q2 h0]
  refine h _ ⟨fun a h1 h2 h3 => ?_, rfl, fun i h1 h2 => ?_⟩ ⟨?_, ?_, fun p hp => ?_, fun i hi => ?_⟩
  · simp (disch := omega) only [me_II, me_Ii, me_Io, me_I2, me_L1, me_Li, me_LL, me_Lo, me_As, me_Ao, me_A2, me_Bs, me_Bo, me_B1]
  · simp (disch := omega) only [me_II, me_Ii, me_Io, me_I2, me_L1, me_Li, me_LL, me_Lo, me_As, me_Ao, me_A2, me_Bs, me_Bo, me_B1]
  · simp (disch := omega) only [me_II, me_Ii, me_Io, me_I2, me_L1, me_Li, me_LL, me_Lo, me_As, me_Ao, me_A2, me_Bs, me_Bo, me_B1]; rfl
  · simp (disch := omega) only [me_II, me_Ii, me_Io, me_I2, me_L1, me_Li, me_LL, me_Lo, me_As, me_Ao, me_A2, me_Bs, me_Bo, me_B1]; rfl
  · show _ = nI (ws_up r.1 q k p)
    by_cases hpq : p = q
    · subst hpq
      simp (disch := omega) only [me_II, me_Ii, me_Io, me_I2, me_L1, me_Li, me_LL, me_Lo, me_As, me_Ao, me_A2, me_Bs, me_Bo, me_B1, ws_up_s]
    · simp (disch := omega) only [me_II, me_Ii, me_Io, me_I2, me_L1, me_Li, me_LL, me_Lo, me_As, me_Ao, me_A2, me_Bs, me_Bo, me_B1, ws_up_n _ _ hpq]
      exact p3 p hp
  · have hi2 : i < r.2.2 + 1 := hi
    show _ = nI (ws_up r.2.1 r.2.2 q i)
    by_cases hin : i = r.2.2
    · subst hin
      simp (disch := omega) only [me_II, me_Ii, me_Io, me_I2, me_L1, me_Li, me_LL, me_Lo, me_As, me_Ao, me_A2, me_Bs, me_Bo, me_B1, ws_up_s]
    · simp (disch := omega) only [me_II, me_Ii, me_Io, me_I2, me_L1, me_Li, me_LL, me_Lo, me_As, me_Ao, me_A2, me_Bs, me_Bo, me_B1, ws_up_n _ _ hin]
      exact p4 i (by omega)
theorem vl_se_al {p : Nat} (h : (ws_al s).testBit p = true) : vl_se s p = nI (ws_se s p) := if_pos h
theorem vl_pa_al {p : Nat} (h : (ws_al s).testBit p = true) : vl_pa s p = nI (ws_pa s p) := if_pos h
theorem sr_267 {r : pl_S} {t p : Nat} (hA : rt_at s t M) (hW : ws_W s) (hT : ws_T s) (ht : t ≤ 72) (hP : pl_M r M) (hr : ∀ p, r.1 p ≤ 4) (p1 : 2 ≤ p) (p2 : p ≤ 15) (ha : (ws_al s).testBit p = true) (hpa : r.1 (ws_pa s p) ≠ 0) (h : Q (some (.int (nI (pl_w s r.1 p)))) M) : px_T 0 267 0 [some (.ref 56), some (.int (nI p)), some (.int (nI t)), none, none] [] M Q := by
  have hal := hW.1.1
  have b1 := hW.2.1 p
  have b2 := hW.2.2.1 p
  have b3 := hW.2.2.1 (ws_pa s p)
  have b4 := hW.2.1 (ws_pa s p)
  have b6 := hr (ws_pa s p)
  have hpal := ws_T_pa hT ha (by omega)
  have f6 := hP.2.2.1 (ws_pa s p) (by omega)
  have hR := pl_R_lt r.1
  unfold pl_w at h
  rw [if_neg hpa] at h
  refine sg_267_0 (sr_228 hA hal ht (by omega) (sg_267_6 (sr_229 hA hal ht (by omega) ?_)))
  rw [vl_pa_al ha, vl_se_al ha]
  refine sg_267_13 (fun c => ?_) (fun c => ?_)
  · simp (disch := omega) only [in_lt, in_le, in_eq, in_add, in_mul, in_sb, in_cl, in_bz, in_bo, in_mo, not_true_eq_false, not_false_eq_true, il_0, il_1, il_2, il_3, il_4, il_5, il_6, il_7, il_8, il_9, il_10, il_11, il_12, il_13, il_14, il_15, il_16, il_31] at c
    rw [if_pos c] at h
    exact h
  · simp (disch := omega) only [in_lt, in_le, in_eq, in_add, in_mul, in_sb, in_cl, in_bz, in_bo, in_mo, not_true_eq_false, not_false_eq_true, il_0, il_1, il_2, il_3, il_4, il_5, il_6, il_7, il_8, il_9, il_10, il_11, il_12, il_13, il_14, il_15, il_16, il_31] at c
    rw [if_neg c] at h
    refine sr_229 hA hal ht (by omega) ?_
    rw [vl_se_al hpal]
    refine sg_267_31 (fun c1 => ?_) (fun c1 c2 c3 => ?_) (fun c1 c2 c3 => by exfalso; (try simp (disch := omega) only [in_lt, in_le, in_eq, in_add, in_mul, in_sb, in_cl, in_bz, in_bo, in_mo, not_true_eq_false, not_false_eq_true, il_0, il_1, il_2, il_3, il_4, il_5, il_6, il_7, il_8, il_9, il_10, il_11, il_12, il_13, il_14, il_15, il_16, il_31, f6] at c1 c2 c3) <;> omega) (fun c1 c2 => by (try simp (disch := omega) only [in_lt, in_le, in_eq, in_add, in_mul, in_sb, in_cl, in_bz, in_bo, in_mo, not_true_eq_false, not_false_eq_true, il_0, il_1, il_2, il_3, il_4, il_5, il_6, il_7, il_8, il_9, il_10, il_11, il_12, il_13, il_14, il_15, il_16, il_31, f6] at c1 c2 ⊢) <;> exact me_vin (by omega) (by omega)) (fun c1 c2 c3 => ?_) (fun c1 c2 c3 c4 => by exfalso; (try simp (disch := omega) only [in_lt, in_le, in_eq, in_add, in_mul, in_sb, in_cl, in_bz, in_bo, in_mo, not_true_eq_false, not_false_eq_true, il_0, il_1, il_2, il_3, il_4, il_5, il_6, il_7, il_8, il_9, il_10, il_11, il_12, il_13, il_14, il_15, il_16, il_31, f6] at c1 c2 c3 c4) <;> omega) (fun c1 c2 c3 c4 => ?_)
    · simp (disch := omega) only [in_lt, in_le, in_eq, in_add, in_mul, in_sb, in_cl, in_bz, in_bo, in_mo, not_true_eq_false, not_false_eq_true, il_0, il_1, il_2, il_3, il_4, il_5, il_6, il_7, il_8, il_9, il_10, il_11, il_12, il_13, il_14, il_15, il_16, il_31] at c1
      rw [if_pos c1] at h
      exact h
    · simp (disch := omega) only [in_lt, in_le, in_eq, in_add, in_mul, in_sb, in_cl, in_bz, in_bo, in_mo, not_true_eq_false, not_false_eq_true, il_0, il_1, il_2, il_3, il_4, il_5, il_6, il_7, il_8, il_9, il_10, il_11, il_12, il_13, il_14, il_15, il_16, il_31] at c1 c2
      rw [if_neg c1, if_pos c2] at h
      rw [hP.1]
      refine sr_177 (by omega) (by omega) ?_
      rw [pl_R_bit r.1 (by omega)]
      refine sg_267_83 (fun d => ?_) (fun d => ?_)
      · simp (disch := omega) only [in_lt, in_le, in_eq, in_add, in_mul, in_sb, in_cl, in_bz, in_bo, in_mo, not_true_eq_false, not_false_eq_true, il_0, il_1, il_2, il_3, il_4, il_5, il_6, il_7, il_8, il_9, il_10, il_11, il_12, il_13, il_14, il_15, il_16, il_31] at d
        rw [if_neg (of_decide_eq_true d)] at h
        exact h
      · simp (disch := omega) only [in_lt, in_le, in_eq, in_add, in_mul, in_sb, in_cl, in_bz, in_bo, in_mo, not_true_eq_false, not_false_eq_true, il_0, il_1, il_2, il_3, il_4, il_5, il_6, il_7, il_8, il_9, il_10, il_11, il_12, il_13, il_14, il_15, il_16, il_31] at d
        rw [Bool.not_eq_true] at d
        rw [if_pos (Decidable.not_not.mp (of_decide_eq_false d))] at h
        exact h
    · simp (disch := omega) only [in_lt, in_le, in_eq, in_add, in_mul, in_sb, in_cl, in_bz, in_bo, in_mo, not_true_eq_false, not_false_eq_true, il_0, il_1, il_2, il_3, il_4, il_5, il_6, il_7, il_8, il_9, il_10, il_11, il_12, il_13, il_14, il_15, il_16, il_31, f6] at c1 c2 c3
      rw [if_neg c1, if_neg c2] at h
      refine sr_228 hA hal ht (by omega) ?_
      have hpp := ws_T_pa hT hpal c2
      have b7 := hW.2.2.1 (ws_pa s (ws_pa s p))
      rw [vl_pa_al hpal]
      refine sg_267_60 (sr_229 hA hal ht (by omega) ?_)
      rw [vl_se_al hpp]
      refine sg_267_64 (fun d => ?_) (fun d e => ?_) (fun d e => ?_)
      · simp (disch := omega) only [in_lt, in_le, in_eq, in_add, in_mul, in_sb, in_cl, in_bz, in_bo, in_mo, not_true_eq_false, not_false_eq_true, il_0, il_1, il_2, il_3, il_4, il_5, il_6, il_7, il_8, il_9, il_10, il_11, il_12, il_13, il_14, il_15, il_16, il_31] at d
        rw [if_pos ⟨c3, d⟩] at h
        exact h
      · simp (disch := omega) only [in_lt, in_le, in_eq, in_add, in_mul, in_sb, in_cl, in_bz, in_bo, in_mo, not_true_eq_false, not_false_eq_true, il_0, il_1, il_2, il_3, il_4, il_5, il_6, il_7, il_8, il_9, il_10, il_11, il_12, il_13, il_14, il_15, il_16, il_31] at e
        exact absurd e c2
      · simp (disch := omega) only [in_lt, in_le, in_eq, in_add, in_mul, in_sb, in_cl, in_bz, in_bo, in_mo, not_true_eq_false, not_false_eq_true, il_0, il_1, il_2, il_3, il_4, il_5, il_6, il_7, il_8, il_9, il_10, il_11, il_12, il_13, il_14, il_15, il_16, il_31] at d
        rw [if_neg (fun q => d q.2)] at h
        exact h
    · simp (disch := omega) only [in_lt, in_le, in_eq, in_add, in_mul, in_sb, in_cl, in_bz, in_bo, in_mo, not_true_eq_false, not_false_eq_true, il_0, il_1, il_2, il_3, il_4, il_5, il_6, il_7, il_8, il_9, il_10, il_11, il_12, il_13, il_14, il_15, il_16, il_31, f6] at c1 c2 c3
      rw [if_neg c1, if_neg c2, if_neg (fun q => c3 q.1)] at h
      exact h
theorem sr_269l {r : pl_S} {t : Nat} (hA : rt_at s t M) (hW : ws_W s) (hT : ws_T s) (ht : t ≤ 72) (hP : pl_M r M) (hr : ∀ p, r.1 p ≤ 4) (h : Q (some (.int (if pl_nx s r.1 14 2 = 0 then -1 else nI (pl_nx s r.1 14 2)))) M) : ∀ (n p : Nat), p + n = 16 → 2 ≤ p → pl_nx s r.1 14 2 = pl_nx s r.1 n p → px_T 0 269 2 [some (.ref 56), some (.int (nI t)), some (.int (nI p))] [] M Q
  | 0, p, hp, p1, hx => by
    refine sg_269_2 (fun c1 => ?_) (fun c1 => by exfalso; (try simp (disch := omega) only [in_lt, in_le, in_eq, in_add, in_mul, in_sb, in_cl, in_bz, in_bo, in_mo, not_true_eq_false, not_false_eq_true, il_0, il_1, il_2, il_3, il_4, il_5, il_6, il_7, il_8, il_9, il_10, il_11, il_12, il_13, il_14, il_15, il_16, il_31] at c1) <;> omega)
    have e : pl_nx s r.1 14 2 = 0 := hx
    rw [if_pos e] at h
    exact h
  | n + 1, p, hp, p1, hx => by
    have hR := pl_R_lt r.1
    rw [pl_nx_s s r.1 n p] at hx
    have next : ¬ ((ws_al s).testBit p = true ∧ r.1 p = 0 ∧ pl_w s r.1 p ≠ 0) → px_T 0 269 2 [some (.ref 56), some (.int (nI t)), some (.int (nI p + 1))] [] M Q := by
      intro hno
      rw [if_neg hno] at hx
      rw [in_a1]
      exact sr_269l hA hW hT ht hP hr h n (p + 1) (by omega) (by omega) hx
    refine sg_269_2 (fun c1 => by exfalso; (try simp (disch := omega) only [in_lt, in_le, in_eq, in_add, in_mul, in_sb, in_cl, in_bz, in_bo, in_mo, not_true_eq_false, not_false_eq_true, il_0, il_1, il_2, il_3, il_4, il_5, il_6, il_7, il_8, il_9, il_10, il_11, il_12, il_13, il_14, il_15, il_16, il_31] at c1) <;> omega) (fun c1 => ?_)
    refine sr_227 hA hW.1.1 ht (by omega) ?_
    refine sg_269_14 (fun c => ?_) (fun c => ?_)
    · rw [in_b0] at c
      exact next (fun q => by rw [c] at q; exact absurd q.1 (by decide))
    · rw [in_b0, Bool.not_eq_false] at c
      rw [hP.1]
      refine sr_177 (by omega) (by omega) ?_
      rw [pl_R_bit r.1 (by omega)]
      refine sg_269_25 (fun d => ?_) (fun d => ?_)
      · rw [in_b0, decide_eq_false_iff_not, Decidable.not_not] at d
        refine sr_228 hA hW.1.1 ht (by omega) (sg_269_38 ?_)
        have b1 := hW.2.1 p
        rw [vl_pa_al c, hP.1]
        refine sr_177 (by omega) (by omega) ?_
        rw [pl_R_bit r.1 b1]
        refine sg_269_41 (fun e => ?_) (fun e => ?_)
        · simp (disch := omega) only [in_lt, in_le, in_eq, in_add, in_mul, in_sb, in_cl, in_bz, in_bo, in_mo, not_true_eq_false, not_false_eq_true, il_0, il_1, il_2, il_3, il_4, il_5, il_6, il_7, il_8, il_9, il_10, il_11, il_12, il_13, il_14, il_15, il_16, il_31] at e
          have e2 := of_decide_eq_true e
          refine sr_267 hA hW hT ht hP hr p1 (by omega) c e2 ?_
          have hwl := pl_w_le s r.1 p
          refine sg_269_51 (fun f => ?_) (fun f => ?_)
          · simp (disch := omega) only [in_lt, in_le, in_eq, in_add, in_mul, in_sb, in_cl, in_bz, in_bo, in_mo, not_true_eq_false, not_false_eq_true, il_0, il_1, il_2, il_3, il_4, il_5, il_6, il_7, il_8, il_9, il_10, il_11, il_12, il_13, il_14, il_15, il_16, il_31] at f
            exact next (fun q => q.2.2 (by omega))
          · simp (disch := omega) only [in_lt, in_le, in_eq, in_add, in_mul, in_sb, in_cl, in_bz, in_bo, in_mo, not_true_eq_false, not_false_eq_true, il_0, il_1, il_2, il_3, il_4, il_5, il_6, il_7, il_8, il_9, il_10, il_11, il_12, il_13, il_14, il_15, il_16, il_31] at f
            rw [if_pos ⟨c, d, by omega⟩] at hx
            rw [hx, if_neg (by omega)] at h
            exact h
        · simp (disch := omega) only [in_lt, in_le, in_eq, in_add, in_mul, in_sb, in_cl, in_bz, in_bo, in_mo, not_true_eq_false, not_false_eq_true, il_0, il_1, il_2, il_3, il_4, il_5, il_6, il_7, il_8, il_9, il_10, il_11, il_12, il_13, il_14, il_15, il_16, il_31] at e
          rw [Bool.not_eq_true] at e
          have e2 := Decidable.not_not.mp (of_decide_eq_false e)
          exact next (fun q => q.2.2 (if_pos e2))
      · rw [in_b0, Bool.not_eq_false] at d
        exact next (fun q => of_decide_eq_true d q.2.1)
theorem sr_270l {t : Nat} {M0 : px_Mem} (hW : ws_W s) (hT : ws_T s) (ht : t ≤ 72) (h : ∀ M', pq M0 M' → pl_M (pl_of s) M' → Q none M') : ∀ (n k : Nat) (N : px_Mem), k + n = 14 → (∀ j, j < k → pl_nx s (pl_go s j).1 14 2 ≠ 0) → pq M0 N → rt_at s t N → pl_M (pl_go s k) N → px_T 0 270 43 [some (.ref 56), some (.int (nI t)), some (.int (if pl_nx s (pl_go s k).1 14 2 = 0 then -1 else nI (pl_nx s (pl_go s k).1 14 2)))] [] N Q
  | 0, k, N, hk, hj, hq, hA, hP => by
    have e : k = 14 := by omega
    subst e
    rw [if_pos (pl_full hW.1.2.2.2.1 hj)]
    exact sg_270_43 (fun _ => h N hq hP) (fun c => absurd rfl c)
  | n + 1, k, N, hk, hj, hq, hA, hP => by
    have hI := pl_I_go (s := s) hW.1.2.2.2.1 k
    by_cases hz : pl_nx s (pl_go s k).1 14 2 = 0
    · rw [if_pos hz]
      refine sg_270_43 (fun _ => h N hq ?_) (fun c => absurd rfl c)
      have e : pl_of s = pl_go s k := by
        have := pl_go_stay hz (n + 1)
        rw [show k + (n + 1) = 14 by omega] at this
        exact this
      rw [e]
      exact hP
    · rw [if_neg hz]
      obtain ⟨a1, a2, a3, a4, a5⟩ := (pl_nx_or s (pl_go s k).1 14 2).resolve_left hz
      have hpa : (pl_go s k).1 (ws_pa s (pl_nx s (pl_go s k).1 14 2)) ≠ 0 := by
        intro e
        exact a5 (if_pos e)
      refine sg_270_43 (fun c => ((in_mo (by omega)).mp c).elim) (fun _ => ?_)
      refine sr_267 hA hW hT ht hP hI.1.2.2.1 a1 (by omega) a3 hpa (sg_270_56 ?_)
      have h14 := pl_n14 hI (by omega) (by omega) a4
      refine sr_268 hP (by omega) (by omega) a5 (fun M1 k1 hP1 => sg_270_59 (sg_269_0 ?_))
      have e1 : pl_ra (pl_go s k) (pl_nx s (pl_go s k).1 14 2) (pl_w s (pl_go s k).1 (pl_nx s (pl_go s k).1 14 2)) = pl_go s (k + 1) := by
        show _ = pl_st s (pl_go s k)
        rw [pl_st, if_neg hz]
      rw [e1] at hP1
      have hA1 := rt_at_p hA k1
      refine sr_269l hA1 hW hT ht hP1 (pl_I_go (s := s) hW.1.2.2.2.1 (k + 1)).1.2.2.1 (sg_270_64 ?_) 14 2 rfl (by omega) rfl
      refine sr_270l hW hT ht h n (k + 1) M1 (by omega) (fun j hj2 => ?_) (pq_tr hq k1) hA1 hP1
      by_cases hjk : j = k
      · rw [hjk]
        exact hz
      · exact hj j (by omega)
theorem sr_270 {t : Nat} (hA : rt_at s t M) (hW : ws_W s) (hT : ws_T s) (ht : t ≤ 72) (h : ∀ M', pq M M' → pl_M (pl_of s) M' → Q none M') : px_T 0 270 0 [some (.ref 56), some (.int (nI t)), none] [] M Q := by
  refine sg_270_0 ?_
  generalize hM1 : px_wI (px_wI M 56 43 0) 56 46 0 = M1
  have hl : ∀ i, i ≤ 16 → px_T 0 270 12 [some (.ref 56), some (.int (nI t)), some (.int (nI i))] [] (px_aI M1 85 (fa_fill (fun _ => 0) (M1.1 85) i)) Q := by
    refine lp_dn ?_ (fun i hi ih => ?_)
    · refine sg_270_12 (fun c1 => ?_) (fun c1 => by exfalso; (try simp (disch := omega) only [in_lt, in_le, in_eq, in_add, in_mul, in_sb, in_cl, in_bz, in_bo, in_mo, not_true_eq_false, not_false_eq_true, il_0, il_1, il_2, il_3, il_4, il_5, il_6, il_7, il_8, il_9, il_10, il_11, il_12, il_13, il_14, il_15, il_16, il_31] at c1) <;> omega) (fun c1 => by exfalso; (try simp (disch := omega) only [in_lt, in_le, in_eq, in_add, in_mul, in_sb, in_cl, in_bz, in_bo, in_mo, not_true_eq_false, not_false_eq_true, il_0, il_1, il_2, il_3, il_4, il_5, il_6, il_7, il_8, il_9, il_10, il_11, il_12, il_13, il_14, il_15, il_16, il_31] at c1) <;> omega)
      have q1 : pq M (px_aI M1 85 (fa_fill (fun _ => 0) (M1.1 85) 16)) := by
        subst hM1
        refine ⟨fun a h1 h2 h3 => ?_, rfl, fun i h1 h2 => ?_⟩
        · simp (disch := omega) only [me_II, me_Ii, me_Io, me_I2, me_L1, me_Li, me_LL, me_Lo, me_As, me_Ao, me_A2, me_Bs, me_Bo, me_B1]
        · simp (disch := omega) only [me_II, me_Ii, me_Io, me_I2, me_L1, me_Li, me_LL, me_Lo, me_As, me_Ao, me_A2, me_Bs, me_Bo, me_B1]
      have hP : pl_M pl_n (px_aI M1 85 (fa_fill (fun _ => 0) (M1.1 85) 16)) := by
        subst hM1
        refine ⟨?_, ?_, fun p hp => ?_, fun i hi => absurd hi (Nat.not_lt_zero i)⟩
        · simp (disch := omega) only [me_II, me_Ii, me_Io, me_I2, me_L1, me_Li, me_LL, me_Lo, me_As, me_Ao, me_A2, me_Bs, me_Bo, me_B1]; decide
        · simp (disch := omega) only [me_II, me_Ii, me_Io, me_I2, me_L1, me_Li, me_LL, me_Lo, me_As, me_Ao, me_A2, me_Bs, me_Bo, me_B1]; rfl
        · simp (disch := omega) only [me_II, me_Ii, me_Io, me_I2, me_L1, me_Li, me_LL, me_Lo, me_As, me_Ao, me_A2, me_Bs, me_Bo, me_B1]
          rw [fa_fill_in hp]
          rfl
      refine sr_268 (q := 1) (k := 1) hP (by omega) (by show (0 : Nat) ≤ 15; omega) (by omega) (fun M2 k2 hP2 => sg_270_37 (sg_269_0 ?_))
      have hA2 := rt_at_p hA (pq_tr q1 k2)
      have hP3 : pl_M (pl_go s 0) M2 := hP2
      exact sr_269l hA2 hW hT ht hP3 (pl_I_go (s := s) hW.1.2.2.2.1 0).1.2.2.1 (sg_270_42 (sr_270l hW hT ht h 14 0 M2 rfl (fun j hj => absurd hj (Nat.not_lt_zero j)) (pq_tr q1 k2) hA2 hP3)) 14 2 rfl (by omega) rfl
    · refine sg_270_12 (fun c1 => by exfalso; (try simp (disch := omega) only [in_lt, in_le, in_eq, in_add, in_mul, in_sb, in_cl, in_bz, in_bo, in_mo, not_true_eq_false, not_false_eq_true, il_0, il_1, il_2, il_3, il_4, il_5, il_6, il_7, il_8, il_9, il_10, il_11, il_12, il_13, il_14, il_15, il_16, il_31] at c1) <;> omega) (fun c1 => by (try simp (disch := omega) only [in_lt, in_le, in_eq, in_add, in_mul, in_sb, in_cl, in_bz, in_bo, in_mo, not_true_eq_false, not_false_eq_true, il_0, il_1, il_2, il_3, il_4, il_5, il_6, il_7, il_8, il_9, il_10, il_11, il_12, il_13, il_14, il_15, il_16, il_31] at c1 ⊢) <;> exact me_vin (by omega) (by omega)) (fun c1 => ?_)
      rw [in_cl (by omega), in_a1, me_AI, fa_fill_succ (fun _ => 0)]
      exact ih
  have h0 := hl 0 (Nat.zero_le _)
  rw [fa_fill_0, me_Aid] at h0
  exact h0
theorem sr_272 {t : Nat} (hA : rt_at s t M) (hW : ws_W s) (hT : ws_T s) (ht : t ≤ 72) (h : ∀ M', pq M M' → Q (some (.int (nI (2 * pl_lo s)))) M') : px_T 0 272 0 [some (.ref 56), some (.int (nI t))] [] M Q := by
  refine sg_272_0 (sr_270 hA hW hT ht (fun M1 k1 hP => ?_))
  refine sg_272_5 (me_vin (by omega) (by omega)) ?_
  rw [in_cl (by omega), (rt_at_p hA k1).1.1, hP.1, pl_lost hW]
  exact h M1 k1
theorem sr_271 (R : ir y M) {x : Int32} (h1 : ∀ M' t, rq M M' → rl y M' → ra y M' → pl_M (pl_of (iv_rn y t)) M' → x = nI t → t ≤ iv_n y → tk y x = true → Q (some (.int 1)) M') (h2 : ∀ M', rq M M' → tk y x = false → Q (some (.int 0)) M') : px_T 0 271 0 [some (.ref 56), some (.int x)] [] M Q := by
  have hn := iv_yn R.1
  refine sg_271_0 (sr_225 R (fun M1 t q1 L1 A1 ht t1 g => sg_271_5 (fun c => absurd c (by decide)) (fun _ => ?_)) (fun M1 q1 g => sg_271_5 (fun _ => h2 M1 q1 g) (fun c => absurd rfl c)))
  subst ht
  refine sr_270 (s := iv_rn y t) (A1.1 t t1) (iv_rnW R.1 t1) (iv_rnT R.1 t1) (by omega) (fun M2 k2 hP => sg_271_15 (h1 M2 t (rq_tr q1 (rq_p k2)) ?_ ?_ hP rfl t1 g))
  · obtain ⟨l1, l2, l3⟩ := L1
    refine ⟨?_, ?_, ?_⟩
    · rw [k2.2.2 20 (by omega) (by omega)]; exact l1
    · rw [k2.2.2 21 (by omega) (by omega)]; exact l2
    · rw [k2.1 63 (by omega) (by omega) (by omega), k2.1 64 (by omega) (by omega) (by omega), k2.1 65 (by omega) (by omega) (by omega), k2.1 66 (by omega) (by omega) (by omega), k2.1 67 (by omega) (by omega) (by omega)]; exact l3
  · refine ⟨fun u hu => rt_at_p (A1.1 u hu) k2, fun e he => re_at_fr (A1.2.1 e he) (fun a h1 h2 => by rw [k2.1 a (by omega) (by omega) (by omega)]), fun x hx => ?_⟩
    rw [k2.1 71 (by omega) (by omega) (by omega)]
    exact A1.2.2 x hx
theorem sr_273 (R : ir y M) {x1 x2 : Int32} (h : ∀ M', rq M M' → Q (some (.int (an_116 y x1 x2))) M') : px_T 0 273 0 [some (.ref 56), some (.int x1), some (.int x2)] [] M Q := by
  unfold an_116 at h
  have hn := iv_yn R.1
  refine sg_273_0 (sr_271 R (fun M1 t q1 L1 A1 hP ht t1 g => sg_273_5 (fun c => absurd c (by decide)) (fun _ => sr_184 ?_)) (fun M1 q1 g => sg_273_5 (fun _ => ?_) (fun c => absurd rfl c)))
  · have h9 := h M1 q1
    rw [g, Bool.true_and] at h9
    refine sg_273_13 (fun d => ?_) (fun d => ?_)
    · rw [in_b0] at d
      rw [d, if_neg (by decide)] at h9
      exact h9
    · rw [in_b0, Bool.not_eq_false] at d
      rw [d, if_pos rfl] at h9
      obtain ⟨p, rfl, p1, p2⟩ := rg_of d (by omega) (by omega)
      subst ht
      rw [in_cl (by omega), in_cl (by omega)] at h9
      have hA : rt_at (iv_rn y t) t M1 := A1.1 t t1
      have hW := iv_rnW R.1 t1
      generalize iv_rn y t = s at h9 hA hW hP
      refine sr_227 hA hW.1.1 (by omega) (by omega) ?_
      unfold vl_116 at h9
      refine sg_273_25 (fun c1 => ?_) (fun c1 => by (try simp (disch := omega) only [in_lt, in_le, in_eq, in_add, in_mul, in_sb, in_cl, in_bz, in_bo, in_mo, not_true_eq_false, not_false_eq_true, il_0, il_1, il_2, il_3, il_4, il_5, il_6, il_7, il_8, il_9, il_10, il_11, il_12, il_13, il_14, il_15, il_16, il_31] at c1 ⊢) <;> exact me_vin (by omega) (by omega)) (fun c1 => ?_)
      · rw [in_b0] at c1
        rw [c1] at h9
        exact h9
      · rw [in_b0, Bool.not_eq_false] at c1
        rw [if_pos c1] at h9
        rw [in_cl (by omega), hP.2.2.1 p (by omega)]
        exact h9
  · have h9 := h M1 q1
    rw [g, Bool.false_and, if_neg (by decide)] at h9
    exact h9
theorem sr_274 (R : ir y M) {x1 : Int32} (h : ∀ M', rq M M' → Q (some (.int (an_117 y x1))) M') : px_T 0 274 0 [some (.ref 56), some (.int x1)] [] M Q := by
  refine sg_274_0 (sr_225 R (fun M1 t q1 L1 A1 ht t1 g => ?_) (fun M1 q1 g => sg_274_5 (fun c1 => by have h9 := h M1 q1; rw [(show an_117 y x1 = -2 from by (unfold an_117; simp only [g, Bool.and_false, Bool.false_and, Bool.false_eq_true, if_false]))] at h9; exact h9) (fun c1 => absurd rfl c1)))
  subst ht
  have hn := iv_yn R.1
  have ev : an_117 y (nI t) = vl_117 (iv_rn y t) := by unfold an_117; simp (disch := omega) only [g, in_cl, if_true]
  rw [ev] at h
  have hA : rt_at (iv_rn y t) t M1 := A1.1 t t1
  have hW := iv_rnW R.1 t1
  have hT := iv_rnT R.1 t1
  have hm := iv_rnm R.1 t1
  have ha := hW.1.1
  generalize iv_rn y t = s at h hA hW hT hm ha
  refine sg_274_5 (fun c1 => absurd c1 (by decide)) (fun c1 => ?_)
  refine sr_272 hA hW hT (by omega) (fun M2 k2 => sg_274_13 ?_)
  have hl : pl_lo s < 2 ^ 15 := pl_L_lt _ _
  rw [show ((1 : Int32) &&& 31) = (nI 1 &&& 31) from rfl, in_shr (by omega) (by omega), Nat.pow_one, Nat.mul_div_cancel_left _ (by omega)]
  exact h M2 (rq_tr q1 (rq_p k2))
theorem sr_275 (R : ir y M) {x1 : Int32} (h : ∀ M', rq M M' → Q (some (.int (an_118 y x1))) M') : px_T 0 275 0 [some (.ref 56), some (.int x1), none, none] [] M Q := by
  unfold an_118 at h
  have hn := iv_yn R.1
  refine sg_275_0 (sr_271 R (fun M1 t q1 L1 A1 hP ht t1 g => sg_275_5 (fun c => absurd c (by decide)) (fun _ => ?_)) (fun M1 q1 g => sg_275_5 (fun _ => ?_) (fun c => absurd rfl c)))
  · subst ht
    have h9 := h M1 q1
    rw [g, if_pos rfl, in_cl (by omega)] at h9
    have hW := iv_rnW R.1 t1
    generalize iv_rn y t = s at h9 hW hP
    have hI := pl_of_I hW
    generalize hr : pl_of s = r at hP hI
    unfold vl_118 pl_sp at h9
    rw [hr] at h9
    have hz : r.2.2 ≤ 16 := by rw [← hI.2.1.1]; exact fb_ct_le _ _
    have h1 := hI.2.1.2
    have f := hP.2.1
    have hl : ∀ i, i ≤ r.2.2 - 1 → px_T 0 275 15 [some (.ref 56), some (.int (nI t)), some (.int (nI (sm (fun i => pl_g (r.1 (r.2.1 (i + 1)))) i))), some (.int (nI (i + 1)))] [] M1 Q := by
      refine lp_dn ?_ (fun i hi ih => ?_)
      · refine sg_275_15 (fun c1 => ?_) (fun c1 => by exfalso; (try simp (disch := omega) only [in_lt, in_le, in_eq, in_add, in_mul, in_sb, in_cl, in_bz, in_bo, in_mo, not_true_eq_false, not_false_eq_true, il_0, il_1, il_2, il_3, il_4, il_5, il_6, il_7, il_8, il_9, il_10, il_11, il_12, il_13, il_14, il_15, il_16, il_31, f] at c1) <;> omega) (fun c1 => by exfalso; (try simp (disch := omega) only [in_lt, in_le, in_eq, in_add, in_mul, in_sb, in_cl, in_bz, in_bo, in_mo, not_true_eq_false, not_false_eq_true, il_0, il_1, il_2, il_3, il_4, il_5, il_6, il_7, il_8, il_9, il_10, il_11, il_12, il_13, il_14, il_15, il_16, il_31, f] at c1) <;> omega) (fun c1 c2 => by exfalso; (try simp (disch := omega) only [in_lt, in_le, in_eq, in_add, in_mul, in_sb, in_cl, in_bz, in_bo, in_mo, not_true_eq_false, not_false_eq_true, il_0, il_1, il_2, il_3, il_4, il_5, il_6, il_7, il_8, il_9, il_10, il_11, il_12, il_13, il_14, il_15, il_16, il_31, f] at c1 c2) <;> omega) (fun c1 c2 c3 => by exfalso; (try simp (disch := omega) only [in_lt, in_le, in_eq, in_add, in_mul, in_sb, in_cl, in_bz, in_bo, in_mo, not_true_eq_false, not_false_eq_true, il_0, il_1, il_2, il_3, il_4, il_5, il_6, il_7, il_8, il_9, il_10, il_11, il_12, il_13, il_14, il_15, il_16, il_31, f] at c1 c2 c3) <;> omega) (fun c1 c2 c3 => by exfalso; (try simp (disch := omega) only [in_lt, in_le, in_eq, in_add, in_mul, in_sb, in_cl, in_bz, in_bo, in_mo, not_true_eq_false, not_false_eq_true, il_0, il_1, il_2, il_3, il_4, il_5, il_6, il_7, il_8, il_9, il_10, il_11, il_12, il_13, il_14, il_15, il_16, il_31, f] at c1 c2 c3) <;> omega)
        exact h9
      · have f2 := hP.2.2.2 (i + 1) (by omega)
        have b2 := (hI.2.2.1 (i + 1) (by omega)).2.1
        have f3 := hP.2.2.1 (r.2.1 (i + 1)) (by omega)
        have b3 := hI.1.2.2.1 (r.2.1 (i + 1))
        have e1 : sm (fun i => pl_g (r.1 (r.2.1 (i + 1)))) (i + 1) = sm (fun i => pl_g (r.1 (r.2.1 (i + 1)))) i + pl_g (r.1 (r.2.1 (i + 1))) := rfl
        rw [e1] at ih
        unfold pl_g at ih
        refine sg_275_15 (fun c1 => by exfalso; (try simp (disch := omega) only [in_lt, in_le, in_eq, in_add, in_mul, in_sb, in_cl, in_bz, in_bo, in_mo, not_true_eq_false, not_false_eq_true, il_0, il_1, il_2, il_3, il_4, il_5, il_6, il_7, il_8, il_9, il_10, il_11, il_12, il_13, il_14, il_15, il_16, il_31, f, f2, f3] at c1) <;> omega) (fun c1 => by (try simp (disch := omega) only [in_lt, in_le, in_eq, in_add, in_mul, in_sb, in_cl, in_bz, in_bo, in_mo, not_true_eq_false, not_false_eq_true, il_0, il_1, il_2, il_3, il_4, il_5, il_6, il_7, il_8, il_9, il_10, il_11, il_12, il_13, il_14, il_15, il_16, il_31, f, f2, f3] at c1 ⊢) <;> exact me_vin (by omega) (by omega)) (fun c1 => by (try simp (disch := omega) only [in_lt, in_le, in_eq, in_add, in_mul, in_sb, in_cl, in_bz, in_bo, in_mo, not_true_eq_false, not_false_eq_true, il_0, il_1, il_2, il_3, il_4, il_5, il_6, il_7, il_8, il_9, il_10, il_11, il_12, il_13, il_14, il_15, il_16, il_31, f, f2, f3] at c1 ⊢) <;> exact me_vin (by omega) (by omega)) (fun c1 c2 => ?_) (fun c1 c2 c3 => ?_) (fun c1 c2 c3 => ?_)
        · simp (disch := omega) only [in_lt, in_le, in_eq, in_add, in_mul, in_sb, in_cl, in_bz, in_bo, in_mo, not_true_eq_false, not_false_eq_true, il_0, il_1, il_2, il_3, il_4, il_5, il_6, il_7, il_8, il_9, il_10, il_11, il_12, il_13, il_14, il_15, il_16, il_31, f2, f3] at c2
          rw [if_pos c2] at ih
          rw [il_2, in_add, in_a1]
          exact ih
        · simp (disch := omega) only [in_lt, in_le, in_eq, in_add, in_mul, in_sb, in_cl, in_bz, in_bo, in_mo, not_true_eq_false, not_false_eq_true, il_0, il_1, il_2, il_3, il_4, il_5, il_6, il_7, il_8, il_9, il_10, il_11, il_12, il_13, il_14, il_15, il_16, il_31, f2, f3] at c2 c3
          rw [if_neg c2, if_pos c3] at ih
          rw [il_3, in_add, in_a1]
          exact ih
        · simp (disch := omega) only [in_lt, in_le, in_eq, in_add, in_mul, in_sb, in_cl, in_bz, in_bo, in_mo, not_true_eq_false, not_false_eq_true, il_0, il_1, il_2, il_3, il_4, il_5, il_6, il_7, il_8, il_9, il_10, il_11, il_12, il_13, il_14, il_15, il_16, il_31, f2, f3] at c2 c3
          rw [if_neg c2, if_neg c3] at ih
          rw [in_a1, in_a1]
          exact ih
    exact hl 0 (by omega)
  · have h9 := h M1 q1
    rw [g, if_neg (by decide)] at h9
    exact h9
theorem sr_276 (R : ir y M) {x1 x2 : Int32} (h : ∀ M', rq M M' → Q (some (.int (an_119 y x1 x2))) M') : px_T 0 276 0 [some (.ref 56), some (.int x1), some (.int x2)] [] M Q := by
  unfold an_119 at h
  have hn := iv_yn R.1
  refine sg_276_0 (sr_271 R (fun M1 t q1 L1 A1 hP ht t1 g => ?_) (fun M1 q1 g => sg_276_5 (fun _ => ?_) (fun c => absurd rfl c) (fun c => absurd rfl c) (fun c => absurd rfl c) (fun c => absurd rfl c)))
  · subst ht
    have h9 := h M1 q1
    rw [g, Bool.true_and] at h9
    have hW := iv_rnW R.1 t1
    rw [in_cl (by omega)] at h9
    generalize iv_rn y t = s at h9 hW hP
    have hI := pl_of_I hW
    have hz : (pl_of s).2.2 ≤ 16 := by rw [← hI.2.1.1]; exact fb_ct_le _ _
    have f := hP.2.1
    rcases in_cases x1 with hx | ⟨i, hi, rfl⟩
    · have hx2 := hx
      rw [fa_lt, Int32.toInt_zero] at hx2
      rw [rg_f (Or.inl hx2), if_neg (by decide)] at h9
      have hx3 : ¬ (0 : Int32) ≤ x1 := fun q => by rw [fa_le, Int32.toInt_zero] at q; omega
      exact sg_276_5 (fun c => absurd c (by decide)) (fun _ c => absurd c hx3) (fun _ c => absurd c hx3) (fun _ c => absurd c hx3) (fun _ _ => h9)
    · rw [rg_n hi, decide_eq_true (by omega), if_pos rfl, in_cl hi] at h9
      unfold vl_119 at h9
      refine sg_276_5 (fun c => absurd c (by decide)) (fun _ _ c => ?_) (fun _ _ c => ?_) (fun _ _ c => ?_) (fun _ c => absurd (nI_le (a := 0) (by omega) hi) c)
      · simp (disch := omega) only [in_lt, in_le, in_eq, in_add, in_mul, in_sb, in_cl, in_bz, in_bo, in_mo, not_true_eq_false, not_false_eq_true, il_0, il_1, il_2, il_3, il_4, il_5, il_6, il_7, il_8, il_9, il_10, il_11, il_12, il_13, il_14, il_15, il_16, il_31, f] at c
        rw [if_neg (by omega)] at h9
        exact h9
      · simp (disch := omega) only [in_lt, in_le, in_eq, in_add, in_mul, in_sb, in_cl, in_bz, in_bo, in_mo, not_true_eq_false, not_false_eq_true, il_0, il_1, il_2, il_3, il_4, il_5, il_6, il_7, il_8, il_9, il_10, il_11, il_12, il_13, il_14, il_15, il_16, il_31, f] at c
        exact me_vin (by omega) (by omega)
      · simp (disch := omega) only [in_lt, in_le, in_eq, in_add, in_mul, in_sb, in_cl, in_bz, in_bo, in_mo, not_true_eq_false, not_false_eq_true, il_0, il_1, il_2, il_3, il_4, il_5, il_6, il_7, il_8, il_9, il_10, il_11, il_12, il_13, il_14, il_15, il_16, il_31, f] at c
        rw [if_pos (by omega)] at h9
        rw [in_cl hi, hP.2.2.2 i (by omega)]
        exact h9
  · have h9 := h M1 q1
    rw [g, Bool.false_and, if_neg (by decide)] at h9
    exact h9
theorem sr_277 (R : ir y M) {x1 : Int32} (h : ∀ M', rq M M' → Q (some (.int (an_120 y x1))) M') : px_T 0 277 0 [some (.ref 56), some (.int x1), none, none] [] M Q := by
  unfold an_120 at h
  have hn := iv_yn R.1
  refine sg_277_0 (sr_271 R (fun M1 t q1 L1 A1 hP ht t1 g => sg_277_5 (fun c => absurd c (by decide)) (fun _ => ?_)) (fun M1 q1 g => sg_277_5 (fun _ => ?_) (fun c => absurd rfl c)))
  · subst ht
    have h9 := h M1 q1
    rw [g, if_pos rfl, in_cl (by omega)] at h9
    have hW := iv_rnW R.1 t1
    generalize iv_rn y t = s at h9 hW hP
    have hI := pl_of_I hW
    generalize hr : pl_of s = r at hP hI
    unfold vl_120 at h9
    rw [hr, ← hI.2.2.2.2] at h9
    have hz : r.2.2 ≤ 16 := by rw [← hI.2.1.1]; exact fb_ct_le _ _
    have f := hP.2.1
    have hl : ∀ i, i ≤ r.2.2 → px_T 0 277 15 [some (.ref 56), some (.int (nI t)), some (.int (nI (fb_ct (fun i => decide (r.1 (r.2.1 i) = 4)) i))), some (.int (nI i))] [] M1 Q := by
      refine lp_dn ?_ (fun i hi ih => ?_)
      · refine sg_277_15 (fun c1 => ?_) (fun c1 => by exfalso; (try simp (disch := omega) only [in_lt, in_le, in_eq, in_add, in_mul, in_sb, in_cl, in_bz, in_bo, in_mo, not_true_eq_false, not_false_eq_true, il_0, il_1, il_2, il_3, il_4, il_5, il_6, il_7, il_8, il_9, il_10, il_11, il_12, il_13, il_14, il_15, il_16, il_31, f] at c1) <;> omega) (fun c1 => by exfalso; (try simp (disch := omega) only [in_lt, in_le, in_eq, in_add, in_mul, in_sb, in_cl, in_bz, in_bo, in_mo, not_true_eq_false, not_false_eq_true, il_0, il_1, il_2, il_3, il_4, il_5, il_6, il_7, il_8, il_9, il_10, il_11, il_12, il_13, il_14, il_15, il_16, il_31, f] at c1) <;> omega) (fun c1 c2 => by exfalso; (try simp (disch := omega) only [in_lt, in_le, in_eq, in_add, in_mul, in_sb, in_cl, in_bz, in_bo, in_mo, not_true_eq_false, not_false_eq_true, il_0, il_1, il_2, il_3, il_4, il_5, il_6, il_7, il_8, il_9, il_10, il_11, il_12, il_13, il_14, il_15, il_16, il_31, f] at c1 c2) <;> omega) (fun c1 c2 => by exfalso; (try simp (disch := omega) only [in_lt, in_le, in_eq, in_add, in_mul, in_sb, in_cl, in_bz, in_bo, in_mo, not_true_eq_false, not_false_eq_true, il_0, il_1, il_2, il_3, il_4, il_5, il_6, il_7, il_8, il_9, il_10, il_11, il_12, il_13, il_14, il_15, il_16, il_31, f] at c1 c2) <;> omega)
        exact h9
      · have f2 := hP.2.2.2 i hi
        have b2 := (hI.2.2.1 i hi).2.1
        have f3 := hP.2.2.1 (r.2.1 i) (by omega)
        have b3 := hI.1.2.2.1 (r.2.1 i)
        refine sg_277_15 (fun c1 => by exfalso; (try simp (disch := omega) only [in_lt, in_le, in_eq, in_add, in_mul, in_sb, in_cl, in_bz, in_bo, in_mo, not_true_eq_false, not_false_eq_true, il_0, il_1, il_2, il_3, il_4, il_5, il_6, il_7, il_8, il_9, il_10, il_11, il_12, il_13, il_14, il_15, il_16, il_31, f, f2, f3] at c1) <;> omega) (fun c1 => by (try simp (disch := omega) only [in_lt, in_le, in_eq, in_add, in_mul, in_sb, in_cl, in_bz, in_bo, in_mo, not_true_eq_false, not_false_eq_true, il_0, il_1, il_2, il_3, il_4, il_5, il_6, il_7, il_8, il_9, il_10, il_11, il_12, il_13, il_14, il_15, il_16, il_31, f, f2, f3] at c1 ⊢) <;> exact me_vin (by omega) (by omega)) (fun c1 => by (try simp (disch := omega) only [in_lt, in_le, in_eq, in_add, in_mul, in_sb, in_cl, in_bz, in_bo, in_mo, not_true_eq_false, not_false_eq_true, il_0, il_1, il_2, il_3, il_4, il_5, il_6, il_7, il_8, il_9, il_10, il_11, il_12, il_13, il_14, il_15, il_16, il_31, f, f2, f3] at c1 ⊢) <;> exact me_vin (by omega) (by omega)) (fun c1 c2 => ?_) (fun c1 c2 => ?_)
        · simp (disch := omega) only [in_lt, in_le, in_eq, in_add, in_mul, in_sb, in_cl, in_bz, in_bo, in_mo, not_true_eq_false, not_false_eq_true, il_0, il_1, il_2, il_3, il_4, il_5, il_6, il_7, il_8, il_9, il_10, il_11, il_12, il_13, il_14, il_15, il_16, il_31, f2, f3] at c2
          rw [ct_y (decide_eq_true c2)] at ih
          rw [in_a1, in_a1]
          exact ih
        · simp (disch := omega) only [in_lt, in_le, in_eq, in_add, in_mul, in_sb, in_cl, in_bz, in_bo, in_mo, not_true_eq_false, not_false_eq_true, il_0, il_1, il_2, il_3, il_4, il_5, il_6, il_7, il_8, il_9, il_10, il_11, il_12, il_13, il_14, il_15, il_16, il_31, f2, f3] at c2
          rw [ct_n (decide_eq_false c2)] at ih
          rw [il_0, in_add, in_a1]
          exact ih
    exact hl 0 (by omega)
  · have h9 := h M1 q1
    rw [g, if_neg (by decide)] at h9
    exact h9
theorem pl_lo_0 : pl_lo ws_0 = 0 := by
  have hI := pl_of_I ws_W_0
  apply Nat.eq_of_testBit_eq
  intro i
  rw [Nat.zero_testBit]
  unfold pl_lo pl_L
  rw [bs_bit]
  rcases Nat.eq_zero_or_pos i with h0 | h0
  · subst h0
    rw [show (pl_of ws_0).1 (0 + 1) = 1 from hI.1.2.1]
    simp
  · have h2 : (ws_al ws_0).testBit (i + 1) = false := by
      have h3 : (2 ^ 1 : Nat).testBit (i + 1) = false := by
        rw [Nat.testBit_two_pow]
        exact decide_eq_false (by omega)
      exact h3
    rw [h2]
    simp
theorem sr_278l {M0 : px_Mem} (hy : iv_yok y) (h : ∀ M', rq M0 M' → Q (some (.int (nI (vl_sf (fun t => decide (pl_lo (iv_rn y t) = 0)) (iv_n y + 1))))) M') : ∀ (t : Nat) (N : px_Mem), t ≤ iv_n y → vl_sf (fun t => decide (pl_lo (iv_rn y t) = 0)) (iv_n y + 1) = vl_sf (fun t => decide (pl_lo (iv_rn y t) = 0)) (t + 1) → rq M0 N → (∀ u, u ≤ iv_n y → rt_at (iv_rn y u) u N) → px_T 0 278 15 [some (.ref 56), some (.int (nI t))] [] N Q
  | t, N, ht, he, hq, hA => by
    have hn := iv_yn hy
    refine sg_278_15 (sr_272 (hA t ht) (iv_rnW hy ht) (iv_rnT hy ht) (by omega) (fun M1 k1 => ?_))
    have hl : pl_lo (iv_rn y t) < 2 ^ 15 := pl_L_lt _ _
    have q1 := rq_tr hq (rq_p k1)
    have h9 := h M1 q1
    rw [vl_sf_s _ t] at he
    refine sg_278_20 (fun c => ?_) (fun c => ?_)
    · simp (disch := omega) only [in_lt, in_le, in_eq, in_add, in_mul, in_sb, in_cl, in_bz, in_bo, in_mo, not_true_eq_false, not_false_eq_true, il_0, il_1, il_2, il_3, il_4, il_5, il_6, il_7, il_8, il_9, il_10, il_11, il_12, il_13, il_14, il_15, il_16, il_31] at c
      rw [decide_eq_true (show pl_lo (iv_rn y t) = 0 by omega), if_pos rfl] at he
      rw [show vl_sf (fun t => decide (pl_lo (iv_rn y t) = 0)) (iv_n y + 1) = t from he] at h9
      exact h9
    · simp (disch := omega) only [in_lt, in_le, in_eq, in_add, in_mul, in_sb, in_cl, in_bz, in_bo, in_mo, not_true_eq_false, not_false_eq_true, il_0, il_1, il_2, il_3, il_4, il_5, il_6, il_7, il_8, il_9, il_10, il_11, il_12, il_13, il_14, il_15, il_16, il_31] at c
      cases t with
      | zero =>
        have h0 : pl_lo (iv_rn y 0) = 0 := pl_lo_0
        rw [h0] at c
        exact absurd rfl c
      | succ t =>
        rw [decide_eq_false (show ¬ pl_lo (iv_rn y (t + 1)) = 0 by omega), if_neg (by decide)] at he
        refine sg_278_23 ?_
        rw [in_dec]
        exact sr_278l hy h t M1 (by omega) he q1 (fun u hu => rt_at_p (hA u hu) k1)
theorem sr_278 (R : ir y M) (h : ∀ M', rq M M' → Q (some (.int (an_121 y))) M') : px_T 0 278 0 [some (.ref 56), none] [] M Q := by
  unfold an_121 at h
  refine sg_278_0 (sr_224 R (fun M1 q1 L1 A1 => ?_))
  refine sg_278_4 (fun c => ?_) (fun c => ?_)
  · rw [in_b0] at c
    rw [if_neg (of_decide_eq_false c)] at h
    exact h M1 q1
  · rw [in_b0, Bool.not_eq_false] at c
    rw [if_pos (of_decide_eq_true c)] at h
    rw [L1.1]
    exact sr_278l R.1 (M0 := M) h (iv_n y) M1 (Nat.le_refl _) rfl q1 A1.1
end P50
