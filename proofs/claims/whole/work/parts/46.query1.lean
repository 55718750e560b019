/-! questions about processes: the class -/
section Q46
variable {M : px_Mem} {Q : px_Po} {y : iv_Y}
theorem sc_93 (C : ic y M) {x1 : Int32} (h : ∀ M', cq y M M' → Q (some (.int (an_93 y x1))) M') : px_T 0 93 0 [some (.ref 0), some (.int x1)] [] M Q := by
  refine sg_93_0 (sc_152 C (fun t ht t1 g1 => ?_) (fun g1 => sg_93_5 (fun c1 => absurd c1 (by decide)) (fun c1 => by have h9 := h _ (cq_rf C); rw [(show an_93 y x1 = -2 from by (unfold an_93; simp only [g1, Bool.and_false, Bool.false_and, Bool.false_eq_true, if_false]))] at h9; exact h9)))
  refine sg_93_5 (fun c1 => ?_) (fun c1 => absurd rfl c1)
  subst ht
  have hn := ic_n C
  have ev : an_93 y (nI t) = vl_93 (iv_rn y t) := by unfold an_93; simp (disch := omega) only [g1, in_cl, Bool.and_true, if_true]
  rw [ev] at h
  refine sc_11 C t1 (fun M1 q1 hF => ?_)
  have hC := hF.2.1
  have hW := iv_rnW C.1 t1
  have hT := iv_rnT C.1 t1
  have hm := iv_rnm C.1 t1
  generalize iv_rn y t = s at h hC hW hT hm
  refine sg_93_21 (Or.inl rfl) ?_
  rw [hC.1.1]
  exact h M1 q1
theorem sc_94 (C : ic y M) {x1 x2 : Int32} (h : ∀ M', cq y M M' → Q (some (.int (an_94 y x1 x2))) M') : px_T 0 94 0 [some (.ref 0), some (.int x1), some (.int x2)] [] M Q := by
  refine sg_94_0 (sc_153 (fun p hp p1 p2 g1 => ?_) (fun g1 => sg_94_4 (fun c1 => absurd c1 (by decide)) (fun c1 => by have h9 := h _ (cq_rf C); rw [(show an_94 y x1 x2 = -2 from by (unfold an_94; simp only [g1, Bool.and_false, Bool.false_and, Bool.false_eq_true, if_false]))] at h9; exact h9)))
  refine sg_94_4 (fun c1 => sc_152 C (fun t ht t1 g2 => ?_) (fun g2 => sg_94_12 (fun c1 => absurd c1 (by decide)) (fun c1 => by have h9 := h _ (cq_rf C); rw [(show an_94 y x1 x2 = -2 from by (unfold an_94; simp only [g2, Bool.and_false, Bool.false_and, Bool.false_eq_true, if_false]))] at h9; exact h9))) (fun c1 => absurd rfl c1)
  refine sg_94_12 (fun c1 => ?_) (fun c1 => absurd rfl c1)
  subst hp ht
  have hn := ic_n C
  have ev : an_94 y (nI p) (nI t) = vl_94 (iv_rn y t) p := by unfold an_94; simp (disch := omega) only [g1, g2, in_cl, Bool.and_true, if_true]
  rw [ev] at h
  refine sc_11 C t1 (fun M1 q1 hF => ?_)
  have hC := hF.2.1
  have hW := iv_rnW C.1 t1
  have hT := iv_rnT C.1 t1
  have hm := iv_rnm C.1 t1
  generalize iv_rn y t = s at h hC hW hT hm
  exact sg_94_26 (Or.inl rfl) (sw_64 (Or.inl rfl) hC hW p1 p2 (sg_94_30 (h M1 q1)))
theorem sc_95 (C : ic y M) {x1 x2 : Int32} (h : ∀ M', cq y M M' → Q (some (.int (an_95 y x1 x2))) M') : px_T 0 95 0 [some (.ref 0), some (.int x1), some (.int x2), none] [] M Q := by
  refine sg_95_0 (sc_153 (fun p hp p1 p2 g1 => ?_) (fun g1 => sg_95_4 (fun c1 => absurd c1 (by decide)) (fun c1 => by have h9 := h _ (cq_rf C); rw [(show an_95 y x1 x2 = -2 from by (unfold an_95; simp only [g1, Bool.and_false, Bool.false_and, Bool.false_eq_true, if_false]))] at h9; exact h9)))
  refine sg_95_4 (fun c1 => sc_152 C (fun t ht t1 g2 => ?_) (fun g2 => sg_95_12 (fun c1 => absurd c1 (by decide)) (fun c1 => by have h9 := h _ (cq_rf C); rw [(show an_95 y x1 x2 = -2 from by (unfold an_95; simp only [g2, Bool.and_false, Bool.false_and, Bool.false_eq_true, if_false]))] at h9; exact h9))) (fun c1 => absurd rfl c1)
  refine sg_95_12 (fun c1 => ?_) (fun c1 => absurd rfl c1)
  subst hp ht
  have hn := ic_n C
  have ev : an_95 y (nI p) (nI t) = vl_95 (iv_rn y t) p := by unfold an_95; simp (disch := omega) only [g1, g2, in_cl, Bool.and_true, if_true]
  rw [ev] at h
  refine sc_11 C t1 (fun M1 q1 hF => ?_)
  have hC := hF.2.1
  have hW := iv_rnW C.1 t1
  have hT := iv_rnT C.1 t1
  have hm := iv_rnm C.1 t1
  generalize iv_rn y t = s at h hC hW hT hm
  refine sg_95_26 (Or.inl rfl) (sw_63 (Or.inl rfl) hC hW p1 p2 ?_)
  have h2 := h M1 q1
  unfold vl_95 vl_se at h2
  refine sg_95_32 (Or.inl rfl) (fun c1 => ?_) (fun c1 => by (try simp (disch := omega) only [in_lt, in_le, in_eq, in_add, in_mul, in_sb, in_cl, in_bz, in_bo, in_mo, not_true_eq_false, not_false_eq_true, il_0, il_1, il_2, il_3, il_4, il_5, il_6, il_7, il_8, il_9, il_10, il_11, il_12, il_13, il_14, il_15, il_16, il_31] at c1 ⊢) <;> exact me_vin (by omega) (by omega)) (fun c1 => ?_)
  · rw [in_b0] at c1
    rw [c1] at h2
    exact h2
  · rw [in_b0, Bool.not_eq_false] at c1
    rw [if_pos c1] at h2
    rw [in_cl (by omega), hC.2.2.1 p (by omega)]
    exact h2
theorem sc_96 (C : ic y M) {x1 x2 : Int32} (h : ∀ M', cq y M M' → Q (some (.int (an_96 y x1 x2))) M') : px_T 0 96 0 [some (.ref 0), some (.int x1), some (.int x2), none, none, none] [] M Q := by
  refine sg_96_0 (sc_153 (fun p hp p1 p2 g1 => ?_) (fun g1 => sg_96_4 (fun c1 => absurd c1 (by decide)) (fun c1 => by have h9 := h _ (cq_rf C); rw [(show an_96 y x1 x2 = -2 from by (unfold an_96; simp only [g1, Bool.and_false, Bool.false_and, Bool.false_eq_true, if_false]))] at h9; exact h9)))
  refine sg_96_4 (fun c1 => sc_152 C (fun t ht t1 g2 => ?_) (fun g2 => sg_96_12 (fun c1 => absurd c1 (by decide)) (fun c1 => by have h9 := h _ (cq_rf C); rw [(show an_96 y x1 x2 = -2 from by (unfold an_96; simp only [g2, Bool.and_false, Bool.false_and, Bool.false_eq_true, if_false]))] at h9; exact h9))) (fun c1 => absurd rfl c1)
  refine sg_96_12 (fun c1 => ?_) (fun c1 => absurd rfl c1)
  subst hp ht
  have hn := ic_n C
  have ev : an_96 y (nI p) (nI t) = vl_96 (iv_rn y t) p := by unfold an_96; simp (disch := omega) only [g1, g2, in_cl, Bool.and_true, if_true]
  rw [ev] at h
  refine sc_11 C t1 (fun M1 q1 hF => ?_)
  have hC := hF.2.1
  have hW := iv_rnW C.1 t1
  have hT := iv_rnT C.1 t1
  have hm := iv_rnm C.1 t1
  generalize iv_rn y t = s at h hC hW hT hm
  refine sg_96_26 (Or.inl rfl) ?_
  have hl : ∀ i, i ≤ 15 → px_T 0 96 33 [some (.ref 0), some (.int (nI p)), some (.int (nI t)), some (.ref 29), some (.int (nI (bs (fun i => decide (vl_pa s (i + 1) = nI p)) i))), some (.int (nI (i + 1)))] [] M1 Q := by
    refine lp_dn ?_ (fun i hi ih => ?_)
    · refine sg_96_33 (Or.inl rfl) (fun c1 => ?_) (fun c1 => by exfalso; (try simp (disch := omega) only [in_lt, in_le, in_eq, in_add, in_mul, in_sb, in_cl, in_bz, in_bo, in_mo, not_true_eq_false, not_false_eq_true, il_0, il_1, il_2, il_3, il_4, il_5, il_6, il_7, il_8, il_9, il_10, il_11, il_12, il_13, il_14, il_15, il_16, il_31] at c1) <;> omega)
      exact h M1 q1
    · refine sg_96_33 (Or.inl rfl) (fun c1 => by exfalso; (try simp (disch := omega) only [in_lt, in_le, in_eq, in_add, in_mul, in_sb, in_cl, in_bz, in_bo, in_mo, not_true_eq_false, not_false_eq_true, il_0, il_1, il_2, il_3, il_4, il_5, il_6, il_7, il_8, il_9, il_10, il_11, il_12, il_13, il_14, il_15, il_16, il_31] at c1) <;> omega) (fun c1 => ?_)
      refine sw_64 (Or.inl rfl) hC hW (by omega) (by omega) ?_
      refine sg_96_46 (Or.inl rfl) (fun c => ?_) (fun c => ?_)
      · refine sp_161 (by omega) (by omega) (sg_96_57 (Or.inl rfl) ?_)
        rw [bs_y (decide_eq_true c)] at ih
        rw [in_or, in_a1]
        exact ih
      · rw [bs_n (decide_eq_false c)] at ih
        rw [in_a1]
        exact ih
  exact hl 0 (by omega)
theorem sc_97 (C : ic y M) {x1 x2 : Int32} (h : ∀ M', cq y M M' → Q (some (.int (an_97 y x1 x2))) M') : px_T 0 97 0 [some (.ref 0), some (.int x1), some (.int x2)] [] M Q := by
  refine sg_97_0 (sc_153 (fun p hp p1 p2 g1 => ?_) (fun g1 => sg_97_4 (fun c1 => absurd c1 (by decide)) (fun c1 => by have h9 := h _ (cq_rf C); rw [(show an_97 y x1 x2 = -2 from by (unfold an_97; simp only [g1, Bool.and_false, Bool.false_and, Bool.false_eq_true, if_false]))] at h9; exact h9)))
  refine sg_97_4 (fun c1 => sc_152 C (fun t ht t1 g2 => ?_) (fun g2 => sg_97_12 (fun c1 => absurd c1 (by decide)) (fun c1 => by have h9 := h _ (cq_rf C); rw [(show an_97 y x1 x2 = -2 from by (unfold an_97; simp only [g2, Bool.and_false, Bool.false_and, Bool.false_eq_true, if_false]))] at h9; exact h9))) (fun c1 => absurd rfl c1)
  refine sg_97_12 (fun c1 => ?_) (fun c1 => absurd rfl c1)
  subst hp ht
  have hn := ic_n C
  have ev : an_97 y (nI p) (nI t) = vl_97 (iv_rn y t) p := by unfold an_97; simp (disch := omega) only [g1, g2, in_cl, Bool.and_true, if_true]
  rw [ev] at h
  refine sc_11 C t1 (fun M1 q1 hF => ?_)
  have hC := hF.2.1
  have hW := iv_rnW C.1 t1
  have hT := iv_rnT C.1 t1
  have hm := iv_rnm C.1 t1
  generalize iv_rn y t = s at h hC hW hT hm
  exact sg_97_26 (Or.inl rfl) (sw_67 (Or.inl rfl) hC hW p1 p2 (sg_97_30 (h M1 q1)))
theorem sc_98 (C : ic y M) {x1 x2 : Int32} (h : ∀ M', cq y M M' → Q (some (.int (an_98 y x1 x2))) M') : px_T 0 98 0 [some (.ref 0), some (.int x1), some (.int x2), none] [] M Q := by
  refine sg_98_0 (sc_153 (fun p hp p1 p2 g1 => ?_) (fun g1 => sg_98_4 (fun c1 => absurd c1 (by decide)) (fun c1 => by have h9 := h _ (cq_rf C); rw [(show an_98 y x1 x2 = -2 from by (unfold an_98; simp only [g1, Bool.and_false, Bool.false_and, Bool.false_eq_true, if_false]))] at h9; exact h9)))
  refine sg_98_4 (fun c1 => sc_152 C (fun t ht t1 g2 => ?_) (fun g2 => sg_98_12 (fun c1 => absurd c1 (by decide)) (fun c1 => by have h9 := h _ (cq_rf C); rw [(show an_98 y x1 x2 = -2 from by (unfold an_98; simp only [g2, Bool.and_false, Bool.false_and, Bool.false_eq_true, if_false]))] at h9; exact h9))) (fun c1 => absurd rfl c1)
  refine sg_98_12 (fun c1 => ?_) (fun c1 => absurd rfl c1)
  subst hp ht
  have hn := ic_n C
  have ev : an_98 y (nI p) (nI t) = vl_98 (iv_rn y t) p := by unfold an_98; simp (disch := omega) only [g1, g2, in_cl, Bool.and_true, if_true]
  rw [ev] at h
  refine sc_11 C t1 (fun M1 q1 hF => ?_)
  have hC := hF.2.1
  have hW := iv_rnW C.1 t1
  have hT := iv_rnT C.1 t1
  have hm := iv_rnm C.1 t1
  generalize iv_rn y t = s at h hC hW hT hm
  refine sg_98_26 (Or.inl rfl) (sw_63 (Or.inl rfl) hC hW p1 p2 ?_)
  have h2 := h M1 q1
  unfold vl_98 at h2
  refine sg_98_32 (Or.inl rfl) (fun c => ?_) (fun c => ?_)
  · rw [in_b0] at c
    rw [c] at h2
    exact h2
  · rw [in_b0, Bool.not_eq_false] at c
    rw [if_pos c] at h2
    exact sw_65 (Or.inl rfl) hC hW (by omega) (sg_98_40 h2)
theorem vl_se_eq {s : ws_S} {p q : Nat} (hW : ws_W s) (hq : q < 2 ^ 31) : vl_se s p = nI q ↔ ((ws_al s).testBit p = true ∧ ws_se s p = q) := by
  have h1 := hW.2.2.1 p
  unfold vl_se
  cases hb : (ws_al s).testBit p with
  | true => rw [if_pos rfl, in_eq (by omega) hq]; simp
  | false =>
    rw [if_neg (by decide)]
    constructor
    · intro e
      exact ((in_mo (a := q) hq).mp e.symm).elim
    · intro e
      exact absurd e.1 (by decide)
theorem sc_99 (C : ic y M) {x1 x2 : Int32} (h : ∀ M', cq y M M' → Q (some (.int (an_99 y x1 x2))) M') : px_T 0 99 0 [some (.ref 0), some (.int x1), some (.int x2), none, none, none] [] M Q := by
  refine sg_99_0 (sc_153 (fun p hp p1 p2 g1 => ?_) (fun g1 => sg_99_4 (fun c1 => absurd c1 (by decide)) (fun c1 => by have h9 := h _ (cq_rf C); rw [(show an_99 y x1 x2 = -2 from by (unfold an_99; simp only [g1, Bool.and_false, Bool.false_and, Bool.false_eq_true, if_false]))] at h9; exact h9)))
  refine sg_99_4 (fun c1 => sc_152 C (fun t ht t1 g2 => ?_) (fun g2 => sg_99_12 (fun c1 => absurd c1 (by decide)) (fun c1 => by have h9 := h _ (cq_rf C); rw [(show an_99 y x1 x2 = -2 from by (unfold an_99; simp only [g2, Bool.and_false, Bool.false_and, Bool.false_eq_true, if_false]))] at h9; exact h9))) (fun c1 => absurd rfl c1)
  refine sg_99_12 (fun c1 => ?_) (fun c1 => absurd rfl c1)
  subst hp ht
  have hn := ic_n C
  have ev : an_99 y (nI p) (nI t) = vl_99 (iv_rn y t) p := by unfold an_99; simp (disch := omega) only [g1, g2, in_cl, Bool.and_true, if_true]
  rw [ev] at h
  refine sc_11 C t1 (fun M1 q1 hF => ?_)
  have hC := hF.2.1
  have hW := iv_rnW C.1 t1
  have hT := iv_rnT C.1 t1
  have hm := iv_rnm C.1 t1
  generalize iv_rn y t = s at h hC hW hT hm
  refine sg_99_26 (Or.inl rfl) ?_
  have hl : ∀ i, i ≤ 15 → px_T 0 99 33 [some (.ref 0), some (.int (nI p)), some (.int (nI t)), some (.ref 29), some (.int (nI (bs (fun i => decide (vl_se s (i + 1) = nI p)) i))), some (.int (nI (i + 1)))] [] M1 Q := by
    refine lp_dn ?_ (fun i hi ih => ?_)
    · refine sg_99_33 (Or.inl rfl) (fun c1 => ?_) (fun c1 => by exfalso; (try simp (disch := omega) only [in_lt, in_le, in_eq, in_add, in_mul, in_sb, in_cl, in_bz, in_bo, in_mo, not_true_eq_false, not_false_eq_true, il_0, il_1, il_2, il_3, il_4, il_5, il_6, il_7, il_8, il_9, il_10, il_11, il_12, il_13, il_14, il_15, il_16, il_31] at c1) <;> omega)
      exact h M1 q1
    · refine sg_99_33 (Or.inl rfl) (fun c1 => by exfalso; (try simp (disch := omega) only [in_lt, in_le, in_eq, in_add, in_mul, in_sb, in_cl, in_bz, in_bo, in_mo, not_true_eq_false, not_false_eq_true, il_0, il_1, il_2, il_3, il_4, il_5, il_6, il_7, il_8, il_9, il_10, il_11, il_12, il_13, il_14, il_15, il_16, il_31] at c1) <;> omega) (fun c1 => ?_)
      refine sw_63 (Or.inl rfl) hC hW (by omega) (by omega) ?_
      have hs := hW.2.2.1 (i + 1)
      have fs := hC.2.2.1 (i + 1) (by omega)
      refine sg_99_46 (Or.inl rfl) (fun c1 => ?_) (fun c1 => by (try simp (disch := omega) only [in_lt, in_le, in_eq, in_add, in_mul, in_sb, in_cl, in_bz, in_bo, in_mo, not_true_eq_false, not_false_eq_true, il_0, il_1, il_2, il_3, il_4, il_5, il_6, il_7, il_8, il_9, il_10, il_11, il_12, il_13, il_14, il_15, il_16, il_31, fs] at c1 ⊢) <;> exact me_vin (by omega) (by omega)) (fun c1 c2 => ?_) (fun c1 c2 => ?_)
      · rw [in_b0] at c1
        rw [bs_n (decide_eq_false (fun q => by rw [vl_se_eq hW (by omega), c1] at q; exact absurd q.1 (by decide)))] at ih
        rw [in_a1]
        exact ih
      · rw [in_b0, Bool.not_eq_false] at c1
        rw [in_cl (by omega), fs, in_eq (by omega) (by omega)] at c2
        refine sp_161 (by omega) (by omega) (sg_99_67 (Or.inl rfl) ?_)
        rw [bs_y (decide_eq_true ((vl_se_eq hW (by omega)).mpr ⟨c1, c2⟩))] at ih
        rw [in_or, in_a1]
        exact ih
      · rw [in_cl (by omega), fs, in_eq (by omega) (by omega)] at c2
        rw [bs_n (decide_eq_false (fun q => by rw [vl_se_eq hW (by omega)] at q; exact c2 q.2))] at ih
        rw [in_a1]
        exact ih
  exact hl 0 (by omega)
/-- the sessions of those alive among the first n -/
def so_of (s : ws_S) : Nat → Nat
  | 0 => 0
  | n + 1 => so_of s n ||| (if (ws_al s).testBit (n + 1) = true then 2 ^ (ws_se s (n + 1) - 1) else 0)
theorem so_lt {s : ws_S} (hW : ws_W s) : ∀ n, so_of s n < 2 ^ 15
  | 0 => (show (0 : Nat) < 2 ^ 15 by omega)
  | n + 1 => by
    refine Nat.or_lt_two_pow (so_lt hW n) ?_
    have := hW.2.2.1 (n + 1)
    split
    · exact Nat.pow_lt_pow_right (by omega) (by omega)
    · decide
theorem so_bit {s : ws_S} (hW : ws_W s) (i : Nat) : ∀ n, (so_of s n).testBit i = true ↔ ∃ k, k < n ∧ (ws_al s).testBit (k + 1) = true ∧ ws_se s (k + 1) = i + 1
  | 0 => by
    show (0 : Nat).testBit i = true ↔ _
    rw [Nat.zero_testBit]
    exact ⟨fun h => absurd h (by decide), fun ⟨k, hk, _⟩ => absurd hk (Nat.not_lt_zero k)⟩
  | n + 1 => by
    have ih := so_bit hW i n
    show (so_of s n ||| (if (ws_al s).testBit (n + 1) = true then 2 ^ (ws_se s (n + 1) - 1) else 0)).testBit i = true ↔ _
    rw [Nat.testBit_or, Bool.or_eq_true, ih]
    constructor
    · rintro (⟨k, h1, h2⟩ | h)
      · exact ⟨k, by omega, h2⟩
      · split at h
        · rename_i ha
          rw [Nat.testBit_two_pow, decide_eq_true_iff] at h
          have := hW.2.2.2.1 (n + 1) (hW.1.2.2.2.2 _ ha)
          exact ⟨n, by omega, ha, by omega⟩
        · rw [Nat.zero_testBit] at h
          exact absurd h (by decide)
    · rintro ⟨k, h1, h2, h3⟩
      by_cases hk : k = n
      · subst hk
        right
        rw [if_pos h2, h3, Nat.add_sub_cancel, Nat.testBit_two_pow_self]
      · exact Or.inl ⟨k, by omega, h2, h3⟩
theorem so_ms {s : ws_S} (hW : ws_W s) : in_pc 15 (so_of s 15) = fb_ct (fun i => decide (ms_of s (i + 1) ≠ 0)) 15 := by
  rw [pc_ct]
  refine fb_ct_cong (fun i hi => ?_)
  have h1 := so_bit hW i 15
  have h2 : ms_of s (i + 1) ≠ 0 ↔ ∃ k, k < 15 ∧ (ws_al s).testBit (k + 1) = true ∧ ws_se s (k + 1) = i + 1 := by
    unfold ms_of
    rw [bs_ne]
    constructor
    · rintro ⟨k, k1, k2⟩
      rw [decide_eq_true_iff, vl_se_eq hW (by omega)] at k2
      exact ⟨k, k1, k2⟩
    · rintro ⟨k, k1, k2⟩
      exact ⟨k, k1, decide_eq_true ((vl_se_eq hW (by omega)).mpr k2)⟩
  rw [← h2] at h1
  cases hb : (so_of s 15).testBit i with
  | true => exact (decide_eq_true (h1.mp hb)).symm
  | false => exact (decide_eq_false (fun q => by rw [h1.mpr q] at hb; exact absurd hb (by decide))).symm
theorem sc_100 (C : ic y M) {x1 : Int32} (h : ∀ M', cq y M M' → Q (some (.int (an_100 y x1))) M') : px_T 0 100 0 [some (.ref 0), some (.int x1), none, none, none] [] M Q := by
  refine sg_100_0 (sc_152 C (fun t ht t1 g1 => ?_) (fun g1 => sg_100_5 (fun c1 => absurd c1 (by decide)) (fun c1 => by have h9 := h _ (cq_rf C); rw [(show an_100 y x1 = -2 from by (unfold an_100; simp only [g1, Bool.and_false, Bool.false_and, Bool.false_eq_true, if_false]))] at h9; exact h9)))
  refine sg_100_5 (fun c1 => ?_) (fun c1 => absurd rfl c1)
  subst ht
  have hn := ic_n C
  have ev : an_100 y (nI t) = vl_100 (iv_rn y t) := by unfold an_100; simp (disch := omega) only [g1, in_cl, Bool.and_true, if_true]
  rw [ev] at h
  refine sc_11 C t1 (fun M1 q1 hF => ?_)
  have hC := hF.2.1
  have hW := iv_rnW C.1 t1
  have hT := iv_rnT C.1 t1
  have hm := iv_rnm C.1 t1
  generalize iv_rn y t = s at h hC hW hT hm
  refine sg_100_19 (Or.inl rfl) ?_
  have hl : ∀ i, i ≤ 15 → px_T 0 100 25 [some (.ref 0), some (.int (nI t)), some (.ref 29), some (.int (nI (so_of s i))), some (.int (nI (i + 1)))] [] M1 Q := by
    refine lp_dn ?_ (fun i hi ih => ?_)
    · refine sg_100_25 (Or.inl rfl) (fun c1 => ?_) (fun c1 => by exfalso; (try simp (disch := omega) only [in_lt, in_le, in_eq, in_add, in_mul, in_sb, in_cl, in_bz, in_bo, in_mo, not_true_eq_false, not_false_eq_true, il_0, il_1, il_2, il_3, il_4, il_5, il_6, il_7, il_8, il_9, il_10, il_11, il_12, il_13, il_14, il_15, il_16, il_31] at c1) <;> omega)
      refine sp_bc (so_lt hW 15) (sg_100_64 ?_)
      rw [so_ms hW]
      exact h M1 q1
    · refine sg_100_25 (Or.inl rfl) (fun c1 => by exfalso; (try simp (disch := omega) only [in_lt, in_le, in_eq, in_add, in_mul, in_sb, in_cl, in_bz, in_bo, in_mo, not_true_eq_false, not_false_eq_true, il_0, il_1, il_2, il_3, il_4, il_5, il_6, il_7, il_8, il_9, il_10, il_11, il_12, il_13, il_14, il_15, il_16, il_31] at c1) <;> omega) (fun c1 => ?_)
      refine sw_63 (Or.inl rfl) hC hW (by omega) (by omega) ?_
      have hs := hW.2.2.1 (i + 1)
      have fs := hC.2.2.1 (i + 1) (by omega)
      have e1 : so_of s (i + 1) = so_of s i ||| (if (ws_al s).testBit (i + 1) = true then 2 ^ (ws_se s (i + 1) - 1) else 0) := rfl
      refine sg_100_38 (Or.inl rfl) (fun c1 => ?_) (fun c1 => by (try simp (disch := omega) only [in_lt, in_le, in_eq, in_add, in_mul, in_sb, in_cl, in_bz, in_bo, in_mo, not_true_eq_false, not_false_eq_true, il_0, il_1, il_2, il_3, il_4, il_5, il_6, il_7, il_8, il_9, il_10, il_11, il_12, il_13, il_14, il_15, il_16, il_31] at c1 ⊢) <;> exact me_vin (by omega) (by omega)) (fun c1 => ?_)
      · rw [in_b0] at c1
        rw [e1, c1, if_neg (by decide), Nat.or_zero] at ih
        rw [in_a1]
        exact ih
      · rw [in_b0, Bool.not_eq_false] at c1
        have hs1 := hW.2.2.2.1 (i + 1) (hW.1.2.2.2.2 _ c1)
        rw [in_cl (by omega), fs]
        refine sp_161 hs1 (by omega) (sg_100_52 (Or.inl rfl) ?_)
        rw [e1, if_pos c1] at ih
        rw [in_or, in_a1]
        exact ih
  exact hl 0 (by omega)
theorem sc_92 (C : ic y M) {x1 : Int32} (h : ∀ M', cq y M M' → Q (some (.int (an_92 y x1))) M') : px_T 0 92 0 [some (.ref 0), some (.int x1)] [] M Q := by
  refine sg_92_0 (sc_152 C (fun t ht t1 g => sg_92_5 (fun _ => ?_) (fun c => absurd rfl c)) (fun g => sg_92_5 (fun c => absurd c (by decide)) (fun _ => ?_)))
  · subst ht
    have hn := ic_n C
    refine sc_13 C t1 (fun M1 q1 => sg_92_21 ?_)
    have h2 := h M1 q1
    unfold an_92 at h2
    rw [g, if_pos rfl, in_cl (by omega)] at h2
    exact h2
  · have h2 := h M (cq_rf C)
    unfold an_92 at h2
    rw [g, if_neg (by decide)] at h2
    exact h2
theorem rg_f {x : Int32} {a b : Int} (h : x.toInt < a ∨ b < x.toInt) : rg x a b = false := decide_eq_false (by omega)
theorem sc_91 (C : ic y M) {x1 : Int32} (h : ∀ M', cq y M M' → Q (some (.int (an_91 y x1))) M') : px_T 0 91 0 [some (.ref 0), some (.int x1)] [] M Q := by
  have hn := ic_n C
  unfold an_91 at h
  refine sg_91_0 (fun c => ?_) (fun c => ?_)
  · rw [fa_lt, Int32.toInt_zero] at c
    have h2 := h M (cq_rf C)
    rw [rg_f (Or.inl c), if_neg (by decide)] at h2
    exact h2
  · obtain ⟨e, he, rfl⟩ := nI_of c
    refine sp_53 (Or.inl rfl) C.2.1 ?_
    rw [rg_n he] at h
    refine sg_91_12 (fun d => ?_) (fun d => ?_)
    · rw [in_lt he (by omega)] at d
      rw [decide_eq_true (by omega), if_pos rfl, in_cl he] at h
      exact sc_12 C d (fun M1 q1 => sg_91_26 (h M1 q1))
    · rw [in_lt he (by omega)] at d
      rw [decide_eq_false (by omega), if_neg (by decide)] at h
      exact h M (cq_rf C)
/-! the reference -/
theorem sr_182 (R : ir y M) {x : Int32} (h : Q (some (.int (in_b (rg x 0 ((iv_n y : Int) - 1))))) M) : px_T 0 182 0 [some (.ref 56), some (.int x)] [] M Q := by
  have hn := iv_yn R.1
  refine sg_182_0 (sr_181 R (sg_182_7 (sr_175 (sg_182_13 (in_b01 _) ?_))))
  have e1 : (nI (iv_n y) - 1).toInt = (iv_n y : Int) - 1 := by
    rcases Nat.eq_zero_or_pos (iv_n y) with h0 | h0
    · rw [h0]
      rfl
    · rw [in_s1 h0, nI_toInt (by omega)]
      omega
  have e : decide ((0 : Int64) ≤ x.toInt64 ∧ x.toInt64 ≤ (nI (iv_n y) - 1).toInt64) = rg x 0 ((iv_n y : Int) - 1) := by
    unfold rg
    refine decide_eq_decide.mpr ?_
    rw [fa_le64, fa_le64, Int32.toInt_toInt64, Int32.toInt_toInt64, e1]
    exact Iff.rfl
  rw [e]
  exact h
theorem sr_231 (R : ir y M) {x1 : Int32} (h : ∀ M', rq M M' → Q (some (.int (an_91 y x1))) M') : px_T 0 231 0 [some (.ref 56), some (.int x1)] [] M Q := by
  have hn := iv_yn R.1
  refine sg_231_0 (sr_224 R (fun M1 q1 L1 A1 => sg_231_4 (sr_182 (ir_rq R q1) ?_)))
  have h2 := h M1 q1
  unfold an_91 at h2
  cases g : rg x1 0 ((iv_n y : Int) - 1) with
  | false =>
    rw [g, if_neg (by decide)] at h2
    exact sg_231_10 (fun _ => h2) (fun c => absurd rfl c) (fun c => absurd rfl c)
  | true =>
    rw [g, if_pos rfl] at h2
    obtain ⟨e, rfl, e1, e2⟩ := rg_of g (by omega) (by omega)
    rw [in_cl (by omega)] at h2
    refine sg_231_10 (fun c => absurd c (by decide)) (fun _ => me_vin (by omega) (by omega)) (fun _ => ?_)
    rw [in_cl (by omega), (A1.2.1 e (by omega)).1]
    exact h2
theorem sr_232 (R : ir y M) {x1 : Int32} (h : ∀ M', rq M M' → Q (some (.int (an_92 y x1))) M') : px_T 0 232 0 [some (.ref 56), some (.int x1), none, none] [] M Q := by
  have hn := iv_yn R.1
  refine sg_232_0 (sr_225 R (fun M1 t q1 L1 A1 ht t1 g => sg_232_5 (fun c => absurd c (by decide)) (fun _ => ?_)) (fun M1 q1 g => sg_232_5 (fun _ => ?_) (fun c => absurd rfl c)))
  · subst ht
    have h2 := h M1 q1
    unfold an_92 at h2
    rw [g, if_pos rfl, in_cl (by omega)] at h2
    have hl : ∀ i, i ≤ t → px_T 0 232 15 [some (.ref 56), some (.int (nI t)), some (.int (nI (fb_ct (fun e => decide (vn_why y e ≠ 0)) i))), some (.int (nI i))] [] M1 Q := by
      refine lp_dn ?_ (fun i hi ih => ?_)
      · refine sg_232_15 (fun c1 => ?_) (fun c1 => by exfalso; (try simp (disch := omega) only [in_lt, in_le, in_eq, in_add, in_mul, in_sb, in_cl, in_bz, in_bo, in_mo, not_true_eq_false, not_false_eq_true, il_0, il_1, il_2, il_3, il_4, il_5, il_6, il_7, il_8, il_9, il_10, il_11, il_12, il_13, il_14, il_15, il_16, il_31] at c1) <;> omega) (fun c1 c2 => by exfalso; (try simp (disch := omega) only [in_lt, in_le, in_eq, in_add, in_mul, in_sb, in_cl, in_bz, in_bo, in_mo, not_true_eq_false, not_false_eq_true, il_0, il_1, il_2, il_3, il_4, il_5, il_6, il_7, il_8, il_9, il_10, il_11, il_12, il_13, il_14, il_15, il_16, il_31] at c1 c2) <;> omega) (fun c1 c2 => by exfalso; (try simp (disch := omega) only [in_lt, in_le, in_eq, in_add, in_mul, in_sb, in_cl, in_bz, in_bo, in_mo, not_true_eq_false, not_false_eq_true, il_0, il_1, il_2, il_3, il_4, il_5, il_6, il_7, il_8, il_9, il_10, il_11, il_12, il_13, il_14, il_15, il_16, il_31] at c1 c2) <;> omega)
        exact h2
      · have f : M1.1 73 i = nI (vn_why y i) := (A1.2.1 i (by omega)).1
        have fl := vn_why_le y i
        refine sg_232_15 (fun c1 => by exfalso; (try simp (disch := omega) only [in_lt, in_le, in_eq, in_add, in_mul, in_sb, in_cl, in_bz, in_bo, in_mo, not_true_eq_false, not_false_eq_true, il_0, il_1, il_2, il_3, il_4, il_5, il_6, il_7, il_8, il_9, il_10, il_11, il_12, il_13, il_14, il_15, il_16, il_31, f] at c1) <;> omega) (fun c1 => by (try simp (disch := omega) only [in_lt, in_le, in_eq, in_add, in_mul, in_sb, in_cl, in_bz, in_bo, in_mo, not_true_eq_false, not_false_eq_true, il_0, il_1, il_2, il_3, il_4, il_5, il_6, il_7, il_8, il_9, il_10, il_11, il_12, il_13, il_14, il_15, il_16, il_31, f] at c1 ⊢) <;> exact me_vin (by omega) (by omega)) (fun c1 c2 => ?_) (fun c1 c2 => ?_)
        · simp (disch := omega) only [in_lt, in_le, in_eq, in_add, in_mul, in_sb, in_cl, in_bz, in_bo, in_mo, not_true_eq_false, not_false_eq_true, il_0, il_1, il_2, il_3, il_4, il_5, il_6, il_7, il_8, il_9, il_10, il_11, il_12, il_13, il_14, il_15, il_16, il_31, f] at c2
          rw [ct_n (decide_eq_false (fun q => q (by omega)))] at ih
          rw [il_0, in_add, in_a1, Nat.add_zero]
          exact ih
        · simp (disch := omega) only [in_lt, in_le, in_eq, in_add, in_mul, in_sb, in_cl, in_bz, in_bo, in_mo, not_true_eq_false, not_false_eq_true, il_0, il_1, il_2, il_3, il_4, il_5, il_6, il_7, il_8, il_9, il_10, il_11, il_12, il_13, il_14, il_15, il_16, il_31, f] at c2
          rw [ct_y (decide_eq_true (by omega))] at ih
          rw [in_a1, in_a1]
          exact ih
    exact hl 0 (by omega)
  · have h2 := h M1 q1
    unfold an_92 at h2
    rw [g, if_neg (by decide)] at h2
    exact h2
theorem sr_233 (R : ir y M) {x1 : Int32} (h : ∀ M', rq M M' → Q (some (.int (an_93 y x1))) M') : px_T 0 233 0 [some (.ref 56), some (.int x1)] [] M Q := by
  refine sg_233_0 (sr_225 R (fun M1 t q1 L1 A1 ht t1 g => ?_) (fun M1 q1 g => sg_233_5 (fun c1 => by have h9 := h M1 q1; rw [(show an_93 y x1 = -2 from by (unfold an_93; simp only [g, Bool.and_false, Bool.false_and, Bool.false_eq_true, if_false]))] at h9; exact h9) (fun c1 => absurd rfl c1) (fun c1 => absurd rfl c1)))
  subst ht
  have hn := iv_yn R.1
  have ev : an_93 y (nI t) = vl_93 (iv_rn y t) := by unfold an_93; simp (disch := omega) only [g, in_cl, if_true]
  rw [ev] at h
  have hA : rt_at (iv_rn y t) t M1 := A1.1 t t1
  have hW := iv_rnW R.1 t1
  have hT := iv_rnT R.1 t1
  have hm := iv_rnm R.1 t1
  have ha := hW.1.1
  generalize iv_rn y t = s at h hA hW hT hm ha
  refine sg_233_5 (fun c1 => absurd c1 (by decide)) (fun c1 => ?_) (fun c1 => ?_)
  · exact me_vin (by omega) (by omega)
  · rw [in_cl (by omega), hA.1.1, show ((1 : Int32) &&& 31) = (nI 1 &&& 31) from rfl, in_shr (by omega) (by omega)]
    exact h M1 q1
theorem sr_234 (R : ir y M) {x1 x2 : Int32} (h : ∀ M', rq M M' → Q (some (.int (an_94 y x1 x2))) M') : px_T 0 234 0 [some (.ref 56), some (.int x1), some (.int x2)] [] M Q := by
  refine sg_234_0 (sr_226 R (fun M1 t p q1 L1 A1 ht hp t1 p1 p2 g => ?_) (fun M1 q1 g => sg_234_6 (fun c1 => by have h9 := h M1 q1; rw [(show an_94 y x1 x2 = -2 from by (unfold an_94; simp only [g, Bool.and_false, Bool.false_and, Bool.false_eq_true, if_false]))] at h9; exact h9) (fun c1 => absurd rfl c1)))
  subst hp ht
  have hn := iv_yn R.1
  have ev : an_94 y (nI p) (nI t) = vl_94 (iv_rn y t) p := by unfold an_94; simp (disch := omega) only [g, in_cl, if_true]
  rw [ev] at h
  have hA : rt_at (iv_rn y t) t M1 := A1.1 t t1
  have hW := iv_rnW R.1 t1
  have hT := iv_rnT R.1 t1
  have hm := iv_rnm R.1 t1
  have ha := hW.1.1
  generalize iv_rn y t = s at h hA hW hT hm ha
  refine sg_234_6 (fun c1 => absurd c1 (by decide)) (fun c1 => ?_)
  exact sr_228 hA ha (by omega) (by omega) (sg_234_15 (h M1 q1))
theorem sr_235 (R : ir y M) {x1 x2 : Int32} (h : ∀ M', rq M M' → Q (some (.int (an_95 y x1 x2))) M') : px_T 0 235 0 [some (.ref 56), some (.int x1), some (.int x2)] [] M Q := by
  refine sg_235_0 (sr_226 R (fun M1 t p q1 L1 A1 ht hp t1 p1 p2 g => ?_) (fun M1 q1 g => sg_235_6 (fun c1 => by have h9 := h M1 q1; rw [(show an_95 y x1 x2 = -2 from by (unfold an_95; simp only [g, Bool.and_false, Bool.false_and, Bool.false_eq_true, if_false]))] at h9; exact h9) (fun c1 => absurd rfl c1)))
  subst hp ht
  have hn := iv_yn R.1
  have ev : an_95 y (nI p) (nI t) = vl_95 (iv_rn y t) p := by unfold an_95; simp (disch := omega) only [g, in_cl, if_true]
  rw [ev] at h
  have hA : rt_at (iv_rn y t) t M1 := A1.1 t t1
  have hW := iv_rnW R.1 t1
  have hT := iv_rnT R.1 t1
  have hm := iv_rnm R.1 t1
  have ha := hW.1.1
  generalize iv_rn y t = s at h hA hW hT hm ha
  refine sg_235_6 (fun c1 => absurd c1 (by decide)) (fun c1 => ?_)
  exact sr_229 hA ha (by omega) (by omega) (sg_235_15 (h M1 q1))
theorem sr_236 (R : ir y M) {x1 x2 : Int32} (h : ∀ M', rq M M' → Q (some (.int (an_96 y x1 x2))) M') : px_T 0 236 0 [some (.ref 56), some (.int x1), some (.int x2), none, none] [] M Q := by
  refine sg_236_0 (sr_226 R (fun M1 t p q1 L1 A1 ht hp t1 p1 p2 g => ?_) (fun M1 q1 g => sg_236_6 (fun c1 => by have h9 := h M1 q1; rw [(show an_96 y x1 x2 = -2 from by (unfold an_96; simp only [g, Bool.and_false, Bool.false_and, Bool.false_eq_true, if_false]))] at h9; exact h9) (fun c1 => absurd rfl c1)))
  subst hp ht
  have hn := iv_yn R.1
  have ev : an_96 y (nI p) (nI t) = vl_96 (iv_rn y t) p := by unfold an_96; simp (disch := omega) only [g, in_cl, if_true]
  rw [ev] at h
  have hA : rt_at (iv_rn y t) t M1 := A1.1 t t1
  have hW := iv_rnW R.1 t1
  have hT := iv_rnT R.1 t1
  have hm := iv_rnm R.1 t1
  have ha := hW.1.1
  generalize iv_rn y t = s at h hA hW hT hm ha
  refine sg_236_6 (fun c1 => absurd c1 (by decide)) (fun c1 => ?_)
  have hl : ∀ i, i ≤ 15 → px_T 0 236 17 [some (.ref 56), some (.int (nI p)), some (.int (nI t)), some (.int (nI (bs (fun i => decide (vl_pa s (i + 1) = nI p)) i))), some (.int (nI (i + 1)))] [] M1 Q := by
    refine lp_dn ?_ (fun i hi ih => ?_)
    · refine sg_236_17 (fun c1 => ?_) (fun c1 => by exfalso; (try simp (disch := omega) only [in_lt, in_le, in_eq, in_add, in_mul, in_sb, in_cl, in_bz, in_bo, in_mo, not_true_eq_false, not_false_eq_true, il_0, il_1, il_2, il_3, il_4, il_5, il_6, il_7, il_8, il_9, il_10, il_11, il_12, il_13, il_14, il_15, il_16, il_31] at c1) <;> omega)
      exact h M1 q1
    · refine sg_236_17 (fun c1 => by exfalso; (try simp (disch := omega) only [in_lt, in_le, in_eq, in_add, in_mul, in_sb, in_cl, in_bz, in_bo, in_mo, not_true_eq_false, not_false_eq_true, il_0, il_1, il_2, il_3, il_4, il_5, il_6, il_7, il_8, il_9, il_10, il_11, il_12, il_13, il_14, il_15, il_16, il_31] at c1) <;> omega) (fun c1 => ?_)
      refine sr_228 hA ha (by omega) (by omega) ?_
      refine sg_236_32 (fun c => ?_) (fun c => ?_)
      · rw [bs_y (decide_eq_true c)] at ih
        rw [in_s1 (by omega), Nat.add_sub_cancel, in_one (by omega), in_or, in_a1]
        exact ih
      · rw [bs_n (decide_eq_false c)] at ih
        rw [il_0, in_or, in_a1, Nat.or_zero]
        exact ih
  exact hl 0 (by omega)
theorem sr_237 {s : ws_S} {t p : Nat} (hA : rt_at s t M) (hW : ws_W s) (hT : ws_T s) (ht : t ≤ 72) (p1 : 1 ≤ p) (p2 : p ≤ 15) (h : Q (some (.int (nI (vn_un s p)))) M) : px_T 0 237 0 [some (.ref 56), some (.int (nI p)), some (.int (nI t)), none, none] [] M Q := by
  have ha := hW.1.1
  refine sg_237_0 ?_
  have hl : ∀ i, i ≤ 15 → px_T 0 237 5 [some (.ref 56), some (.int (nI p)), some (.int (nI t)), some (.int (nI (fb_ct (fun i => (ws_al s).testBit (i + 1) && ws_hb (ws_pa s) p 16 (ws_pa s (i + 1))) i))), some (.int (nI (i + 1)))] [] M Q := by
    refine lp_dn ?_ (fun i hi ih => ?_)
    · refine sg_237_5 (fun c1 => ?_) (fun c1 => by exfalso; (try simp (disch := omega) only [in_lt, in_le, in_eq, in_add, in_mul, in_sb, in_cl, in_bz, in_bo, in_mo, not_true_eq_false, not_false_eq_true, il_0, il_1, il_2, il_3, il_4, il_5, il_6, il_7, il_8, il_9, il_10, il_11, il_12, il_13, il_14, il_15, il_16, il_31] at c1) <;> omega)
      exact h
    · refine sg_237_5 (fun c1 => by exfalso; (try simp (disch := omega) only [in_lt, in_le, in_eq, in_add, in_mul, in_sb, in_cl, in_bz, in_bo, in_mo, not_true_eq_false, not_false_eq_true, il_0, il_1, il_2, il_3, il_4, il_5, il_6, il_7, il_8, il_9, il_10, il_11, il_12, il_13, il_14, il_15, il_16, il_31] at c1) <;> omega) (fun c1 => ?_)
      refine sr_227 hA ha ht (by omega) ?_
      refine sg_237_20 (fun c => ?_) (fun c => ?_)
      · rw [in_b0] at c
        rw [ct_n (by rw [c]; rfl)] at ih
        rw [il_0, in_add, in_a1, Nat.add_zero]
        exact ih
      · rw [in_b0, Bool.not_eq_false] at c
        refine sr_227 hA ha ht (by omega) ?_
        refine sg_237_29 (fun d => ?_) (fun d => ?_)
        · rw [in_b0] at d
          have hb : ws_hb (ws_pa s) p 16 (ws_pa s (i + 1)) = false := by
            cases hb : ws_hb (ws_pa s) p 16 (ws_pa s (i + 1)) with
            | false => rfl
            | true =>
              have h3 := ws_hb_al hT p1 16 (ws_pa s (i + 1)) (by
                by_cases hi1 : i + 1 = 1
                · left
                  rw [hi1]
                  exact ws_T_p1 hT
                · exact Or.inr (ws_T_pa hT c hi1)) hb
              rw [d] at h3
              exact absurd h3 (by decide)
          rw [ct_n (by rw [hb, Bool.and_false])] at ih
          rw [il_0, in_add, in_a1, Nat.add_zero]
          exact ih
        · rw [il_16, in_mul]
          refine sr_215 (pa := ws_pa s) hA.2.1 (fun q hq => Or.inl ⟨0, 1168, Or.inl rfl, rfl, me_vin (by omega) (by omega)⟩) (by omega) (fun q _ => hW.2.1 q) (by omega) p1 (by omega) ?_
          refine sg_237_47 (fun f => ?_) (fun f => ?_)
          · rw [in_b0] at f
            rw [ct_n (by rw [f, Bool.and_false])] at ih
            rw [il_0, in_add, in_a1, Nat.add_zero]
            exact ih
          · rw [in_b0, Bool.not_eq_false] at f
            rw [ct_y (by rw [c, f]; rfl)] at ih
            rw [in_a1, in_a1]
            exact ih
  exact hl 0 (by omega)
theorem sr_238 (R : ir y M) {x1 x2 : Int32} (h : ∀ M', rq M M' → Q (some (.int (an_97 y x1 x2))) M') : px_T 0 238 0 [some (.ref 56), some (.int x1), some (.int x2)] [] M Q := by
  refine sg_238_0 (sr_226 R (fun M1 t p q1 L1 A1 ht hp t1 p1 p2 g => ?_) (fun M1 q1 g => sg_238_6 (fun c1 => by have h9 := h M1 q1; rw [(show an_97 y x1 x2 = -2 from by (unfold an_97; simp only [g, Bool.and_false, Bool.false_and, Bool.false_eq_true, if_false]))] at h9; exact h9) (fun c1 => absurd rfl c1)))
  subst hp ht
  have hn := iv_yn R.1
  have ev : an_97 y (nI p) (nI t) = vl_97 (iv_rn y t) p := by unfold an_97; simp (disch := omega) only [g, in_cl, if_true]
  rw [ev] at h
  have hA : rt_at (iv_rn y t) t M1 := A1.1 t t1
  have hW := iv_rnW R.1 t1
  have hT := iv_rnT R.1 t1
  have hm := iv_rnm R.1 t1
  have ha := hW.1.1
  generalize iv_rn y t = s at h hA hW hT hm ha
  refine sg_238_6 (fun c1 => absurd c1 (by decide)) (fun c1 => ?_)
  exact sr_237 hA hW hT (by omega) p1 p2 (sg_238_15 (h M1 q1))
theorem sr_239l {s : ws_S} {t : Nat} {d1 : Option Value} {d : Nat → Nat} (hA : rt_at s t M) (hW : ws_W s) (F : ws_F (fun q => (ws_al s).testBit q = true) (ws_pa s) d) (ht : t ≤ 72) : ∀ (n c q : Nat), (q = 0 ∨ ((ws_al s).testBit q = true ∧ d q < n)) → Q (some (.int (nI (c + ws_dp (ws_pa s) n q)))) M → px_T 0 239 28 [some (.ref 56), d1, some (.int (nI t)), some (.int (nI c)), some (.int (nI q))] [] M Q
  | 0, c, q, hq, h => by
    have q0 : q = 0 := by omega
    subst q0
    exact sg_239_28 (fun _ => h) (fun c => absurd rfl c)
  | n + 1, c, q, hq, h => by
    unfold ws_dp at h
    by_cases q0 : q = 0
    · subst q0
      rw [if_pos rfl] at h
      exact sg_239_28 (fun _ => h) (fun c => absurd rfl c)
    · obtain ⟨b1, b2⟩ := hq.resolve_left q0
      have b3 := F.2.2.2.1 q b1
      rw [if_neg q0] at h
      refine sg_239_28 (fun e => absurd ((in_eq (b := 0) (by omega) (by omega)).mp e) q0) (fun _ => ?_)
      refine sr_228 hA hW.1.1 ht (by omega) (sg_239_43 ?_)
      unfold vl_pa
      rw [if_pos b1, in_a1]
      refine sr_239l hA hW F ht n (c + 1) (ws_pa s q) ?_ (by rw [Nat.add_assoc]; exact h)
      by_cases h1 : q = 1
      · left
        rw [h1]
        exact F.2.1
      · obtain ⟨a1, a2⟩ := F.2.2.2.2 q b1 h1
        exact Or.inr ⟨a1, by omega⟩
theorem sr_239 (R : ir y M) {x1 x2 : Int32} (h : ∀ M', rq M M' → Q (some (.int (an_98 y x1 x2))) M') : px_T 0 239 0 [some (.ref 56), some (.int x1), some (.int x2), none, none] [] M Q := by
  refine sg_239_0 (sr_226 R (fun M1 t p q1 L1 A1 ht hp t1 p1 p2 g => ?_) (fun M1 q1 g => sg_239_6 (fun c1 => by have h9 := h M1 q1; rw [(show an_98 y x1 x2 = -2 from by (unfold an_98; simp only [g, Bool.and_false, Bool.false_and, Bool.false_eq_true, if_false]))] at h9; exact h9) (fun c1 => absurd rfl c1)))
  subst hp ht
  have hn := iv_yn R.1
  have ev : an_98 y (nI p) (nI t) = vl_98 (iv_rn y t) p := by unfold an_98; simp (disch := omega) only [g, in_cl, if_true]
  rw [ev] at h
  have hA : rt_at (iv_rn y t) t M1 := A1.1 t t1
  have hW := iv_rnW R.1 t1
  have hT := iv_rnT R.1 t1
  have hm := iv_rnm R.1 t1
  have ha := hW.1.1
  generalize iv_rn y t = s at h hA hW hT hm ha
  refine sg_239_6 (fun c1 => absurd c1 (by decide)) (fun c1 => ?_)
  refine sr_227 hA ha (by omega) (by omega) ?_
  have h2 := h M1 q1
  unfold vl_98 at h2
  refine sg_239_18 (fun c => ?_) (fun c => ?_)
  · rw [in_b0] at c
    rw [c] at h2
    exact h2
  · rw [in_b0, Bool.not_eq_false] at c
    rw [if_pos c] at h2
    obtain ⟨d, F⟩ := hT
    obtain ⟨d', F', hd⟩ := ws_rk F
    refine sr_239l hA hW F' (by omega) 16 0 p (Or.inr ⟨c, by have := hd p; omega⟩) ?_
    rw [Nat.zero_add]
    exact h2
theorem sr_240 {s : ws_S} {t q : Nat} (hA : rt_at s t M) (ha : ws_al s < 2 ^ 16) (ht : t ≤ 72) (h : Q (some (.int (nI (ms_of s q)))) M) : px_T 0 240 0 [some (.ref 56), some (.int (nI q)), some (.int (nI t)), none, none] [] M Q := by
  refine sg_240_0 ?_
  have hl : ∀ i, i ≤ 15 → px_T 0 240 5 [some (.ref 56), some (.int (nI q)), some (.int (nI t)), some (.int (nI (bs (fun i => decide (vl_se s (i + 1) = nI q)) i))), some (.int (nI (i + 1)))] [] M Q := by
    refine lp_dn ?_ (fun i hi ih => ?_)
    · refine sg_240_5 (fun c1 => ?_) (fun c1 => by exfalso; (try simp (disch := omega) only [in_lt, in_le, in_eq, in_add, in_mul, in_sb, in_cl, in_bz, in_bo, in_mo, not_true_eq_false, not_false_eq_true, il_0, il_1, il_2, il_3, il_4, il_5, il_6, il_7, il_8, il_9, il_10, il_11, il_12, il_13, il_14, il_15, il_16, il_31] at c1) <;> omega)
      exact h
    · refine sg_240_5 (fun c1 => by exfalso; (try simp (disch := omega) only [in_lt, in_le, in_eq, in_add, in_mul, in_sb, in_cl, in_bz, in_bo, in_mo, not_true_eq_false, not_false_eq_true, il_0, il_1, il_2, il_3, il_4, il_5, il_6, il_7, il_8, il_9, il_10, il_11, il_12, il_13, il_14, il_15, il_16, il_31] at c1) <;> omega) (fun c1 => ?_)
      refine sr_229 hA ha ht (by omega) ?_
      refine sg_240_20 (fun c => ?_) (fun c => ?_)
      · rw [bs_y (decide_eq_true c)] at ih
        rw [in_s1 (by omega), Nat.add_sub_cancel, in_one (by omega), in_or, in_a1]
        exact ih
      · rw [bs_n (decide_eq_false c)] at ih
        rw [il_0, in_or, in_a1, Nat.or_zero]
        exact ih
  exact hl 0 (by omega)
theorem sr_241 (R : ir y M) {x1 x2 : Int32} (h : ∀ M', rq M M' → Q (some (.int (an_99 y x1 x2))) M') : px_T 0 241 0 [some (.ref 56), some (.int x1), some (.int x2)] [] M Q := by
  refine sg_241_0 (sr_226 R (fun M1 t p q1 L1 A1 ht hp t1 p1 p2 g => ?_) (fun M1 q1 g => sg_241_6 (fun c1 => by have h9 := h M1 q1; rw [(show an_99 y x1 x2 = -2 from by (unfold an_99; simp only [g, Bool.and_false, Bool.false_and, Bool.false_eq_true, if_false]))] at h9; exact h9) (fun c1 => absurd rfl c1)))
  subst hp ht
  have hn := iv_yn R.1
  have ev : an_99 y (nI p) (nI t) = vl_99 (iv_rn y t) p := by unfold an_99; simp (disch := omega) only [g, in_cl, if_true]
  rw [ev] at h
  have hA : rt_at (iv_rn y t) t M1 := A1.1 t t1
  have hW := iv_rnW R.1 t1
  have hT := iv_rnT R.1 t1
  have hm := iv_rnm R.1 t1
  have ha := hW.1.1
  generalize iv_rn y t = s at h hA hW hT hm ha
  refine sg_241_6 (fun c1 => absurd c1 (by decide)) (fun c1 => ?_)
  exact sr_240 hA ha (by omega) (sg_241_15 (h M1 q1))
theorem sr_242 (R : ir y M) {x1 : Int32} (h : ∀ M', rq M M' → Q (some (.int (an_100 y x1))) M') : px_T 0 242 0 [some (.ref 56), some (.int x1), none, none] [] M Q := by
  refine sg_242_0 (sr_225 R (fun M1 t q1 L1 A1 ht t1 g => ?_) (fun M1 q1 g => sg_242_5 (fun c1 => by have h9 := h M1 q1; rw [(show an_100 y x1 = -2 from by (unfold an_100; simp only [g, Bool.and_false, Bool.false_and, Bool.false_eq_true, if_false]))] at h9; exact h9) (fun c1 => absurd rfl c1)))
  subst ht
  have hn := iv_yn R.1
  have ev : an_100 y (nI t) = vl_100 (iv_rn y t) := by unfold an_100; simp (disch := omega) only [g, in_cl, if_true]
  rw [ev] at h
  have hA : rt_at (iv_rn y t) t M1 := A1.1 t t1
  have hW := iv_rnW R.1 t1
  have hT := iv_rnT R.1 t1
  have hm := iv_rnm R.1 t1
  have ha := hW.1.1
  generalize iv_rn y t = s at h hA hW hT hm ha
  refine sg_242_5 (fun c1 => absurd c1 (by decide)) (fun c1 => ?_)
  have hl : ∀ i, i ≤ 15 → px_T 0 242 15 [some (.ref 56), some (.int (nI t)), some (.int (nI (fb_ct (fun i => decide (ms_of s (i + 1) ≠ 0)) i))), some (.int (nI (i + 1)))] [] M1 Q := by
    refine lp_dn ?_ (fun i hi ih => ?_)
    · refine sg_242_15 (fun c1 => ?_) (fun c1 => by exfalso; (try simp (disch := omega) only [in_lt, in_le, in_eq, in_add, in_mul, in_sb, in_cl, in_bz, in_bo, in_mo, not_true_eq_false, not_false_eq_true, il_0, il_1, il_2, il_3, il_4, il_5, il_6, il_7, il_8, il_9, il_10, il_11, il_12, il_13, il_14, il_15, il_16, il_31] at c1) <;> omega)
      exact h M1 q1
    · refine sg_242_15 (fun c1 => by exfalso; (try simp (disch := omega) only [in_lt, in_le, in_eq, in_add, in_mul, in_sb, in_cl, in_bz, in_bo, in_mo, not_true_eq_false, not_false_eq_true, il_0, il_1, il_2, il_3, il_4, il_5, il_6, il_7, il_8, il_9, il_10, il_11, il_12, il_13, il_14, il_15, il_16, il_31] at c1) <;> omega) (fun c1 => ?_)
      refine sr_240 hA ha (by omega) ?_
      have hlt : ms_of s (i + 1) < 2 ^ 15 := bs_lt _ 15
      refine sg_242_28 (fun c => ?_) (fun c => ?_)
      · simp (disch := omega) only [in_lt, in_le, in_eq, in_add, in_mul, in_sb, in_cl, in_bz, in_bo, in_mo, not_true_eq_false, not_false_eq_true, il_0, il_1, il_2, il_3, il_4, il_5, il_6, il_7, il_8, il_9, il_10, il_11, il_12, il_13, il_14, il_15, il_16, il_31] at c
        rw [ct_n (decide_eq_false (fun q => q c))] at ih
        rw [il_0, in_add, in_a1, Nat.add_zero]
        exact ih
      · simp (disch := omega) only [in_lt, in_le, in_eq, in_add, in_mul, in_sb, in_cl, in_bz, in_bo, in_mo, not_true_eq_false, not_false_eq_true, il_0, il_1, il_2, il_3, il_4, il_5, il_6, il_7, il_8, il_9, il_10, il_11, il_12, il_13, il_14, il_15, il_16, il_31] at c
        rw [ct_y (decide_eq_true c)] at ih
        rw [in_a1, in_a1]
        exact ih
  exact hl 0 (by omega)
end Q46
