/-! questions about handles and objects -/
def vl_103 (s : ws_S) (p k : Nat) : Int32 := nI (ws_ob s (8 * p + k)) - 1
def an_103 (y : iv_Y) (x1 x2 x3 : Int32) : Int32 := if (tk y x3 && (rg x1 1 15 && rg x2 0 7)) = true then vl_103 (iv_rn y x3.toNatClampNeg) x1.toNatClampNeg x2.toNatClampNeg else -2
def vl_104 (s : ws_S) (p : Nat) : Int32 := nI (bs (fun h => decide (ws_ob s (8 * p + h) ≠ 0)) 8)
def an_104 (y : iv_Y) (x1 x2 : Int32) : Int32 := if (tk y x2 && rg x1 1 15) = true then vl_104 (iv_rn y x2.toNatClampNeg) x1.toNatClampNeg else -2
def vl_105 (s : ws_S) (o : Nat) : Int32 := nI (ws_ct (ws_ob s) o)
def an_105 (y : iv_Y) (x1 x2 : Int32) : Int32 := if (tk y x2 && rg x1 0 199) = true then vl_105 (iv_rn y x2.toNatClampNeg) x1.toNatClampNeg else -2
def vl_106 (s : ws_S) (o : Nat) : Int32 := if o < ws_md s then nI (ws_kd s o) else -1
def an_106 (y : iv_Y) (x1 x2 : Int32) : Int32 := if (tk y x2 && rg x1 0 199) = true then vl_106 (iv_rn y x2.toNatClampNeg) x1.toNatClampNeg else -2
def vl_107 (s : ws_S) : Int32 := nI (fb_ct (fun o => decide (0 < ws_ct (ws_ob s) o)) (ws_md s))
def an_107 (y : iv_Y) (x1 : Int32) : Int32 := if tk y x1 = true then vl_107 (iv_rn y x1.toNatClampNeg) else -2
def vl_qu (s : ws_S) (o : Nat) : Int32 := if o < ws_md s ∧ ws_kd s o ≠ 0 ∧ 0 < ws_ct (ws_ob s) (sh_re s o) + ws_ct (ws_ob s) (sh_re s o + 1) then nI (ws_by s (sh_re s o)) else -1
def vl_108 (s : ws_S) (o : Nat) : Int32 := vl_qu s o
def an_108 (y : iv_Y) (x1 x2 : Int32) : Int32 := if (tk y x2 && rg x1 0 199) = true then vl_108 (iv_rn y x2.toNatClampNeg) x1.toNatClampNeg else -2
def vn_b1 (s : ws_S) (o : Nat) : Nat := if ws_kd s o = 1 then (if 0 < ws_ct (ws_ob s) o + ws_ct (ws_ob s) (o + 1) then ws_by s o else 0) else 0
def sm (f : Nat → Nat) : Nat → Nat
  | 0 => 0
  | n + 1 => sm f n + f n
def vl_109 (s : ws_S) : Int32 := nI (sm (vn_b1 s) (ws_md s))
def an_109 (y : iv_Y) (x1 : Int32) : Int32 := if tk y x1 = true then vl_109 (iv_rn y x1.toNatClampNeg) else -2
def hs_of (ob : Nat → Nat) (o : Nat) : Nat → Nat
  | 0 => 0
  | n + 1 => hs_of ob o n ||| (if ob (8 + n) = o + 1 then 2 ^ (n / 8) else 0)
def vl_111 (s : ws_S) (p k : Nat) : Int32 := if ws_ob s (8 * p + k) = 0 then 0 else nI (hs_of (ws_ob s) (ws_ob s (8 * p + k) - 1) 120)
def an_111 (y : iv_Y) (x1 x2 x3 : Int32) : Int32 := if (tk y x3 && (rg x1 1 15 && rg x2 0 7)) = true then vl_111 (iv_rn y x3.toNatClampNeg) x1.toNatClampNeg x2.toNatClampNeg else -2
def vl_101 (y : iv_Y) (p : Nat) : Int32 := vl_ft (fun t => (ws_al (iv_rn y t)).testBit p) (iv_n y + 1) 0
def an_101 (y : iv_Y) (x1 : Int32) : Int32 := if (decide (iv_ln y ≠ 0) && rg x1 1 15) = true then vl_101 y x1.toNatClampNeg else -2
def vl_102 (y : iv_Y) (p : Nat) : Int32 := if vl_101 y p = -1 then -1 else vl_ft (fun t => !(ws_al (iv_rn y t)).testBit p) (iv_n y + 1 - (vl_101 y p).toNatClampNeg) (vl_101 y p).toNatClampNeg
def an_102 (y : iv_Y) (x1 : Int32) : Int32 := if (decide (iv_ln y ≠ 0) && rg x1 1 15) = true then vl_102 y x1.toNatClampNeg else -2
theorem vl_ft_or (f : Nat → Bool) : ∀ n t, vl_ft f n t = -1 ∨ ∃ u, t ≤ u ∧ u < t + n ∧ vl_ft f n t = nI u
  | 0, t => Or.inl rfl
  | n + 1, t => by
    unfold vl_ft
    split
    · exact Or.inr ⟨t, by omega, by omega, rfl⟩
    · rcases vl_ft_or f n (t + 1) with h | ⟨u, h1, h2, h3⟩
      · exact Or.inl h
      · exact Or.inr ⟨u, by omega, by omega, h3⟩
theorem in_nm {a : Nat} (h : a < 2 ^ 31) : ¬ nI a = -1 := fun q => (in_mo h).mp q
section Q47
variable {M : px_Mem} {Q : px_Po} {y : iv_Y}
theorem sc_103 (C : ic y M) {x1 x2 x3 : Int32} (h : ∀ M', cq y M M' → Q (some (.int (an_103 y x1 x2 x3))) M') : px_T 0 103 0 [some (.ref 0), some (.int x1), some (.int x2), some (.int x3)] [] M Q := by
  refine sg_103_0 (sc_154 (fun p k hp hk p1 p2 k1 g1a g1 => ?_) (fun g1 => sg_103_5 (fun c1 => absurd c1 (by decide)) (fun c1 => by have h9 := h _ (cq_rf C); rw [(show an_103 y x1 x2 x3 = -2 from by (unfold an_103; simp only [g1, Bool.and_false, Bool.false_and, Bool.false_eq_true, if_false]))] at h9; exact h9)))
  refine sg_103_5 (fun c1 => sc_152 C (fun t ht t1 g2 => ?_) (fun g2 => sg_103_13 (fun c1 => absurd c1 (by decide)) (fun c1 => by have h9 := h _ (cq_rf C); rw [(show an_103 y x1 x2 x3 = -2 from by (unfold an_103; simp only [g2, Bool.and_false, Bool.false_and, Bool.false_eq_true, if_false]))] at h9; exact h9))) (fun c1 => absurd rfl c1)
  refine sg_103_13 (fun c1 => ?_) (fun c1 => absurd rfl c1)
  subst hp hk ht
  have hn := ic_n C
  have ev : an_103 y (nI p) (nI k) (nI t) = vl_103 (iv_rn y t) p k := by unfold an_103; simp (disch := omega) only [g1, g1a, g2, in_cl, Bool.and_true, if_true]
  rw [ev] at h
  refine sc_11 C t1 (fun M1 q1 hF => ?_)
  have hC := hF.2.1
  have hW := iv_rnW C.1 t1
  have hT := iv_rnT C.1 t1
  have hm := iv_rnm C.1 t1
  generalize iv_rn y t = s at h hC hW hT hm
  exact sg_103_27 (Or.inl rfl) (sw_68 (Or.inl rfl) hC (by omega) (by omega) (sg_103_32 (h M1 q1)))
theorem sc_104 (C : ic y M) {x1 x2 : Int32} (h : ∀ M', cq y M M' → Q (some (.int (an_104 y x1 x2))) M') : px_T 0 104 0 [some (.ref 0), some (.int x1), some (.int x2), none, none, none] [] M Q := by
  refine sg_104_0 (sc_153 (fun p hp p1 p2 g1 => ?_) (fun g1 => sg_104_4 (fun c1 => absurd c1 (by decide)) (fun c1 => by have h9 := h _ (cq_rf C); rw [(show an_104 y x1 x2 = -2 from by (unfold an_104; simp only [g1, Bool.and_false, Bool.false_and, Bool.false_eq_true, if_false]))] at h9; exact h9)))
  refine sg_104_4 (fun c1 => sc_152 C (fun t ht t1 g2 => ?_) (fun g2 => sg_104_12 (fun c1 => absurd c1 (by decide)) (fun c1 => by have h9 := h _ (cq_rf C); rw [(show an_104 y x1 x2 = -2 from by (unfold an_104; simp only [g2, Bool.and_false, Bool.false_and, Bool.false_eq_true, if_false]))] at h9; exact h9))) (fun c1 => absurd rfl c1)
  refine sg_104_12 (fun c1 => ?_) (fun c1 => absurd rfl c1)
  subst hp ht
  have hn := ic_n C
  have ev : an_104 y (nI p) (nI t) = vl_104 (iv_rn y t) p := by unfold an_104; simp (disch := omega) only [g1, g2, in_cl, Bool.and_true, if_true]
  rw [ev] at h
  refine sc_11 C t1 (fun M1 q1 hF => ?_)
  have hC := hF.2.1
  have hW := iv_rnW C.1 t1
  have hT := iv_rnT C.1 t1
  have hm := iv_rnm C.1 t1
  generalize iv_rn y t = s at h hC hW hT hm
  refine sg_104_26 (Or.inl rfl) ?_
  have hl : ∀ i, i ≤ 8 → px_T 0 104 33 [some (.ref 0), some (.int (nI p)), some (.int (nI t)), some (.ref 29), some (.int (nI (bs (fun h => decide (ws_ob s (8 * p + h) ≠ 0)) i))), some (.int (nI i))] [] M1 Q := by
    refine lp_dn ?_ (fun i hi ih => ?_)
    · refine sg_104_33 (Or.inl rfl) (fun c1 => ?_) (fun c1 => by exfalso; (try simp (disch := omega) only [in_lt, in_le, in_eq, in_add, in_mul, in_sb, in_cl, in_bz, in_bo, in_mo, not_true_eq_false, not_false_eq_true, il_0, il_1, il_2, il_3, il_4, il_5, il_6, il_7, il_8, il_9, il_10, il_11, il_12, il_13, il_14, il_15, il_16, il_31] at c1) <;> omega)
      exact h M1 q1
    · refine sg_104_33 (Or.inl rfl) (fun c1 => by exfalso; (try simp (disch := omega) only [in_lt, in_le, in_eq, in_add, in_mul, in_sb, in_cl, in_bz, in_bo, in_mo, not_true_eq_false, not_false_eq_true, il_0, il_1, il_2, il_3, il_4, il_5, il_6, il_7, il_8, il_9, il_10, il_11, il_12, il_13, il_14, il_15, il_16, il_31] at c1) <;> omega) (fun c1 => ?_)
      refine sw_68 (Or.inl rfl) hC (by omega) (by omega) ?_
      have ho := hW.2.2.2.2.1 (8 * p + i)
      refine sg_104_47 (Or.inl rfl) (fun c => ?_) (fun c => ?_)
      · rw [in_om0 (by omega)] at c
        rw [bs_n (decide_eq_false (fun q => q c))] at ih
        rw [in_a1]
        exact ih
      · rw [in_om0 (by omega)] at c
        rw [bs_y (decide_eq_true c)] at ih
        rw [in_one (by omega), in_or, in_a1]
        exact ih
  exact hl 0 (by omega)
theorem sc_105 (C : ic y M) {x1 x2 : Int32} (h : ∀ M', cq y M M' → Q (some (.int (an_105 y x1 x2))) M') : px_T 0 105 0 [some (.ref 0), some (.int x1), some (.int x2)] [] M Q := by
  refine sg_105_0 (sc_155 (fun o ho o1 g1 => ?_) (fun g1 => sg_105_4 (fun c1 => absurd c1 (by decide)) (fun c1 => by have h9 := h _ (cq_rf C); rw [(show an_105 y x1 x2 = -2 from by (unfold an_105; simp only [g1, Bool.and_false, Bool.false_and, Bool.false_eq_true, if_false]))] at h9; exact h9)))
  refine sg_105_4 (fun c1 => sc_152 C (fun t ht t1 g2 => ?_) (fun g2 => sg_105_12 (fun c1 => absurd c1 (by decide)) (fun c1 => by have h9 := h _ (cq_rf C); rw [(show an_105 y x1 x2 = -2 from by (unfold an_105; simp only [g2, Bool.and_false, Bool.false_and, Bool.false_eq_true, if_false]))] at h9; exact h9))) (fun c1 => absurd rfl c1)
  refine sg_105_12 (fun c1 => ?_) (fun c1 => absurd rfl c1)
  subst ho ht
  have hn := ic_n C
  have ev : an_105 y (nI o) (nI t) = vl_105 (iv_rn y t) o := by unfold an_105; simp (disch := omega) only [g1, g2, in_cl, Bool.and_true, if_true]
  rw [ev] at h
  refine sc_11 C t1 (fun M1 q1 hF => ?_)
  have hC := hF.2.1
  have hW := iv_rnW C.1 t1
  have hT := iv_rnT C.1 t1
  have hm := iv_rnm C.1 t1
  generalize iv_rn y t = s at h hC hW hT hm
  refine sg_105_26 (Or.inl rfl) (me_vin o1 (by omega)) ?_
  rw [in_cl (by omega), hC.2.2.2.2.2.1 o o1]
  exact h M1 q1
theorem sc_106 (C : ic y M) {x1 x2 : Int32} (h : ∀ M', cq y M M' → Q (some (.int (an_106 y x1 x2))) M') : px_T 0 106 0 [some (.ref 0), some (.int x1), some (.int x2), none] [] M Q := by
  refine sg_106_0 (sc_155 (fun o ho o1 g1 => ?_) (fun g1 => sg_106_4 (fun c1 => absurd c1 (by decide)) (fun c1 => by have h9 := h _ (cq_rf C); rw [(show an_106 y x1 x2 = -2 from by (unfold an_106; simp only [g1, Bool.and_false, Bool.false_and, Bool.false_eq_true, if_false]))] at h9; exact h9)))
  refine sg_106_4 (fun c1 => sc_152 C (fun t ht t1 g2 => ?_) (fun g2 => sg_106_12 (fun c1 => absurd c1 (by decide)) (fun c1 => by have h9 := h _ (cq_rf C); rw [(show an_106 y x1 x2 = -2 from by (unfold an_106; simp only [g2, Bool.and_false, Bool.false_and, Bool.false_eq_true, if_false]))] at h9; exact h9))) (fun c1 => absurd rfl c1)
  refine sg_106_12 (fun c1 => ?_) (fun c1 => absurd rfl c1)
  subst ho ht
  have hn := ic_n C
  have ev : an_106 y (nI o) (nI t) = vl_106 (iv_rn y t) o := by unfold an_106; simp (disch := omega) only [g1, g2, in_cl, Bool.and_true, if_true]
  rw [ev] at h
  refine sc_11 C t1 (fun M1 q1 hF => ?_)
  have hC := hF.2.1
  have hW := iv_rnW C.1 t1
  have hT := iv_rnT C.1 t1
  have hm := iv_rnm C.1 t1
  generalize iv_rn y t = s at h hC hW hT hm
  have f := hC.1.2.1
  have h2 := h M1 q1
  unfold vl_106 at h2
  refine sg_106_26 (Or.inl rfl) (fun c1 => ?_) (fun c1 => by (try simp (disch := omega) only [in_lt, in_le, in_eq, in_add, in_mul, in_sb, in_cl, in_bz, in_bo, in_mo, not_true_eq_false, not_false_eq_true, il_0, il_1, il_2, il_3, il_4, il_5, il_6, il_7, il_8, il_9, il_10, il_11, il_12, il_13, il_14, il_15, il_16, il_31, f] at c1 ⊢) <;> exact me_vin (by omega) (by omega)) (fun c1 => ?_)
  · simp (disch := omega) only [in_lt, in_le, in_eq, in_add, in_mul, in_sb, in_cl, in_bz, in_bo, in_mo, not_true_eq_false, not_false_eq_true, il_0, il_1, il_2, il_3, il_4, il_5, il_6, il_7, il_8, il_9, il_10, il_11, il_12, il_13, il_14, il_15, il_16, il_31, f] at c1
    rw [if_neg (by omega)] at h2
    exact h2
  · simp (disch := omega) only [in_lt, in_le, in_eq, in_add, in_mul, in_sb, in_cl, in_bz, in_bo, in_mo, not_true_eq_false, not_false_eq_true, il_0, il_1, il_2, il_3, il_4, il_5, il_6, il_7, il_8, il_9, il_10, il_11, il_12, il_13, il_14, il_15, il_16, il_31, f] at c1
    rw [if_pos (by omega)] at h2
    rw [in_cl (by omega), hC.2.2.2.2.1 o (by omega)]
    exact h2
theorem sc_107 (C : ic y M) {x1 : Int32} (h : ∀ M', cq y M M' → Q (some (.int (an_107 y x1))) M') : px_T 0 107 0 [some (.ref 0), some (.int x1), none, none, none] [] M Q := by
  refine sg_107_0 (sc_152 C (fun t ht t1 g1 => ?_) (fun g1 => sg_107_5 (fun c1 => absurd c1 (by decide)) (fun c1 => by have h9 := h _ (cq_rf C); rw [(show an_107 y x1 = -2 from by (unfold an_107; simp only [g1, Bool.and_false, Bool.false_and, Bool.false_eq_true, if_false]))] at h9; exact h9)))
  refine sg_107_5 (fun c1 => ?_) (fun c1 => absurd rfl c1)
  subst ht
  have hn := ic_n C
  have ev : an_107 y (nI t) = vl_107 (iv_rn y t) := by unfold an_107; simp (disch := omega) only [g1, in_cl, Bool.and_true, if_true]
  rw [ev] at h
  refine sc_11 C t1 (fun M1 q1 hF => ?_)
  have hC := hF.2.1
  have hW := iv_rnW C.1 t1
  have hT := iv_rnT C.1 t1
  have hm := iv_rnm C.1 t1
  generalize iv_rn y t = s at h hC hW hT hm
  refine sg_107_19 (Or.inl rfl) ?_
  have f := hC.1.2.1
  have hl : ∀ i, i ≤ ws_md s → px_T 0 107 25 [some (.ref 0), some (.int (nI t)), some (.ref 29), some (.int (nI (fb_ct (fun o => decide (0 < ws_ct (ws_ob s) o)) i))), some (.int (nI i))] [] M1 Q := by
    refine lp_dn ?_ (fun i hi ih => ?_)
    · refine sg_107_25 (Or.inl rfl) (fun c1 => ?_) (fun c1 => by exfalso; (try simp (disch := omega) only [in_lt, in_le, in_eq, in_add, in_mul, in_sb, in_cl, in_bz, in_bo, in_mo, not_true_eq_false, not_false_eq_true, il_0, il_1, il_2, il_3, il_4, il_5, il_6, il_7, il_8, il_9, il_10, il_11, il_12, il_13, il_14, il_15, il_16, il_31, f] at c1) <;> omega) (fun c1 c2 => by exfalso; (try simp (disch := omega) only [in_lt, in_le, in_eq, in_add, in_mul, in_sb, in_cl, in_bz, in_bo, in_mo, not_true_eq_false, not_false_eq_true, il_0, il_1, il_2, il_3, il_4, il_5, il_6, il_7, il_8, il_9, il_10, il_11, il_12, il_13, il_14, il_15, il_16, il_31, f] at c1 c2) <;> omega) (fun c1 c2 => by exfalso; (try simp (disch := omega) only [in_lt, in_le, in_eq, in_add, in_mul, in_sb, in_cl, in_bz, in_bo, in_mo, not_true_eq_false, not_false_eq_true, il_0, il_1, il_2, il_3, il_4, il_5, il_6, il_7, il_8, il_9, il_10, il_11, il_12, il_13, il_14, il_15, il_16, il_31, f] at c1 c2) <;> omega)
      exact h M1 q1
    · have fc := hC.2.2.2.2.2.1 i (by omega)
      have fl := ws_ct_le (ws_ob s) i
      refine sg_107_25 (Or.inl rfl) (fun c1 => by exfalso; (try simp (disch := omega) only [in_lt, in_le, in_eq, in_add, in_mul, in_sb, in_cl, in_bz, in_bo, in_mo, not_true_eq_false, not_false_eq_true, il_0, il_1, il_2, il_3, il_4, il_5, il_6, il_7, il_8, il_9, il_10, il_11, il_12, il_13, il_14, il_15, il_16, il_31, f, fc] at c1) <;> omega) (fun c1 => by (try simp (disch := omega) only [in_lt, in_le, in_eq, in_add, in_mul, in_sb, in_cl, in_bz, in_bo, in_mo, not_true_eq_false, not_false_eq_true, il_0, il_1, il_2, il_3, il_4, il_5, il_6, il_7, il_8, il_9, il_10, il_11, il_12, il_13, il_14, il_15, il_16, il_31, f, fc] at c1 ⊢) <;> exact me_vin (by omega) (by omega)) (fun c1 c2 => ?_) (fun c1 c2 => ?_)
      · simp (disch := omega) only [in_lt, in_le, in_eq, in_add, in_mul, in_sb, in_cl, in_bz, in_bo, in_mo, not_true_eq_false, not_false_eq_true, il_0, il_1, il_2, il_3, il_4, il_5, il_6, il_7, il_8, il_9, il_10, il_11, il_12, il_13, il_14, il_15, il_16, il_31, fc] at c2
        rw [ct_n (decide_eq_false (by omega))] at ih
        rw [in_a1]
        exact ih
      · simp (disch := omega) only [in_lt, in_le, in_eq, in_add, in_mul, in_sb, in_cl, in_bz, in_bo, in_mo, not_true_eq_false, not_false_eq_true, il_0, il_1, il_2, il_3, il_4, il_5, il_6, il_7, il_8, il_9, il_10, il_11, il_12, il_13, il_14, il_15, il_16, il_31, fc] at c2
        rw [ct_y (decide_eq_true (by omega))] at ih
        rw [in_a1, in_a1]
        exact ih
  exact hl 0 (by omega)
/-- the bytes in the pipe of an end -/
theorem sw_70 {s : ws_S} {o a : Nat} (ho : px_isW o) (hC : ws_C s o M) (hW : ws_W s) (hm : ws_md s ≤ 140) (ha : a < 200) (h : Q (some (.int (vl_qu s a))) M) : px_T 0 70 0 [some (.ref o), some (.int (nI a)), none] [] M Q := by
  refine sg_70_0 ho ?_
  unfold vl_qu at h
  by_cases hmd : a < ws_md s
  · refine sp_71 ho hC hW (by omega) hmd ?_
    obtain ⟨w1, w2, w3⟩ := hW.2.2.2.2.2.2.1 a hmd
    by_cases hk0 : ws_kd s a = 0
    · rw [if_neg (by omega), if_neg (by omega)]
      rw [if_neg (fun q => q.2.1 hk0)] at h
      exact sg_70_5 ho (fun _ => h) (fun c => absurd (by decide) c) (fun c => absurd (by decide) c) (fun c => absurd (by decide) c) (fun c => absurd (by decide) c)
    · have hr : ∃ r, sh_re s a = r ∧ r + 1 < ws_md s ∧ (if ws_kd s a = 1 then nI a else if ws_kd s a = 2 then nI (a - 1) else -1) = nI r := by
        unfold sh_re
        by_cases hk1 : ws_kd s a = 1
        · rw [if_pos hk1, if_pos hk1]
          exact ⟨a, rfl, (w2 hk1).1, rfl⟩
        · have hk2 : ws_kd s a = 2 := by omega
          rw [if_neg hk1, if_neg hk1, if_pos hk2]
          exact ⟨a - 1, rfl, by have := (w3 hk2).1; omega, rfl⟩
      obtain ⟨r, r1, r2, r3⟩ := hr
      rw [r1] at h
      rw [r3]
      have e1 := hC.2.2.2.2.2.1 r (by omega)
      have e2 := hC.2.2.2.2.2.1 (r + 1) (by omega)
      have l1 := ws_ct_le (ws_ob s) r
      have l2 := ws_ct_le (ws_ob s) (r + 1)
      refine sg_70_5 ho (fun c1 => by exfalso; (try simp (disch := omega) only [in_lt, in_le, in_eq, in_add, in_mul, in_sb, in_cl, in_bz, in_bo, in_mo, not_true_eq_false, not_false_eq_true, il_0, il_1, il_2, il_3, il_4, il_5, il_6, il_7, il_8, il_9, il_10, il_11, il_12, il_13, il_14, il_15, il_16, il_31, e1, e2] at c1) <;> omega) (fun c1 => by (try simp (disch := omega) only [in_lt, in_le, in_eq, in_add, in_mul, in_sb, in_cl, in_bz, in_bo, in_mo, not_true_eq_false, not_false_eq_true, il_0, il_1, il_2, il_3, il_4, il_5, il_6, il_7, il_8, il_9, il_10, il_11, il_12, il_13, il_14, il_15, il_16, il_31, e1, e2] at c1 ⊢) <;> exact me_vin (by omega) (by omega)) (fun c1 => by (try simp (disch := omega) only [in_lt, in_le, in_eq, in_add, in_mul, in_sb, in_cl, in_bz, in_bo, in_mo, not_true_eq_false, not_false_eq_true, il_0, il_1, il_2, il_3, il_4, il_5, il_6, il_7, il_8, il_9, il_10, il_11, il_12, il_13, il_14, il_15, il_16, il_31, e1, e2] at c1 ⊢) <;> exact me_vin (by omega) (by omega)) (fun c1 c2 => ?_) (fun c1 c2 => ?_)
      · simp (disch := omega) only [in_lt, in_le, in_eq, in_add, in_mul, in_sb, in_cl, in_bz, in_bo, in_mo, not_true_eq_false, not_false_eq_true, il_0, il_1, il_2, il_3, il_4, il_5, il_6, il_7, il_8, il_9, il_10, il_11, il_12, il_13, il_14, il_15, il_16, il_31, e1, e2] at c2
        rw [if_neg (fun q => by omega)] at h
        exact h
      · simp (disch := omega) only [in_lt, in_le, in_eq, in_add, in_mul, in_sb, in_cl, in_bz, in_bo, in_mo, not_true_eq_false, not_false_eq_true, il_0, il_1, il_2, il_3, il_4, il_5, il_6, il_7, il_8, il_9, il_10, il_11, il_12, il_13, il_14, il_15, il_16, il_31, e1, e2] at c2
        rw [if_pos ⟨hmd, hk0, by omega⟩] at h
        rw [in_cl (by omega), hC.2.2.2.2.2.2 r (by omega)]
        exact h
  · rw [if_neg (fun q => hmd q.1)] at h
    have f := hC.1.2.1
    have g0 : px_T 0 70 5 [some (.ref o), some (.int (nI a)), none] [.int (-1)] M Q := sg_70_5 ho (fun _ => h) (fun c => absurd (by decide) c) (fun c => absurd (by decide) c) (fun c => absurd (by decide) c) (fun c => absurd (by decide) c)
    refine sg_71_0 ho (fun c1 => by exfalso; (try simp (disch := omega) only [in_lt, in_le, in_eq, in_add, in_mul, in_sb, in_cl, in_bz, in_bo, in_mo, not_true_eq_false, not_false_eq_true, il_0, il_1, il_2, il_3, il_4, il_5, il_6, il_7, il_8, il_9, il_10, il_11, il_12, il_13, il_14, il_15, il_16, il_31, f] at c1) <;> omega) (fun c1 c2 => by exfalso; (try simp (disch := omega) only [in_lt, in_le, in_eq, in_add, in_mul, in_sb, in_cl, in_bz, in_bo, in_mo, not_true_eq_false, not_false_eq_true, il_0, il_1, il_2, il_3, il_4, il_5, il_6, il_7, il_8, il_9, il_10, il_11, il_12, il_13, il_14, il_15, il_16, il_31, f] at c1 c2) <;> omega) (fun c1 c2 c3 c4 c5 c6 => by exfalso; (try simp (disch := omega) only [in_lt, in_le, in_eq, in_add, in_mul, in_sb, in_cl, in_bz, in_bo, in_mo, not_true_eq_false, not_false_eq_true, il_0, il_1, il_2, il_3, il_4, il_5, il_6, il_7, il_8, il_9, il_10, il_11, il_12, il_13, il_14, il_15, il_16, il_31, f] at c1 c2 c3 c4 c5 c6) <;> omega) (fun c1 c2 c3 c4 c5 c6 => by exfalso; (try simp (disch := omega) only [in_lt, in_le, in_eq, in_add, in_mul, in_sb, in_cl, in_bz, in_bo, in_mo, not_true_eq_false, not_false_eq_true, il_0, il_1, il_2, il_3, il_4, il_5, il_6, il_7, il_8, il_9, il_10, il_11, il_12, il_13, il_14, il_15, il_16, il_31, f] at c1 c2 c3 c4 c5 c6) <;> omega) (fun c1 c2 c3 c4 c5 => by exfalso; (try simp (disch := omega) only [in_lt, in_le, in_eq, in_add, in_mul, in_sb, in_cl, in_bz, in_bo, in_mo, not_true_eq_false, not_false_eq_true, il_0, il_1, il_2, il_3, il_4, il_5, il_6, il_7, il_8, il_9, il_10, il_11, il_12, il_13, il_14, il_15, il_16, il_31, f] at c1 c2 c3 c4 c5) <;> omega) (fun c1 c2 c3 c4 => by exfalso; (try simp (disch := omega) only [in_lt, in_le, in_eq, in_add, in_mul, in_sb, in_cl, in_bz, in_bo, in_mo, not_true_eq_false, not_false_eq_true, il_0, il_1, il_2, il_3, il_4, il_5, il_6, il_7, il_8, il_9, il_10, il_11, il_12, il_13, il_14, il_15, il_16, il_31, f] at c1 c2 c3 c4) <;> omega) (fun c1 c2 c3 c4 c5 => by exfalso; (try simp (disch := omega) only [in_lt, in_le, in_eq, in_add, in_mul, in_sb, in_cl, in_bz, in_bo, in_mo, not_true_eq_false, not_false_eq_true, il_0, il_1, il_2, il_3, il_4, il_5, il_6, il_7, il_8, il_9, il_10, il_11, il_12, il_13, il_14, il_15, il_16, il_31, f] at c1 c2 c3 c4 c5) <;> omega) (fun c1 c2 c3 c4 c5 => by exfalso; (try simp (disch := omega) only [in_lt, in_le, in_eq, in_add, in_mul, in_sb, in_cl, in_bz, in_bo, in_mo, not_true_eq_false, not_false_eq_true, il_0, il_1, il_2, il_3, il_4, il_5, il_6, il_7, il_8, il_9, il_10, il_11, il_12, il_13, il_14, il_15, il_16, il_31, f] at c1 c2 c3 c4 c5) <;> omega) (fun c1 c2 c3 c4 => by exfalso; (try simp (disch := omega) only [in_lt, in_le, in_eq, in_add, in_mul, in_sb, in_cl, in_bz, in_bo, in_mo, not_true_eq_false, not_false_eq_true, il_0, il_1, il_2, il_3, il_4, il_5, il_6, il_7, il_8, il_9, il_10, il_11, il_12, il_13, il_14, il_15, il_16, il_31, f] at c1 c2 c3 c4) <;> omega) (fun c1 c2 => ?_)
    exact g0
theorem sc_108 (C : ic y M) {x1 x2 : Int32} (h : ∀ M', cq y M M' → Q (some (.int (an_108 y x1 x2))) M') : px_T 0 108 0 [some (.ref 0), some (.int x1), some (.int x2)] [] M Q := by
  refine sg_108_0 (sc_155 (fun o ho o1 g1 => ?_) (fun g1 => sg_108_4 (fun c1 => absurd c1 (by decide)) (fun c1 => by have h9 := h _ (cq_rf C); rw [(show an_108 y x1 x2 = -2 from by (unfold an_108; simp only [g1, Bool.and_false, Bool.false_and, Bool.false_eq_true, if_false]))] at h9; exact h9)))
  refine sg_108_4 (fun c1 => sc_152 C (fun t ht t1 g2 => ?_) (fun g2 => sg_108_12 (fun c1 => absurd c1 (by decide)) (fun c1 => by have h9 := h _ (cq_rf C); rw [(show an_108 y x1 x2 = -2 from by (unfold an_108; simp only [g2, Bool.and_false, Bool.false_and, Bool.false_eq_true, if_false]))] at h9; exact h9))) (fun c1 => absurd rfl c1)
  refine sg_108_12 (fun c1 => ?_) (fun c1 => absurd rfl c1)
  subst ho ht
  have hn := ic_n C
  have ev : an_108 y (nI o) (nI t) = vl_108 (iv_rn y t) o := by unfold an_108; simp (disch := omega) only [g1, g2, in_cl, Bool.and_true, if_true]
  rw [ev] at h
  refine sc_11 C t1 (fun M1 q1 hF => ?_)
  have hC := hF.2.1
  have hW := iv_rnW C.1 t1
  have hT := iv_rnT C.1 t1
  have hm := iv_rnm C.1 t1
  generalize iv_rn y t = s at h hC hW hT hm
  exact sg_108_26 (Or.inl rfl) (sw_70 (Or.inl rfl) hC hW hm o1 (sg_108_30 (h M1 q1)))
theorem vl_qm {s : ws_S} {a : Nat} (hW : ws_W s) (hm : ws_md s ≤ 140) (ha : a < ws_md s) (hk : ws_kd s a = 1) : (if (0 : Int32) < vl_qu s a then vl_qu s a else 0) = nI (vn_b1 s a) := by
  have hb := hW.2.2.2.2.2.2.2 a ha
  have hr : sh_re s a = a := if_pos hk
  unfold vn_b1
  rw [if_pos hk]
  by_cases h0 : 0 < ws_ct (ws_ob s) a + ws_ct (ws_ob s) (a + 1)
  · have e : vl_qu s a = nI (ws_by s a) := by
      unfold vl_qu
      rw [hr]
      exact if_pos ⟨ha, by omega, h0⟩
    rw [e, if_pos h0]
    by_cases hz : ws_by s a = 0
    · rw [hz]
      rfl
    · exact if_pos ((in_lt (a := 0) (by omega) (by omega)).mpr (by omega))
  · have e : vl_qu s a = -1 := by
      unfold vl_qu
      rw [hr]
      exact if_neg (fun q => h0 q.2.2)
    rw [e, if_neg h0]
    rfl
theorem sc_109 (C : ic y M) {x1 : Int32} (h : ∀ M', cq y M M' → Q (some (.int (an_109 y x1))) M') : px_T 0 109 0 [some (.ref 0), some (.int x1), none, none, none] [] M Q := by
  refine sg_109_0 (sc_152 C (fun t ht t1 g1 => ?_) (fun g1 => sg_109_5 (fun c1 => absurd c1 (by decide)) (fun c1 => by have h9 := h _ (cq_rf C); rw [(show an_109 y x1 = -2 from by (unfold an_109; simp only [g1, Bool.and_false, Bool.false_and, Bool.false_eq_true, if_false]))] at h9; exact h9)))
  refine sg_109_5 (fun c1 => ?_) (fun c1 => absurd rfl c1)
  subst ht
  have hn := ic_n C
  have ev : an_109 y (nI t) = vl_109 (iv_rn y t) := by unfold an_109; simp (disch := omega) only [g1, in_cl, Bool.and_true, if_true]
  rw [ev] at h
  refine sc_11 C t1 (fun M1 q1 hF => ?_)
  have hC := hF.2.1
  have hW := iv_rnW C.1 t1
  have hT := iv_rnT C.1 t1
  have hm := iv_rnm C.1 t1
  generalize iv_rn y t = s at h hC hW hT hm
  refine sg_109_19 (Or.inl rfl) ?_
  have f := hC.1.2.1
  have hl : ∀ i, i ≤ ws_md s → px_T 0 109 25 [some (.ref 0), some (.int (nI t)), some (.ref 29), some (.int (nI (sm (vn_b1 s) i))), some (.int (nI i))] [] M1 Q := by
    refine lp_dn ?_ (fun i hi ih => ?_)
    · refine sg_109_25 (Or.inl rfl) (fun c1 => ?_) (fun c1 => by exfalso; (try simp (disch := omega) only [in_lt, in_le, in_eq, in_add, in_mul, in_sb, in_cl, in_bz, in_bo, in_mo, not_true_eq_false, not_false_eq_true, il_0, il_1, il_2, il_3, il_4, il_5, il_6, il_7, il_8, il_9, il_10, il_11, il_12, il_13, il_14, il_15, il_16, il_31, f] at c1) <;> omega) (fun c1 c2 => by exfalso; (try simp (disch := omega) only [in_lt, in_le, in_eq, in_add, in_mul, in_sb, in_cl, in_bz, in_bo, in_mo, not_true_eq_false, not_false_eq_true, il_0, il_1, il_2, il_3, il_4, il_5, il_6, il_7, il_8, il_9, il_10, il_11, il_12, il_13, il_14, il_15, il_16, il_31, f] at c1 c2) <;> omega) (fun c1 c2 => by exfalso; (try simp (disch := omega) only [in_lt, in_le, in_eq, in_add, in_mul, in_sb, in_cl, in_bz, in_bo, in_mo, not_true_eq_false, not_false_eq_true, il_0, il_1, il_2, il_3, il_4, il_5, il_6, il_7, il_8, il_9, il_10, il_11, il_12, il_13, il_14, il_15, il_16, il_31, f] at c1 c2) <;> omega)
      exact h M1 q1
    · have fk := hC.2.2.2.2.1 i hi
      have fl := (hW.2.2.2.2.2.2.1 i hi).1
      have e1 : sm (vn_b1 s) (i + 1) = sm (vn_b1 s) i + vn_b1 s i := rfl
      rw [e1] at ih
      refine sg_109_25 (Or.inl rfl) (fun c1 => by exfalso; (try simp (disch := omega) only [in_lt, in_le, in_eq, in_add, in_mul, in_sb, in_cl, in_bz, in_bo, in_mo, not_true_eq_false, not_false_eq_true, il_0, il_1, il_2, il_3, il_4, il_5, il_6, il_7, il_8, il_9, il_10, il_11, il_12, il_13, il_14, il_15, il_16, il_31, f, fk] at c1) <;> omega) (fun c1 => by (try simp (disch := omega) only [in_lt, in_le, in_eq, in_add, in_mul, in_sb, in_cl, in_bz, in_bo, in_mo, not_true_eq_false, not_false_eq_true, il_0, il_1, il_2, il_3, il_4, il_5, il_6, il_7, il_8, il_9, il_10, il_11, il_12, il_13, il_14, il_15, il_16, il_31, f, fk] at c1 ⊢) <;> exact me_vin (by omega) (by omega)) (fun c1 c2 => ?_) (fun c1 c2 => ?_)
      · simp (disch := omega) only [in_lt, in_le, in_eq, in_add, in_mul, in_sb, in_cl, in_bz, in_bo, in_mo, not_true_eq_false, not_false_eq_true, il_0, il_1, il_2, il_3, il_4, il_5, il_6, il_7, il_8, il_9, il_10, il_11, il_12, il_13, il_14, il_15, il_16, il_31, fk] at c2
        refine sw_70 (Or.inl rfl) hC hW hm (by omega) (sg_109_53 (Or.inl rfl) ?_)
        rw [vl_qm hW hm hi c2, in_add, in_a1]
        exact ih
      · simp (disch := omega) only [in_lt, in_le, in_eq, in_add, in_mul, in_sb, in_cl, in_bz, in_bo, in_mo, not_true_eq_false, not_false_eq_true, il_0, il_1, il_2, il_3, il_4, il_5, il_6, il_7, il_8, il_9, il_10, il_11, il_12, il_13, il_14, il_15, il_16, il_31, fk] at c2
        have e2 : vn_b1 s i = 0 := if_neg c2
        rw [e2, Nat.add_zero] at ih
        rw [in_a1]
        exact ih
  exact hl 0 (by omega)
theorem sw_69 {s : ws_S} {o a : Nat} (ho : px_isW o) (hC : ws_C s o M) (hW : ws_W s) (hm : ws_md s ≤ 140) (ha : a < 200) (h : Q (some (.int (nI (hs_of (ws_ob s) a 120)))) M) : px_T 0 69 0 [some (.ref o), some (.int (nI a)), none, none] [] M Q := by
  refine sg_69_0 ho ?_
  have hl : ∀ i, i ≤ 120 → px_T 0 69 5 [some (.ref o), some (.int (nI a)), some (.int (nI (hs_of (ws_ob s) a i))), some (.int (nI (8 + i)))] [] M Q := by
    refine lp_dn ?_ (fun i hi ih => ?_)
    · refine sg_69_5 ho (fun c1 => ?_) (fun c1 => by exfalso; (try simp (disch := omega) only [in_lt, in_le, in_eq, in_add, in_mul, in_sb, in_cl, in_bz, in_bo, in_mo, not_true_eq_false, not_false_eq_true, il_0, il_1, il_2, il_3, il_4, il_5, il_6, il_7, il_8, il_9, il_10, il_11, il_12, il_13, il_14, il_15, il_16, il_31, il_128] at c1) <;> omega) (fun c1 c2 => by exfalso; (try simp (disch := omega) only [in_lt, in_le, in_eq, in_add, in_mul, in_sb, in_cl, in_bz, in_bo, in_mo, not_true_eq_false, not_false_eq_true, il_0, il_1, il_2, il_3, il_4, il_5, il_6, il_7, il_8, il_9, il_10, il_11, il_12, il_13, il_14, il_15, il_16, il_31, il_128] at c1 c2) <;> omega) (fun c1 c2 => by exfalso; (try simp (disch := omega) only [in_lt, in_le, in_eq, in_add, in_mul, in_sb, in_cl, in_bz, in_bo, in_mo, not_true_eq_false, not_false_eq_true, il_0, il_1, il_2, il_3, il_4, il_5, il_6, il_7, il_8, il_9, il_10, il_11, il_12, il_13, il_14, il_15, il_16, il_31, il_128] at c1 c2) <;> omega)
      exact h
    · have fo := hC.2.2.2.1 (8 + i) (by omega)
      have fl := hW.2.2.2.2.1 (8 + i)
      have e1 : hs_of (ws_ob s) a (i + 1) = hs_of (ws_ob s) a i ||| (if ws_ob s (8 + i) = a + 1 then 2 ^ (i / 8) else 0) := rfl
      rw [e1] at ih
      refine sg_69_5 ho (fun c1 => by exfalso; (try simp (disch := omega) only [in_lt, in_le, in_eq, in_add, in_mul, in_sb, in_cl, in_bz, in_bo, in_mo, not_true_eq_false, not_false_eq_true, il_0, il_1, il_2, il_3, il_4, il_5, il_6, il_7, il_8, il_9, il_10, il_11, il_12, il_13, il_14, il_15, il_16, il_31, il_128] at c1) <;> omega) (fun c1 => by (try simp (disch := omega) only [in_lt, in_le, in_eq, in_add, in_mul, in_sb, in_cl, in_bz, in_bo, in_mo, not_true_eq_false, not_false_eq_true, il_0, il_1, il_2, il_3, il_4, il_5, il_6, il_7, il_8, il_9, il_10, il_11, il_12, il_13, il_14, il_15, il_16, il_31, il_128] at c1 ⊢) <;> exact me_vin (by omega) (by omega)) (fun c1 c2 => ?_) (fun c1 c2 => ?_)
      · rw [in_cl (by omega), fo, in_oeq (by omega) (by omega)] at c2
        have e3 : nI (8 + i) / 8 = nI (i / 8 + 1) := by
          have h8 : nI (8 + i) / nI 8 = nI ((8 + i) / 8) := pk_div (by omega) (by omega) (by omega)
          rw [il_8, h8, show (8 + i) / 8 = i / 8 + 1 by omega]
        rw [e3]
        refine sp_161 (by omega) (by omega) (sg_69_32 ho ?_)
        rw [if_pos c2] at ih
        rw [in_or, in_a1]
        exact ih
      · rw [in_cl (by omega), fo, in_oeq (by omega) (by omega)] at c2
        rw [if_neg c2, Nat.or_zero] at ih
        rw [in_a1]
        exact ih
  exact hl 0 (by omega)
theorem sc_111 (C : ic y M) {x1 x2 x3 : Int32} (h : ∀ M', cq y M M' → Q (some (.int (an_111 y x1 x2 x3))) M') : px_T 0 111 0 [some (.ref 0), some (.int x1), some (.int x2), some (.int x3), none, none] [] M Q := by
  refine sg_111_0 (sc_154 (fun p k hp hk p1 p2 k1 g1a g1 => ?_) (fun g1 => sg_111_5 (fun c1 => absurd c1 (by decide)) (fun c1 => by have h9 := h _ (cq_rf C); rw [(show an_111 y x1 x2 x3 = -2 from by (unfold an_111; simp only [g1, Bool.and_false, Bool.false_and, Bool.false_eq_true, if_false]))] at h9; exact h9)))
  refine sg_111_5 (fun c1 => sc_152 C (fun t ht t1 g2 => ?_) (fun g2 => sg_111_13 (fun c1 => absurd c1 (by decide)) (fun c1 => by have h9 := h _ (cq_rf C); rw [(show an_111 y x1 x2 x3 = -2 from by (unfold an_111; simp only [g2, Bool.and_false, Bool.false_and, Bool.false_eq_true, if_false]))] at h9; exact h9))) (fun c1 => absurd rfl c1)
  refine sg_111_13 (fun c1 => ?_) (fun c1 => absurd rfl c1)
  subst hp hk ht
  have hn := ic_n C
  have ev : an_111 y (nI p) (nI k) (nI t) = vl_111 (iv_rn y t) p k := by unfold an_111; simp (disch := omega) only [g1, g1a, g2, in_cl, Bool.and_true, if_true]
  rw [ev] at h
  refine sc_11 C t1 (fun M1 q1 hF => ?_)
  have hC := hF.2.1
  have hW := iv_rnW C.1 t1
  have hT := iv_rnT C.1 t1
  have hm := iv_rnm C.1 t1
  generalize iv_rn y t = s at h hC hW hT hm
  refine sg_111_27 (Or.inl rfl) (sw_68 (Or.inl rfl) hC (by omega) (by omega) ?_)
  have h2 := h M1 q1
  have fl := hW.2.2.2.2.1 (8 * p + k)
  unfold vl_111 at h2
  refine sg_111_36 (Or.inl rfl) (fun c => ?_) (fun c => ?_)
  · simp (disch := omega) only [in_lt, in_le, in_eq, in_add, in_mul, in_sb, in_cl, in_bz, in_bo, in_mo, not_true_eq_false, not_false_eq_true, il_0, il_1, il_2, il_3, il_4, il_5, il_6, il_7, il_8, il_9, il_10, il_11, il_12, il_13, il_14, il_15, il_16, il_31, in_omg] at c
    obtain ⟨w, hw⟩ : ∃ w, ws_ob s (8 * p + k) = w + 1 := ⟨ws_ob s (8 * p + k) - 1, by omega⟩
    rw [if_neg c, hw, Nat.add_sub_cancel] at h2
    rw [hw, nI_pred]
    exact sw_69 (Or.inl rfl) hC hW hm (by omega) (sg_111_54 h2)
  · simp (disch := omega) only [in_lt, in_le, in_eq, in_add, in_mul, in_sb, in_cl, in_bz, in_bo, in_mo, not_true_eq_false, not_false_eq_true, il_0, il_1, il_2, il_3, il_4, il_5, il_6, il_7, il_8, il_9, il_10, il_11, il_12, il_13, il_14, il_15, il_16, il_31, in_omg] at c
    rw [if_pos (Decidable.not_not.mp c)] at h2
    exact h2
theorem sc_164l {p : Nat} (p1 : 1 ≤ p) (p2 : p ≤ 15) {b : Bool} {d3 : Option Value} : ∀ (n t : Nat) (N : px_Mem), t + n = iv_n y + 1 → ic y N → (∀ M', cq y N M' → Q (some (.int (vl_ft (fun t => (ws_al (iv_rn y t)).testBit p == b) n t))) M') → px_T 0 164 3 [some (.ref 0), some (.int (nI p)), some (.int (in_b b)), d3, some (.int (nI t))] [] N Q
  | 0, t, N, ht, C, h => by
    have hn := ic_n C
    refine sg_164_3 (sp_53 (Or.inl rfl) C.2.1 ?_)
    refine sg_164_12 (fun c1 => ?_) (fun c1 => by exfalso; (try simp (disch := omega) only [in_lt, in_le, in_eq, in_add, in_mul, in_sb, in_cl, in_bz, in_bo, in_mo, not_true_eq_false, not_false_eq_true, il_0, il_1, il_2, il_3, il_4, il_5, il_6, il_7, il_8, il_9, il_10, il_11, il_12, il_13, il_14, il_15, il_16, il_31] at c1) <;> omega)
    exact h N (cq_rf C)
  | n + 1, t, N, ht, C, h => by
    have hn := ic_n C
    refine sg_164_3 (sp_53 (Or.inl rfl) C.2.1 ?_)
    refine sg_164_12 (fun c1 => by exfalso; (try simp (disch := omega) only [in_lt, in_le, in_eq, in_add, in_mul, in_sb, in_cl, in_bz, in_bo, in_mo, not_true_eq_false, not_false_eq_true, il_0, il_1, il_2, il_3, il_4, il_5, il_6, il_7, il_8, il_9, il_10, il_11, il_12, il_13, il_14, il_15, il_16, il_31] at c1) <;> omega) (fun c1 => ?_)
    refine sc_11 C (by omega) (fun M1 q1 hF => ?_)
    refine sg_164_24 (Or.inl rfl) (sw_63 (Or.inl rfl) hF.2.1 (iv_rnW C.1 (by omega)) p1 p2 ?_)
    have h2 := fun M' (q : cq y M1 M') => h M' (cq_tr q1 q)
    unfold vl_ft at h2
    refine sg_164_28 (fun c => ?_) (fun c => ?_)
    · have e : ((ws_al (iv_rn y t)).testBit p == b) = true := by
        generalize (ws_al (iv_rn y t)).testBit p = z at c ⊢
        cases z <;> cases b <;> first | rfl | exact absurd c (by decide)
      rw [e, if_pos rfl] at h2
      exact h2 M1 (cq_rf (ic_cq C q1))
    · have e : ((ws_al (iv_rn y t)).testBit p == b) = false := by
        generalize (ws_al (iv_rn y t)).testBit p = z at c ⊢
        cases z <;> cases b <;> first | rfl | exact absurd rfl c
      rw [e, if_neg (by decide)] at h2
      rw [in_a1]
      exact sc_164l p1 p2 n (t + 1) M1 (by omega) (ic_cq C q1) h2
theorem sc_101 (C : ic y M) {x1 : Int32} (h : ∀ M', cq y M M' → Q (some (.int (an_101 y x1))) M') : px_T 0 101 0 [some (.ref 0), some (.int x1)] [] M Q := by
  unfold an_101 at h
  refine sg_101_0 (sc_153 (fun p hp p1 p2 g1 => ?_) (fun g1 => sg_101_4 (fun c => absurd c (by decide)) (fun _ => ?_)))
  · subst hp
    refine sg_101_4 (fun _ => sc_151 C (fun g2 => sg_101_11 (fun _ => ?_) (fun c => absurd rfl c)) (fun g2 => sg_101_11 (fun c => absurd c (by decide)) (fun _ => ?_))) (fun c => absurd rfl c)
    · rw [g1, decide_eq_true g2, Bool.true_and, if_pos rfl, in_cl (by omega)] at h
      refine sg_164_0 (sc_164l (b := true) p1 p2 (iv_n y + 1) 0 M (by omega) C (fun M1 q1 => sg_101_24 ?_))
      have h9 := h M1 q1
      rw [vl_101, show (fun t => (ws_al (iv_rn y t)).testBit p) = (fun t => (ws_al (iv_rn y t)).testBit p == true) from funext (fun t => by cases (ws_al (iv_rn y t)).testBit p <;> rfl)] at h9
      exact h9
    · have h9 := h _ (cq_rf C)
      rw [decide_eq_false (fun q => q g2), Bool.false_and, if_neg (by decide)] at h9
      exact h9
  · have h9 := h _ (cq_rf C)
    rw [g1, Bool.and_false, if_neg (by decide)] at h9
    exact h9
theorem sc_102 (C : ic y M) {x1 : Int32} (h : ∀ M', cq y M M' → Q (some (.int (an_102 y x1))) M') : px_T 0 102 0 [some (.ref 0), some (.int x1), none] [] M Q := by
  unfold an_102 at h
  have hn := ic_n C
  refine sg_102_0 (sc_153 (fun p hp p1 p2 g1 => ?_) (fun g1 => sg_102_4 (fun c => absurd c (by decide)) (fun _ => ?_)))
  · subst hp
    refine sg_102_4 (fun _ => sc_151 C (fun g2 => sg_102_11 (fun _ => ?_) (fun c => absurd rfl c)) (fun g2 => sg_102_11 (fun c => absurd c (by decide)) (fun _ => ?_))) (fun c => absurd rfl c)
    · rw [g1, decide_eq_true g2, Bool.true_and, if_pos rfl, in_cl (by omega)] at h
      have e0 : (fun t => (ws_al (iv_rn y t)).testBit p) = (fun t => (ws_al (iv_rn y t)).testBit p == true) := funext (fun t => by cases (ws_al (iv_rn y t)).testBit p <;> rfl)
      have e2 : (fun t => !(ws_al (iv_rn y t)).testBit p) = (fun t => (ws_al (iv_rn y t)).testBit p == false) := funext (fun t => by cases (ws_al (iv_rn y t)).testBit p <;> rfl)
      unfold vl_102 vl_101 at h
      rw [e0, e2] at h
      refine sg_164_0 (sc_164l (b := true) p1 p2 (iv_n y + 1) 0 M (by omega) C (fun M1 q1 => ?_))
      rcases vl_ft_or (fun t => (ws_al (iv_rn y t)).testBit p == true) (iv_n y + 1) 0 with e | ⟨u, u1, u2, e⟩
      · rw [e] at h ⊢
        rw [if_pos rfl] at h
        exact sg_102_24 (fun c => absurd c (by decide)) (fun _ => h M1 q1)
      · rw [e] at h ⊢
        rw [if_neg (in_nm (by omega)), in_cl (by omega)] at h
        refine sg_102_24 (fun _ => ?_) (fun c => absurd (nI_le (a := 0) (by omega) (by omega)) c)
        exact sg_164_0 (sc_164l (b := false) p1 p2 (iv_n y + 1 - u) u M1 (by omega) (ic_cq C q1) (fun M2 q2 => sg_102_40 (h M2 (cq_tr q1 q2))))
    · have h9 := h _ (cq_rf C)
      rw [decide_eq_false (fun q => q g2), Bool.false_and, if_neg (by decide)] at h9
      exact h9
  · have h9 := h _ (cq_rf C)
    rw [g1, Bool.and_false, if_neg (by decide)] at h9
    exact h9
end Q47
