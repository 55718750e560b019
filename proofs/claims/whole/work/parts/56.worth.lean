/-! worth, drawn, luck -/
def wk (y : iv_Y) (set : Nat) : Nat → Bool := fun e => decide ((iv_ev y e).2.1 ≠ 1) && !set.testBit ((iv_ev y e).2.1 - 1)
def tr_w (y : iv_Y) (set : Nat) : Nat := pcA (tr_s y (iv_lw y) (wk y set))
def an_134 (y : iv_Y) (x1 : Int32) : Int32 := if (decide (iv_ln y ≠ 0) && rg x1 0 32767) = true then nI (tr_w y x1.toNatClampNeg) else -2
def dr_x (x : Int64) : Int64 := ((1103515245 * x) + 12345) - ((1103515245 * x) + 12345) / 2147483648 * 2147483648
def dr_i (od : Nat) (x : Int64) : Bool := decide ((0 : Int32) ≤ lg_cmp ((dr_x x / 65536) - (dr_x x / 65536) / 10 * 10) (nI od).toInt64)
def dr_s (x : Int64) : Nat → Int64
  | 0 => x
  | e + 1 => dr_x (dr_s x e)
def dr_k (y : iv_Y) (x : Int64) : Nat → Bool := fun e => !dr_i (iv_od y) (dr_s x e)
def dr_t (y : iv_Y) (x : Int64) : ws_S := tr_s y (iv_lw y) (dr_k y x)
def an_143 (y : iv_Y) (x1 x2 : Int32) : Int32 := if (decide (iv_ln y ≠ 0) && (rg x1 0 2000000000 && rg x2 0 1)) = true then (if x2 = 0 then nI (fb_ct (dr_k y x1.toInt64) (iv_n y)) else nI (pcA (dr_t y x1.toInt64))) else -2
def an_144 (y : iv_Y) (x1 x2 x3 : Int32) : Int32 := if (decide (iv_ln y ≠ 0) && (rg x1 0 2000000000 && (rg x2 1 20 && rg x3 1 15))) = true then nI (fb_ct (fun i => (ws_al (dr_t y (x1.toInt64 + (nI i).toInt64))).testBit x3.toNatClampNeg) x2.toNatClampNeg) else -2
section W56
variable {M M1 M2 : px_Mem} {Q : px_Po} {y : iv_Y} {law : Nat}
theorem wk_bit {set p : Nat} (p1 : 1 ≤ p) (p2 : p ≤ 15) : nI (set ||| 1) &&& nI (2 ^ (p - 1)) = 0 ↔ (decide (p ≠ 1) && !set.testBit (p - 1)) = true := by
  have h1 : nI (set ||| 1) &&& nI (2 ^ (p - 1)) = 0 ↔ (set ||| 1).testBit (p - 1) = false := fa_bit (by omega)
  have h2 : (set ||| 1).testBit (p - 1) = (set.testBit (p - 1) || decide (p - 1 = 0)) := fb_bit_set set 0 (p - 1)
  rw [h1, h2]
  by_cases h : p = 1
  · subst h
    simp
  · rw [decide_eq_false (show ¬ p - 1 = 0 by omega), decide_eq_true (show p ≠ 1 from h), Bool.or_false, Bool.true_and]
    cases set.testBit (p - 1) <;> simp
theorem sc_169 (C : ic y M) {set : Nat} (hs : set < 2 ^ 15) (h : ∀ M', cq y M M' → Q (some (.int (nI (tr_w y set)))) M') : px_T 0 169 0 [some (.ref 0), some (.int (nI set)), none, none, none] [] M Q := by
  refine sg_169_0 (sc_60 C (fun M1 q1 hC => sg_169_7 ?_))
  rw [il_1, in_or]
  have hl : ∀ (n e : Nat) (N : px_Mem) (d4 : Option Value), e + n = iv_n y → cq y M N → ws_C (ws_run (iv_lw y) (iv_ev y) (wk y set) e) 47 N → px_T 0 169 13 [some (.ref 0), some (.int (nI set)), some (.int (nI (set ||| 1))), some (.int (nI e)), d4] [] N Q := by
    intro n
    induction n with
    | zero =>
      intro e N d4 he q hC
      have C1 := ic_cq C q
      have hn := ic_n C1
      have e1 : e = iv_n y := by omega
      subst e1
      refine sg_169_13 (sp_53 (Or.inl rfl) C1.2.1 ?_)
      refine sg_169_21 (fun c1 => ?_) (fun c1 => by exfalso; (try simp (disch := omega) only [in_lt, in_le, in_eq, in_add, in_mul, in_sb, in_cl, in_bz, in_bo, in_mo, not_true_eq_false, not_false_eq_true, il_0, il_1, il_2, il_3, il_4, il_5, il_6, il_7, il_8, il_9, il_10, il_11, il_12, il_13, il_14, il_15, il_16, il_31] at c1) <;> omega)
      exact sc_bc hC (trW C1.1 (Nat.le_refl _)) (sg_169_81 (h N q))
    | succ n ih =>
      intro e N d4 he q hC
      have C1 := ic_cq C q
      have hn := ic_n C1
      have hok := C1.1.2.2.2.2.2 e (by omega)
      have hb := iv_okb hok
      refine sg_169_13 (sp_53 (Or.inl rfl) C1.2.1 ?_)
      refine sg_169_21 (fun c1 => by exfalso; (try simp (disch := omega) only [in_lt, in_le, in_eq, in_add, in_mul, in_sb, in_cl, in_bz, in_bo, in_mo, not_true_eq_false, not_false_eq_true, il_0, il_1, il_2, il_3, il_4, il_5, il_6, il_7, il_8, il_9, il_10, il_11, il_12, il_13, il_14, il_15, il_16, il_31] at c1) <;> omega) (fun c1 => ?_)
      refine sp_54 (Or.inl rfl) C1.2.1 (by omega) hn (sg_169_32 (sp_3a hok (sg_169_41 (sp_161 hb.2.1 (by omega) ?_))))
      refine sg_169_44 (fun c => ?_) (fun c => ?_)
      · rw [wk_bit hb.2.1 hb.2.2.1] at c
        rw [in_a1]
        exact ih (e + 1) N _ (by omega) q (by rw [ws_run_k (show wk y set e = true from c)]; exact hC)
      · rw [wk_bit hb.2.1 hb.2.2.1, Bool.not_eq_true] at c
        rw [C1.2.1.2.1]
        refine sc_73 C1 hC (trW C1.1 (by omega)) (trm C1.1 (by omega)) C1.1.1 hok (fun M2 q2 hC2 => sg_169_64 ?_)
        rw [in_a1]
        exact ih (e + 1) M2 _ (by omega) (cq_tr q q2) (by rw [ws_run_s (show wk y set e = false from c)]; exact hC2)
  exact hl (iv_n y) 0 M1 _ (by omega) q1 hC
theorem sc_134 (C : ic y M) {x1 : Int32} (h : ∀ M', cq y M M' → Q (some (.int (an_134 y x1))) M') : px_T 0 134 0 [some (.ref 0), some (.int x1)] [] M Q := by
  unfold an_134 at h
  refine sg_134_0 (fun c => ?_) (fun c d => ?_) (fun c d => ?_)
  · rw [fa_lt, Int32.toInt_zero] at c
    have h9 := h M (cq_rf C)
    rw [rg_f (Or.inl c), Bool.and_false, if_neg (by decide)] at h9
    exact h9
  · rw [fa_lt, show (32767 : Int32).toInt = 32767 from rfl] at d
    have h9 := h M (cq_rf C)
    rw [rg_f (Or.inr (by omega)), Bool.and_false, if_neg (by decide)] at h9
    exact h9
  · obtain ⟨k, hk, rfl⟩ := nI_of c
    simp (disch := omega) only [in_lt, in_le, in_eq, in_add, in_mul, in_sb, in_cl, in_bz, in_bo, in_mo, not_true_eq_false, not_false_eq_true, il_0, il_1, il_2, il_3, il_4, il_5, il_6, il_7, il_8, il_9, il_10, il_11, il_12, il_13, il_14, il_15, il_16, il_31, il_32767] at d
    rw [rg_n hk, show decide ((0 : Int) ≤ (k : Int) ∧ (k : Int) ≤ 32767) = true from decide_eq_true (by omega), Bool.and_true, in_cl hk] at h
    refine sc_151 C (fun g => sg_134_15 (fun _ => ?_) (fun c => absurd rfl c)) (fun g => sg_134_15 (fun c => absurd c (by decide)) (fun _ => ?_))
    · rw [if_pos (decide_eq_true g)] at h
      exact sc_169 C (by omega) (fun M1 q1 => sg_134_26 (h M1 q1))
    · rw [if_neg (by rw [decide_eq_false (fun q => q g)]; decide)] at h
      exact h M (cq_rf C)
/-- who is left out is written, event by event -/
theorem rf_L_w {n e : Nat} {ev : Nat → ws_E} {lf : Nat → Bool} {b : Bool} (L : rf_L n law ev lf M) : rf_L n law ev (fun i => if i = e then b else lf i) (px_wI M 67 e (in_b b)) := by
  obtain ⟨l1, l2, l3⟩ := L
  refine ⟨?_, ?_, fun i hi => ?_⟩
  · simp (disch := omega) only [me_II, me_Ii, me_Io, me_I2, me_L1, me_Li, me_LL, me_Lo, me_As, me_Ao, me_A2, me_Bs, me_Bo, me_B1]; exact l1
  · simp (disch := omega) only [me_II, me_Ii, me_Io, me_I2, me_L1, me_Li, me_LL, me_Lo, me_As, me_Ao, me_A2, me_Bs, me_Bo, me_B1]; exact l2
  · obtain ⟨a1, a2, a3, a4, a5⟩ := l3 i hi
    refine ⟨?_, ?_, ?_, ?_, ?_⟩
    · simp (disch := omega) only [me_II, me_Ii, me_Io, me_I2, me_L1, me_Li, me_LL, me_Lo, me_As, me_Ao, me_A2, me_Bs, me_Bo, me_B1]; exact a1
    · simp (disch := omega) only [me_II, me_Ii, me_Io, me_I2, me_L1, me_Li, me_LL, me_Lo, me_As, me_Ao, me_A2, me_Bs, me_Bo, me_B1]; exact a2
    · simp (disch := omega) only [me_II, me_Ii, me_Io, me_I2, me_L1, me_Li, me_LL, me_Lo, me_As, me_Ao, me_A2, me_Bs, me_Bo, me_B1]; exact a3
    · simp (disch := omega) only [me_II, me_Ii, me_Io, me_I2, me_L1, me_Li, me_LL, me_Lo, me_As, me_Ao, me_A2, me_Bs, me_Bo, me_B1]; exact a4
    · dsimp only
      by_cases hie : i = e
      · subst hie
        rw [me_II, if_pos rfl]
      · rw [me_Ii hie, if_neg hie]
        exact a5
theorem nar_b (b : Bool) : (if b = true then vp_nar .boolean 1 else vp_nar .boolean 0) = in_b b := by cases b <;> rfl
theorem nar_1 : vp_nar .boolean 1 = in_b true := rfl
theorem nar_0 : vp_nar .boolean 0 = in_b false := rfl
theorem lf_s {sk lf0 : Nat → Bool} {e : Nat} : (fun i => if i = e then sk e else (if i < e then sk i else lf0 i)) = (fun i => if i < e + 1 then sk i else lf0 i) := by
  funext i
  by_cases h : i = e
  · subst h
    rw [if_pos rfl, if_pos (by omega)]
  · rw [if_neg h]
    by_cases h2 : i < e
    · rw [if_pos h2, if_pos (by omega)]
    · rw [if_neg h2, if_neg (by omega)]
theorem sr_304 (hy : iv_yok y) {set : Nat} {lf0 : Nat → Bool} (hs : set < 2 ^ 16) (L : rf_L (iv_n y) (iv_lw y) (iv_ev y) lf0 M) (h : ∀ M', rq M M' → rf_L (iv_n y) (iv_lw y) (iv_ev y) (wk y set) M' → Q (some (.int (nI (tr_w y set)))) M') : px_T 0 304 0 [some (.ref 56), some (.int (nI set)), none] [] M Q := by
  have hn := iv_yn hy
  refine sg_304_0 ?_
  have hl : ∀ (n e : Nat) (N : px_Mem), e + n = iv_n y → rq M N → rf_L (iv_n y) (iv_lw y) (iv_ev y) (fun i => if i < e then wk y set i else lf0 i) N → px_T 0 304 2 [some (.ref 56), some (.int (nI set)), some (.int (nI e))] [] N Q := by
    intro n
    induction n with
    | zero =>
      intro e N he q L
      have f := L.1
      have e1 : e = iv_n y := by omega
      subst e1
      have L2 : rf_L (iv_n y) (iv_lw y) (iv_ev y) (wk y set) N := rf_L_cong L (fun e he => ⟨rfl, if_pos he⟩)
      refine sg_304_2 (fun c1 => ?_) (fun c1 => by exfalso; (try simp (disch := omega) only [in_lt, in_le, in_eq, in_add, in_mul, in_sb, in_cl, in_bz, in_bo, in_mo, not_true_eq_false, not_false_eq_true, il_0, il_1, il_2, il_3, il_4, il_5, il_6, il_7, il_8, il_9, il_10, il_11, il_12, il_13, il_14, il_15, il_16, il_31, f] at c1) <;> omega) (fun c1 c2 => by exfalso; (try simp (disch := omega) only [in_lt, in_le, in_eq, in_add, in_mul, in_sb, in_cl, in_bz, in_bo, in_mo, not_true_eq_false, not_false_eq_true, il_0, il_1, il_2, il_3, il_4, il_5, il_6, il_7, il_8, il_9, il_10, il_11, il_12, il_13, il_14, il_15, il_16, il_31, f] at c1 c2) <;> omega) (fun c1 c2 => by exfalso; (try simp (disch := omega) only [in_lt, in_le, in_eq, in_add, in_mul, in_sb, in_cl, in_bz, in_bo, in_mo, not_true_eq_false, not_false_eq_true, il_0, il_1, il_2, il_3, il_4, il_5, il_6, il_7, il_8, il_9, il_10, il_11, il_12, il_13, il_14, il_15, il_16, il_31, f] at c1 c2) <;> omega)
      refine sr_223 L2 (by omega) hy.1 (fun e he => hy.2.2.2.2.2 e he) (fun M2 k2 A2 => sg_304_56 ?_)
      have L3 := rf_L_gq L2 k2
      rw [L3.1]
      have hW : ws_W (tr_s y (iv_lw y) (wk y set)) := trW hy (Nat.le_refl _)
      refine sr_230 (s := tr_s y (iv_lw y) (wk y set)) (A2.1 _ (Nat.le_refl _)) hW.1.1 (by omega) (sg_304_64 ?_)
      rw [pc_al hW.1.2.2.1]
      exact h M2 (rq_tr q (rq_g k2)) L3
    | succ n ih =>
      intro e N he q L
      have f := L.1
      obtain ⟨_, f2, _⟩ := L.2.2 e (by omega)
      have hb := iv_okb (hy.2.2.2.2.2 e (by omega))
      have fin : ∀ b : Bool, wk y set e = b → px_T 0 304 2 [some (.ref 56), some (.int (nI set)), some (.int (nI e + 1))] [] (px_wI N 67 e (in_b b)) Q := by
        intro b hbk
        rw [in_a1]
        refine ih (e + 1) _ (by omega) (rq_I q (by omega) (by omega)) ?_
        have L2 := rf_L_w (e := e) (b := wk y set e) L
        rw [lf_s, hbk] at L2
        exact L2
      refine sg_304_2 (fun c1 => by exfalso; (try simp (disch := omega) only [in_lt, in_le, in_eq, in_add, in_mul, in_sb, in_cl, in_bz, in_bo, in_mo, not_true_eq_false, not_false_eq_true, il_0, il_1, il_2, il_3, il_4, il_5, il_6, il_7, il_8, il_9, il_10, il_11, il_12, il_13, il_14, il_15, il_16, il_31, f, f2] at c1) <;> omega) (fun c1 => by (try simp (disch := omega) only [in_lt, in_le, in_eq, in_add, in_mul, in_sb, in_cl, in_bz, in_bo, in_mo, not_true_eq_false, not_false_eq_true, il_0, il_1, il_2, il_3, il_4, il_5, il_6, il_7, il_8, il_9, il_10, il_11, il_12, il_13, il_14, il_15, il_16, il_31, f, f2] at c1 ⊢) <;> exact me_vin (by omega) (by omega)) (fun c1 c2 => ?_) (fun c1 c2 => ?_)
      · rw [in_cl (by omega), f2] at c2
        simp (disch := omega) only [in_lt, in_le, in_eq, in_add, in_mul, in_sb, in_cl, in_bz, in_bo, in_mo, not_true_eq_false, not_false_eq_true, il_0, il_1, il_2, il_3, il_4, il_5, il_6, il_7, il_8, il_9, il_10, il_11, il_12, il_13, il_14, il_15, il_16, il_31] at c2
        rw [in_cl (by omega), nar_0]
        exact fin false (by unfold wk; rw [decide_eq_false (fun q => q c2)]; rfl)
      · rw [in_cl (by omega), f2] at c2
        simp (disch := omega) only [in_lt, in_le, in_eq, in_add, in_mul, in_sb, in_cl, in_bz, in_bo, in_mo, not_true_eq_false, not_false_eq_true, il_0, il_1, il_2, il_3, il_4, il_5, il_6, il_7, il_8, il_9, il_10, il_11, il_12, il_13, il_14, il_15, il_16, il_31] at c2
        rw [in_cl (by omega), f2, in_s1 hb.2.1]
        refine sr_177 (by omega) (by omega) ?_
        refine sg_304_37 (fun _ => me_vin (by omega) (by omega)) (fun c => ?_) (fun _ => me_vin (by omega) (by omega)) (fun c => ?_)
        · rw [in_b0] at c
          rw [in_cl (by omega), nar_1]
          exact fin true (by unfold wk; rw [c, decide_eq_true c2]; rfl)
        · rw [in_b0, Bool.not_eq_false] at c
          rw [in_cl (by omega), nar_0]
          exact fin false (by unfold wk; rw [c, decide_eq_true c2]; rfl)
  refine hl (iv_n y) 0 M (by omega) rq_rf (rf_L_cong L (fun e he => ⟨rfl, (if_neg (Nat.not_lt_zero e)).symm⟩))
theorem sr_305 (R : ir y M) {x1 : Int32} (h : ∀ M', rq M M' → Q (some (.int (an_134 y x1))) M') : px_T 0 305 0 [some (.ref 56), some (.int x1)] [] M Q := by
  unfold an_134 at h
  refine sg_305_0 (sr_209 R (fun M1 k1 L1 => sg_305_4 (sr_180 (ir_rq R (rq_l k1)) (sg_305_8 (fun c => ?_) (fun c => sr_175i (a := 0) (b := 32767) (by omega) (by omega) (sg_305_20 (fun d => ?_) (fun d => ?_)))))))
  · rw [in_b0] at c
    rw [c, Bool.false_and, if_neg (by decide)] at h
    exact h M1 (rq_l k1)
  · rw [in_b0] at d
    have d2 : rg x1 0 32767 = false := d
    rw [d2, Bool.and_false, if_neg (by decide)] at h
    exact h M1 (rq_l k1)
  · rw [in_b0, Bool.not_eq_false] at c d
    have d2 : rg x1 0 32767 = true := d
    rw [c, d2, Bool.true_and, if_pos rfl] at h
    obtain ⟨k, rfl, k3, k4⟩ := rg_of d2 (by omega) (by omega)
    rw [in_cl (by omega)] at h
    exact sr_304 R.1 (by omega) L1 (fun M2 q2 _ => sg_305_28 (h M2 (rq_tr (rq_l k1) q2)))
/-! drawn -/
theorem sc_174 (C : ic y M) {x : Int64} (h : ∀ M', cq y M M' → ws_C (dr_t y x) 47 M' → Q (some (.int (nI (fb_ct (dr_k y x) (iv_n y))))) M') : px_T 0 174 0 [some (.ref 0), some (.long x), none, none, none, none, none] [] M Q := by
  refine sg_174_0 (sc_60 C (fun M1 q1 hC => sg_174_7 ?_))
  have hl : ∀ (n e : Nat) (N : px_Mem), e + n = iv_n y → cq y M N → ws_C (ws_run (iv_lw y) (iv_ev y) (dr_k y x) e) 47 N → px_T 0 174 15 [some (.ref 0), some (.long x), none, some (.long (dr_s x e)), none, some (.int (nI (fb_ct (dr_k y x) e))), some (.int (nI e))] [] N Q := by
    intro n
    induction n with
    | zero =>
      intro e N he q hC
      have C1 := ic_cq C q
      have hn := ic_n C1
      have e1 : e = iv_n y := by omega
      subst e1
      refine sg_174_15 (sp_53 (Or.inl rfl) C1.2.1 ?_)
      have hle : nI (iv_n y) ≤ nI (iv_n y) := nI_le (Nat.le_refl _) (by omega)
      exact sg_174_24 (fun _ => h N q hC) (fun c => absurd hle c) (fun c => absurd hle c)
    | succ n ih =>
      intro e N he q hC
      have C1 := ic_cq C q
      have hn := ic_n C1
      have fo := C1.2.1.2.2.1
      have hlt : ¬ nI (iv_n y) ≤ nI e := fun q => by rw [in_le (by omega) (by omega)] at q; omega
      refine sg_174_15 (sp_53 (Or.inl rfl) C1.2.1 ?_)
      refine sg_174_24 (fun c => absurd c hlt) (fun _ c => ?_) (fun _ c => ?_)
      · rw [fo] at c
        have hk : dr_k y x e = false := by
          show (!dr_i (iv_od y) (dr_s x e)) = false
          rw [show dr_i (iv_od y) (dr_s x e) = true from decide_eq_true c]
          rfl
        refine sp_54 (Or.inl rfl) C1.2.1 (by omega) hn (sg_174_81 ?_)
        rw [C1.2.1.2.1]
        refine sc_73 C1 hC (trW C1.1 (by omega)) (trm C1.1 (by omega)) C1.1.1 (C1.1.2.2.2.2.2 e (by omega)) (fun M2 q2 hC2 => sg_174_91 ?_)
        have ih2 := ih (e + 1) M2 (by omega) (cq_tr q q2) (by rw [ws_run_s hk]; exact hC2)
        rw [ct_n hk] at ih2
        rw [in_a1]
        exact ih2
      · rw [fo] at c
        have hk : dr_k y x e = true := by
          show (!dr_i (iv_od y) (dr_s x e)) = true
          rw [show dr_i (iv_od y) (dr_s x e) = false from decide_eq_false c]
          rfl
        have ih2 := ih (e + 1) N (by omega) q (by rw [ws_run_k hk]; exact hC)
        rw [ct_y hk] at ih2
        rw [in_a1, in_a1]
        exact ih2
  exact hl (iv_n y) 0 M1 (by omega) q1 hC
theorem sr_322 (R : ir y M) {x : Int64} (h : ∀ M', rq M M' → M'.1 56 20 = nI (iv_n y) → rt_at (dr_t y x) (iv_n y) M' → Q (some (.int (nI (fb_ct (dr_k y x) (iv_n y))))) M') : px_T 0 322 0 [some (.ref 56), some (.long x), none, none, none, none, none] [] M Q := by
  have hn := iv_yn R.1
  refine sg_322_0 (sr_209 R (fun M1 k1 L1 => sg_322_4 ?_))
  have hl : ∀ (n e : Nat) (N : px_Mem), e + n = iv_n y → rq M N → rf_L (iv_n y) (iv_lw y) (iv_ev y) (fun i => if i < e then dr_k y x i else false) N → px_T 0 322 12 [some (.ref 56), some (.long x), none, some (.long (dr_s x e)), none, some (.int (nI (fb_ct (dr_k y x) e))), some (.int (nI e))] [] N Q := by
    intro n
    induction n with
    | zero =>
      intro e N he q L
      have f := L.1
      have e1 : e = iv_n y := by omega
      subst e1
      have L2 : rf_L (iv_n y) (iv_lw y) (iv_ev y) (dr_k y x) N := rf_L_cong L (fun e he => ⟨rfl, if_pos he⟩)
      have hle : N.1 56 20 ≤ nI (iv_n y) := by rw [f]; exact nI_le (Nat.le_refl _) (by omega)
      refine sg_322_12 (fun _ => ?_) (fun c => absurd hle c) (fun c => absurd hle c) (fun c => absurd hle c) (fun c => absurd hle c)
      refine sr_223 L2 (by omega) R.1.1 (fun e he => R.1.2.2.2.2.2 e he) (fun M2 k2 A2 => sg_322_97 (h M2 (rq_tr q (rq_g k2)) (rf_L_gq L2 k2).1 (A2.1 _ (Nat.le_refl _))))
    | succ n ih =>
      intro e N he q L
      have f := L.1
      have R1 := ir_rq R q
      have fo : N.1 57 1 = nI (iv_od y) := R1.2.2.1
      have hlt : ¬ N.1 56 20 ≤ nI e := fun q => by rw [f, in_le (by omega) (by omega)] at q; omega
      have fin : ∀ b : Bool, dr_k y x e = b → px_T 0 322 67 [some (.ref 56), some (.long x), none, some (.long (dr_x (dr_s x e))), none, some (.int (nI (fb_ct (dr_k y x) e))), some (.int (nI e))] [] (px_wI N 67 e (in_b b)) Q := by
        intro b hb
        have L2 := rf_L_w (e := e) (b := dr_k y x e) L
        rw [lf_s, hb] at L2
        have ih2 := ih (e + 1) _ (by omega) (rq_I q (a := 67) (i := e) (x := in_b b) (by omega) (by omega)) L2
        refine sg_322_67 (me_vin (by omega) (by omega)) (fun c => ?_) (fun c => ?_)
        · rw [in_cl (by omega), me_II, in_b0] at c
          rw [ct_n (hb.trans c)] at ih2
          rw [il_0, in_add, in_a1]
          exact ih2
        · rw [in_cl (by omega), me_II, in_b0, Bool.not_eq_false] at c
          rw [ct_y (hb.trans c)] at ih2
          rw [in_a1, in_a1]
          exact ih2
      refine sg_322_12 (fun c => absurd c hlt) (fun _ _ => me_vin (by omega) (by omega)) (fun _ c => ?_) (fun _ _ => me_vin (by omega) (by omega)) (fun _ c => ?_)
      · rw [fo] at c
        rw [in_cl (by omega), nar_0]
        refine fin false ?_
        show (!dr_i (iv_od y) (dr_s x e)) = false
        rw [show dr_i (iv_od y) (dr_s x e) = true from decide_eq_true c]
        rfl
      · rw [fo] at c
        rw [in_cl (by omega), nar_1]
        refine fin true ?_
        show (!dr_i (iv_od y) (dr_s x e)) = true
        rw [show dr_i (iv_od y) (dr_s x e) = false from decide_eq_false c]
        rfl
  exact hl (iv_n y) 0 M1 (by omega) (rq_l k1) (rf_L_cong L1 (fun e he => ⟨rfl, (if_neg (Nat.not_lt_zero e)).symm⟩))
theorem sc_143 (C : ic y M) {x1 x2 : Int32} (h : ∀ M', cq y M M' → Q (some (.int (an_143 y x1 x2))) M') : px_T 0 143 0 [some (.ref 0), some (.int x1), some (.int x2), none] [] M Q := by
  unfold an_143 at h
  have bad : (decide (iv_ln y ≠ 0) && (rg x1 0 2000000000 && rg x2 0 1)) = false → Q (some (.int (-2))) M := by
    intro hb
    have h9 := h M (cq_rf C)
    rw [hb, if_neg (by decide)] at h9
    exact h9
  refine sg_143_0 (sc_157 (fun k hk k1 g => ?_) (fun g => sg_143_4 (fun c => absurd c (by decide)) (fun c => absurd c (by decide)) (fun c => absurd c (by decide)) (fun _ => bad (by rw [g, Bool.false_and, Bool.and_false]))))
  refine sg_143_4 (fun _ c => bad ?_) (fun _ c d => bad ?_) (fun _ c d => ?_) (fun c => absurd rfl c)
  · rw [fa_lt, Int32.toInt_zero] at c
    rw [rg_f (x := x2) (Or.inl c), Bool.and_false, Bool.and_false]
  · rw [fa_lt, show (1 : Int32).toInt = 1 from rfl] at d
    rw [rg_f (x := x2) (Or.inr d), Bool.and_false, Bool.and_false]
  · have g2 : rg x2 0 1 = true := by
      rw [fa_lt, Int32.toInt_zero] at c
      rw [fa_lt, show (1 : Int32).toInt = 1 from rfl] at d
      exact decide_eq_true (by omega)
    refine sc_151 C (fun g3 => sg_143_20 (fun _ => ?_) (fun c => absurd rfl c)) (fun g3 => sg_143_20 (fun c => absurd c (by decide)) (fun _ => bad ?_))
    · rw [g, g2, decide_eq_true g3, if_pos (by decide)] at h
      refine sc_174 C (fun M1 q1 hC => ?_)
      have h9 := h M1 q1
      refine sg_143_32 (fun e => ?_) (fun e => ?_)
      · rw [if_pos e] at h9
        exact h9
      · rw [if_neg e] at h9
        exact sc_bc hC (trW C.1 (Nat.le_refl _)) (sg_143_51 h9)
    · rw [decide_eq_false (fun q => q g3), Bool.false_and]
theorem sr_323 {x : Int32} (h : Q (some (.int (in_b (rg x 0 2000000000)))) M) : px_T 0 323 0 [some (.int x)] [] M Q :=
  sg_323_0 (sr_175i (a := 0) (b := 2000000000) (by omega) (by omega) (sg_323_9 (in_b01 _) h))
theorem sr_324 (R : ir y M) {x1 x2 : Int32} (h : ∀ M', rq M M' → Q (some (.int (an_143 y x1 x2))) M') : px_T 0 324 0 [some (.ref 56), some (.int x1), some (.int x2), none] [] M Q := by
  unfold an_143 at h
  have hn := iv_yn R.1
  have bad : (decide (iv_ln y ≠ 0) && (rg x1 0 2000000000 && rg x2 0 1)) = false → Q (some (.int (-2))) M := by
    intro hb
    have h9 := h M rq_rf
    rw [hb, if_neg (by decide)] at h9
    exact h9
  refine sg_324_0 (sr_180 R (sg_324_4 (fun c => bad ?_) (fun c => sr_323 (sg_324_11 (fun d => bad ?_) (fun d => sr_175i (a := 0) (b := 1) (by omega) (by omega) (sg_324_21 (fun e => bad ?_) (fun e => ?_)))))))
  · rw [in_b0] at c
    rw [c, Bool.false_and]
  · rw [in_b0] at d
    rw [d, Bool.false_and, Bool.and_false]
  · rw [in_b0] at e
    have e2 : rg x2 0 1 = false := e
    rw [e2, Bool.and_false, Bool.and_false]
  · rw [in_b0, Bool.not_eq_false] at c d e
    have e2 : rg x2 0 1 = true := e
    rw [c, d, e2, if_pos (by decide)] at h
    refine sr_322 R (fun M1 q1 f1 A1 => ?_)
    have h9 := h M1 q1
    refine sg_324_33 (fun e => ?_) (fun e => ?_)
    · rw [if_pos e] at h9
      exact h9
    · rw [if_neg e] at h9
      rw [f1]
      have hW : ws_W (dr_t y x1.toInt64) := trW R.1 (Nat.le_refl _)
      refine sr_230 A1 hW.1.1 (by omega) (sg_324_50 ?_)
      rw [pc_al hW.1.2.2.1]
      exact h9
theorem sc_144 (C : ic y M) {x1 x2 x3 : Int32} (h : ∀ M', cq y M M' → Q (some (.int (an_144 y x1 x2 x3))) M') : px_T 0 144 0 [some (.ref 0), some (.int x1), some (.int x2), some (.int x3), none, none] [] M Q := by
  unfold an_144 at h
  have bad : (decide (iv_ln y ≠ 0) && (rg x1 0 2000000000 && (rg x2 1 20 && rg x3 1 15))) = false → Q (some (.int (-2))) M := by
    intro hb
    have h9 := h M (cq_rf C)
    rw [hb, if_neg (by decide)] at h9
    exact h9
  refine sg_144_0 (sc_157 (fun k hk k1 g => ?_) (fun g => sg_144_4 (fun c => absurd c (by decide)) (fun c => absurd c (by decide)) (fun c => absurd c (by decide)) (fun _ => bad (by rw [g, Bool.false_and, Bool.and_false]))))
  refine sg_144_4 (fun _ c => bad ?_) (fun _ c d => bad ?_) (fun _ c d => ?_) (fun c => absurd rfl c)
  · rw [fa_lt, show (1 : Int32).toInt = 1 from rfl] at c
    rw [rg_f (x := x2) (Or.inl c), Bool.false_and, Bool.and_false, Bool.and_false]
  · rw [fa_lt, show (20 : Int32).toInt = 20 from rfl] at d
    rw [rg_f (x := x2) (Or.inr d), Bool.false_and, Bool.and_false, Bool.and_false]
  · have g2 : rg x2 1 20 = true := by
      rw [fa_lt, show (1 : Int32).toInt = 1 from rfl] at c
      rw [fa_lt, show (20 : Int32).toInt = 20 from rfl] at d
      exact decide_eq_true (by omega)
    refine sc_153 (fun p hp p1 p2 g4 => sg_144_22 (fun _ => ?_) (fun c => absurd rfl c)) (fun g4 => sg_144_22 (fun c => absurd c (by decide)) (fun _ => bad (by rw [g4, Bool.and_false, Bool.and_false, Bool.and_false])))
    refine sc_151 C (fun g3 => sg_144_29 (fun _ => ?_) (fun c => absurd rfl c)) (fun g3 => sg_144_29 (fun c => absurd c (by decide)) (fun _ => bad ?_))
    · rw [g, g2, g4, decide_eq_true g3, if_pos (by decide)] at h
      subst hp
      obtain ⟨n, rfl, n1, n2⟩ := rg_of g2 (by omega) (by omega)
      rw [in_cl (by omega), in_cl (by omega)] at h
      have hl : ∀ (m i : Nat) (N : px_Mem), i + m = n → cq y M N → px_T 0 144 41 [some (.ref 0), some (.int x1), some (.int (nI n)), some (.int (nI p)), some (.int (nI (fb_ct (fun i => (ws_al (dr_t y (x1.toInt64 + (nI i).toInt64))).testBit p) i))), some (.int (nI i))] [] N Q := by
        intro m
        induction m with
        | zero =>
          intro i N hi q
          have e1 : i = n := by omega
          subst e1
          refine sg_144_41 (fun c1 => ?_) (fun c1 => by exfalso; (try simp (disch := omega) only [in_lt, in_le, in_eq, in_add, in_mul, in_sb, in_cl, in_bz, in_bo, in_mo, not_true_eq_false, not_false_eq_true, il_0, il_1, il_2, il_3, il_4, il_5, il_6, il_7, il_8, il_9, il_10, il_11, il_12, il_13, il_14, il_15, il_16, il_31] at c1) <;> omega)
          exact h N q
        | succ m ih =>
          intro i N hi q
          have C1 := ic_cq C q
          refine sg_144_41 (fun c1 => by exfalso; (try simp (disch := omega) only [in_lt, in_le, in_eq, in_add, in_mul, in_sb, in_cl, in_bz, in_bo, in_mo, not_true_eq_false, not_false_eq_true, il_0, il_1, il_2, il_3, il_4, il_5, il_6, il_7, il_8, il_9, il_10, il_11, il_12, il_13, il_14, il_15, il_16, il_31] at c1) <;> omega) (fun c1 => ?_)
          refine sc_174 C1 (fun M2 q2 hC2 => sg_144_57 (sw_63 (Or.inr rfl) hC2 (trW C1.1 (Nat.le_refl _)) p1 p2 ?_))
          have ih2 := ih (i + 1) M2 (by omega) (cq_tr q q2)
          refine sg_144_66 (fun c => ?_) (fun c => ?_)
          · rw [in_b0] at c
            rw [ct_n (p := fun i => (ws_al (dr_t y (x1.toInt64 + (nI i).toInt64))).testBit p) (n := i) c] at ih2
            rw [in_a1]
            exact ih2
          · rw [in_b0, Bool.not_eq_false] at c
            rw [ct_y (p := fun i => (ws_al (dr_t y (x1.toInt64 + (nI i).toInt64))).testBit p) (n := i) c] at ih2
            rw [in_a1, in_a1]
            exact ih2
      exact hl n 0 M (by omega) (cq_rf C)
    · rw [decide_eq_false (fun q => q g3), Bool.false_and]
theorem sr_325 (R : ir y M) {x1 x2 x3 : Int32} (h : ∀ M', rq M M' → Q (some (.int (an_144 y x1 x2 x3))) M') : px_T 0 325 0 [some (.ref 56), some (.int x1), some (.int x2), some (.int x3), none, none] [] M Q := by
  unfold an_144 at h
  have hn := iv_yn R.1
  have bad : (decide (iv_ln y ≠ 0) && (rg x1 0 2000000000 && (rg x2 1 20 && rg x3 1 15))) = false → Q (some (.int (-2))) M := by
    intro hb
    have h9 := h M rq_rf
    rw [hb, if_neg (by decide)] at h9
    exact h9
  refine sg_325_0 (sr_180 R (sg_325_4 (fun c => bad ?_) (fun c => sr_323 (sg_325_11 (fun d => bad ?_) (fun d => sr_175i (a := 1) (b := 20) (by omega) (by omega) (sg_325_23 (fun e => bad ?_) (fun e => sr_184 (sg_325_31 (fun f => bad ?_) (fun f => ?_)))))))))
  · rw [in_b0] at c
    rw [c, Bool.false_and]
  · rw [in_b0] at d
    rw [d, Bool.false_and, Bool.and_false]
  · rw [in_b0] at e
    have e2 : rg x2 1 20 = false := e
    rw [e2, Bool.false_and, Bool.and_false, Bool.and_false]
  · rw [in_b0] at f
    rw [f, Bool.and_false, Bool.and_false, Bool.and_false]
  · rw [in_b0, Bool.not_eq_false] at c d e f
    have e2 : rg x2 1 20 = true := e
    rw [c, d, e2, f, if_pos (by decide)] at h
    obtain ⟨n, rfl, n1, n2⟩ := rg_of e2 (by omega) (by omega)
    obtain ⟨p, rfl, p1, p2⟩ := rg_of f (by omega) (by omega)
    rw [in_cl (by omega), in_cl (by omega)] at h
    have hl : ∀ (m i : Nat) (N : px_Mem), i + m = n → rq M N → px_T 0 325 43 [some (.ref 56), some (.int x1), some (.int (nI n)), some (.int (nI p)), some (.int (nI (fb_ct (fun i => (ws_al (dr_t y (x1.toInt64 + (nI i).toInt64))).testBit p) i))), some (.int (nI i))] [] N Q := by
      intro m
      induction m with
      | zero =>
        intro i N hi q
        have e1 : i = n := by omega
        subst e1
        refine sg_325_43 (fun c1 => ?_) (fun c1 => by exfalso; (try simp (disch := omega) only [in_lt, in_le, in_eq, in_add, in_mul, in_sb, in_cl, in_bz, in_bo, in_mo, not_true_eq_false, not_false_eq_true, il_0, il_1, il_2, il_3, il_4, il_5, il_6, il_7, il_8, il_9, il_10, il_11, il_12, il_13, il_14, il_15, il_16, il_31] at c1) <;> omega)
        exact h N q
      | succ m ih =>
        intro i N hi q
        have R1 := ir_rq R q
        refine sg_325_43 (fun c1 => by exfalso; (try simp (disch := omega) only [in_lt, in_le, in_eq, in_add, in_mul, in_sb, in_cl, in_bz, in_bo, in_mo, not_true_eq_false, not_false_eq_true, il_0, il_1, il_2, il_3, il_4, il_5, il_6, il_7, il_8, il_9, il_10, il_11, il_12, il_13, il_14, il_15, il_16, il_31] at c1) <;> omega) (fun c1 => ?_)
        refine sr_322 R1 (fun M2 q2 f2 A2 => sg_325_59 ?_)
        rw [f2]
        have hW : ws_W (dr_t y (x1.toInt64 + (nI i).toInt64)) := trW R.1 (Nat.le_refl _)
        refine sr_227 A2 hW.1.1 (by omega) (by omega) ?_
        have ih2 := ih (i + 1) M2 (by omega) (rq_tr q q2)
        refine sg_325_71 (fun c => ?_) (fun c => ?_)
        · rw [in_b0] at c
          rw [ct_n (p := fun i => (ws_al (dr_t y (x1.toInt64 + (nI i).toInt64))).testBit p) (n := i) c] at ih2
          rw [il_0, in_add, in_a1]
          exact ih2
        · rw [in_b0, Bool.not_eq_false] at c
          rw [ct_y (p := fun i => (ws_al (dr_t y (x1.toInt64 + (nI i).toInt64))).testBit p) (n := i) c] at ih2
          rw [in_a1, in_a1]
          exact ih2
    exact hl n 0 M (by omega) rq_rf
end W56
