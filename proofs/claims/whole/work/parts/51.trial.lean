/-! an event left out, another law -/
def tr_k (x : Int32) : Nat → Bool := fun e => decide (nI e = x)
def tr_s (y : iv_Y) (law : Nat) (sk : Nat → Bool) : ws_S := ws_run law (iv_ev y) sk (iv_n y)
def tr_c (y : iv_Y) (law : Nat) (sk : Nat → Bool) (n : Nat) : Nat := fb_ct (fun e => !sk e && decide (ws_why (ws_run law (iv_ev y) sk e) (iv_ev y e) ≠ 0)) n
def pcA (s : ws_S) : Nat := in_pc 15 (ws_al s / 2)
def mx_go (f : Nat → Nat) (m : Nat) : Nat → Nat × Int32
  | 0 => (m, -1)
  | k + 1 => if (mx_go f m k).1 < f k then (f k, nI k) else mx_go f m k
theorem mx_go_s (f : Nat → Nat) (m k : Nat) : mx_go f m (k + 1) = if (mx_go f m k).1 < f k then (f k, nI k) else mx_go f m k := rfl
theorem mx_go_b {f : Nat → Nat} {m b : Nat} (hm : m ≤ b) (hf : ∀ k, f k ≤ b) : ∀ k, (mx_go f m k).1 ≤ b
  | 0 => hm
  | k + 1 => by
    rw [mx_go_s]
    split
    · exact hf k
    · exact mx_go_b hm hf k
def an_126 (y : iv_Y) : Int32 := if iv_ln y ≠ 0 then (mx_go (fun e => pcA (tr_s y (iv_lw y) (tr_k (nI e)))) (pcA (iv_rn y (iv_n y))) (iv_td y)).2 else -2
def tr_b (y : iv_Y) (x : Int32) : Nat := fb_ct (fun k => !tr_k x k && decide (vn_why y k ≠ 0)) (iv_n y)
def an_127 (y : iv_Y) : Int32 := if iv_ln y ≠ 0 then (mx_go (fun e => tr_c y (iv_lw y) (tr_k (nI e)) (iv_n y) - tr_b y (nI e)) 0 (iv_td y)).2 else -2
def lo_by (y : iv_Y) (law : Nat) : Nat := in_pc 15 (pl_lo (tr_s y law (fun _ => false)))
def an_132 (y : iv_Y) (x1 : Int32) : Int32 := if (decide (iv_ln y ≠ 0) && rg x1 0 3) = true then nI (lo_by y x1.toNatClampNeg) else -2
def mn_go (f : Nat → Nat) : Nat → Nat
  | 0 => 0
  | k + 1 => if f (k + 1) < f (mn_go f k) then k + 1 else mn_go f k
theorem mn_go_s (f : Nat → Nat) (k : Nat) : mn_go f (k + 1) = if f (k + 1) < f (mn_go f k) then k + 1 else mn_go f k := rfl
theorem mn_go_le (f : Nat → Nat) : ∀ k, mn_go f k ≤ k
  | 0 => Nat.le_refl 0
  | k + 1 => by
    have := mn_go_le f k
    rw [mn_go_s]
    split <;> omega
def an_133 (y : iv_Y) : Int32 := if iv_ln y ≠ 0 then nI (mn_go (lo_by y) 3) else -2
section T51
variable {M : px_Mem} {Q : px_Po} {y : iv_Y} {law : Nat} {sk : Nat → Bool}
theorem tr_km {e : Nat} (he : e < 2 ^ 31) : tr_k (-1) e = false := decide_eq_false (fun q => (in_mo he).mp q)
theorem tr_kn {e k : Nat} (he : e < 2 ^ 31) (hk : k < 2 ^ 31) : tr_k (nI e) k = decide (k = e) := decide_eq_decide.mpr (in_eq hk he)
theorem trW (hy : iv_yok y) {t : Nat} (ht : t ≤ iv_n y) : ws_W (ws_run law (iv_ev y) sk t) := ws_W_run (fun e he _ => hy.2.2.2.2.2 e (by omega))
theorem trT (hy : iv_yok y) (hl : law ≤ 3) {t : Nat} (ht : t ≤ iv_n y) : ws_T (ws_run law (iv_ev y) sk t) := ws_T_run hl (fun e he _ => hy.2.2.2.2.2 e (by omega))
theorem trm (hy : iv_yok y) {t : Nat} (ht : t ≤ iv_n y) : ws_md (ws_run law (iv_ev y) sk t) ≤ 140 := by
  have h1 := ws_md_run law (iv_ev y) sk t
  have h2 := iv_yn hy
  omega
theorem pc_lt : ∀ (k n : Nat), in_pc k n ≤ k
  | 0, _ => Nat.le_refl 0
  | k + 1, n => by
    have := pc_lt k (n / 2)
    show n % 2 + in_pc k (n / 2) ≤ k + 1
    omega
theorem pcA_le (s : ws_S) : pcA s ≤ 15 := pc_lt 15 _
theorem tr_c_le (n : Nat) : tr_c y law sk n ≤ n := fb_ct_le _ _
theorem cq_t {M1 M2 : px_Mem} (C : ic y M) (q : cq y M M1) (k : me_fw 47 55 M1 M2) : cq y M M2 :=
  cq_tr q (cq_w (ic_cq C q) (fun a ha => (k a (by omega)).1) (fun a ha => (k a (by omega)).2))
theorem al_lt {s : ws_S} (hW : ws_W s) : ws_al s / 2 < 32768 := by have := hW.1.1; omega
/-- one event of the trial -/
theorem sc_73 (C : ic y M) {s : ws_S} (hC : ws_C s 47 M) (hW : ws_W s) (hm : ws_md s ≤ 140) (hl : law ≤ 3) {e : ws_E} (he : iv_ok e) (h : ∀ M', cq y M M' → ws_C (ws_st law s e) 47 M' → Q (some (.int (nI (ws_why s e)))) M') : px_T 0 73 0 [some (.ref 47), some (.int (nI (iv_pk e))), some (.int (nI law)), none, none, none, none] [] M Q :=
  sp_73 (Or.inr rfl) hC hW (by omega) he hl (fun M1 hP => h M1 (cq_t C (cq_rf C) hP.1) hP.2.1)
theorem sc_60 (C : ic y M) (h : ∀ M', cq y M M' → ws_C ws_0 47 M' → Q none M') : px_T 0 60 0 [some (.ref 47)] [] M Q :=
  sp_60 (g := 0) (Or.inl ⟨rfl, Or.inr rfl⟩) (fun M1 k1 k2 _ => h M1 (cq_t C (cq_rf C) k1) k2)
theorem sc_165l {x1 : Int32} (hl : law ≤ 3) (C0 : ic y M) (h : ∀ M', cq y M M' → ws_C (tr_s y law (tr_k x1)) 47 M' → Q (some (.int (nI (tr_c y law (tr_k x1) (iv_n y))))) M') : ∀ (n e : Nat) (N : px_Mem), e + n = iv_n y → cq y M N → ws_C (ws_run law (iv_ev y) (tr_k x1) e) 47 N → px_T 0 165 12 [some (.ref 0), some (.int x1), some (.int (nI law)), some (.int (nI (tr_c y law (tr_k x1) e))), some (.int (nI e))] [] N Q
  | 0, e, N, he, q, hC => by
    have C := ic_cq C0 q
    have hn := ic_n C
    have e1 : e = iv_n y := by omega
    subst e1
    refine sg_165_12 (sp_53 (Or.inl rfl) C.2.1 ?_)
    exact sg_165_21 (fun _ => h N q hC) (fun c => absurd (nI_le (Nat.le_refl _) (by omega)) c) (fun c => absurd (nI_le (Nat.le_refl _) (by omega)) c)
  | n + 1, e, N, he, q, hC => by
    have C := ic_cq C0 q
    have hn := ic_n C
    refine sg_165_12 (sp_53 (Or.inl rfl) C.2.1 ?_)
    have hlt : ¬ nI (iv_n y) ≤ nI e := fun q => by rw [in_le (by omega) (by omega)] at q; omega
    refine sg_165_21 (fun c => absurd c hlt) (fun _ c => ?_) (fun _ c => ?_)
    · have hk : tr_k x1 e = true := decide_eq_true c
      have ih := sc_165l hl C0 h n (e + 1) N (by omega) q (by rw [ws_run_k hk]; exact hC)
      have e1 : tr_c y law (tr_k x1) (e + 1) = tr_c y law (tr_k x1) e := ct_n (by rw [hk]; rfl)
      rw [e1] at ih
      rw [in_a1]
      exact ih
    · have hk : tr_k x1 e = false := decide_eq_false c
      refine sp_54 (Or.inl rfl) C.2.1 (by omega) hn (sg_165_43 ?_)
      refine sc_73 C hC (trW C.1 (by omega)) (trm C.1 (by omega)) hl (C.1.2.2.2.2.2 e (by omega)) (fun M1 q1 hC1 => ?_)
      have ih := sc_165l hl C0 h n (e + 1) M1 (by omega) (cq_tr q q1) (by rw [ws_run_s hk]; exact hC1)
      have hwl := ws_why_le (s := ws_run law (iv_ev y) (tr_k x1) e) (iv_ev y e)
      refine sg_165_47 (fun d => ?_) (fun d => ?_)
      · simp (disch := omega) only [in_lt, in_le, in_eq, in_add, in_mul, in_sb, in_cl, in_bz, in_bo, in_mo, not_true_eq_false, not_false_eq_true, il_0, il_1, il_2, il_3, il_4, il_5, il_6, il_7, il_8, il_9, il_10, il_11, il_12, il_13, il_14, il_15, il_16, il_31] at d
        have e1 : tr_c y law (tr_k x1) (e + 1) = tr_c y law (tr_k x1) e := ct_n (by rw [hk, decide_eq_false (fun q => q d)]; rfl)
        rw [e1] at ih
        rw [in_a1]
        exact ih
      · simp (disch := omega) only [in_lt, in_le, in_eq, in_add, in_mul, in_sb, in_cl, in_bz, in_bo, in_mo, not_true_eq_false, not_false_eq_true, il_0, il_1, il_2, il_3, il_4, il_5, il_6, il_7, il_8, il_9, il_10, il_11, il_12, il_13, il_14, il_15, il_16, il_31] at d
        have e1 : tr_c y law (tr_k x1) (e + 1) = tr_c y law (tr_k x1) e + 1 := ct_y (by rw [hk, decide_eq_true d]; rfl)
        rw [e1] at ih
        rw [in_a1, in_a1]
        exact ih
theorem sc_165 {x1 : Int32} (hl : law ≤ 3) (C : ic y M) (h : ∀ M', cq y M M' → ws_C (tr_s y law (tr_k x1)) 47 M' → Q (some (.int (nI (tr_c y law (tr_k x1) (iv_n y))))) M') : px_T 0 165 0 [some (.ref 0), some (.int x1), some (.int (nI law)), none, none] [] M Q :=
  sg_165_0 (sc_60 C (fun M1 q1 hC => sg_165_7 (sc_165l hl C h (iv_n y) 0 M1 (by omega) q1 hC)))
theorem sc_bc {s : ws_S} {o : Nat} (hC : ws_C s o M) (hW : ws_W s) (h : Q (some (.int (nI (pcA s)))) M) : px_T 0 332 0 [some (.int (M.1 o 0))] [] M Q := by
  rw [hC.1.1]
  exact sp_bc (al_lt hW) h
theorem sc_126 (C : ic y M) (h : ∀ M', cq y M M' → Q (some (.int (an_126 y))) M') : px_T 0 126 0 [some (.ref 0), none, none, none, none] [] M Q := by
  unfold an_126 at h
  have hn := ic_n C
  refine sg_126_0 (sc_151 C (fun g => sg_126_4 (fun _ => ?_) (fun c => absurd rfl c)) (fun g => sg_126_4 (fun c => absurd c (by decide)) (fun _ => ?_)))
  · rw [if_pos g] at h
    refine sp_53 (Or.inl rfl) C.2.1 (sg_126_21 (sc_11 C (Nat.le_refl _) (fun M1 q1 hF => sg_126_24 (Or.inl rfl) (sc_bc hF.2.1 (iv_rnW C.1 (Nat.le_refl _)) (sg_126_30 ?_)))))
    have hl : ∀ (n e : Nat) (N : px_Mem) (d4 : Option Value), e + n = iv_td y → cq y M N → px_T 0 126 35 [some (.ref 0), some (.int (nI (mx_go (fun e => pcA (tr_s y (iv_lw y) (tr_k (nI e)))) (pcA (iv_rn y (iv_n y))) e).1)), some (.int (mx_go (fun e => pcA (tr_s y (iv_lw y) (tr_k (nI e)))) (pcA (iv_rn y (iv_n y))) e).2), some (.int (nI e)), d4] [] N Q := by
      intro n
      induction n with
      | zero =>
        intro e N d4 he q
        have C1 := ic_cq C q
        have f := C1.2.1.2.2.2.1
        have hb := C1.1.2.2.1
        have e1 : e = iv_td y := by omega
        subst e1
        refine sg_126_35 (fun c1 => ?_) (fun c1 => by exfalso; (try simp (disch := omega) only [in_lt, in_le, in_eq, in_add, in_mul, in_sb, in_cl, in_bz, in_bo, in_mo, not_true_eq_false, not_false_eq_true, il_0, il_1, il_2, il_3, il_4, il_5, il_6, il_7, il_8, il_9, il_10, il_11, il_12, il_13, il_14, il_15, il_16, il_31, f] at c1) <;> omega)
        exact h N q
      | succ n ih =>
        intro e N d4 he q
        have C1 := ic_cq C q
        have f := C1.2.1.2.2.2.1
        have f2 := C1.2.1.2.1
        have hb := C1.1.2.2.1
        refine sg_126_35 (fun c1 => by exfalso; (try simp (disch := omega) only [in_lt, in_le, in_eq, in_add, in_mul, in_sb, in_cl, in_bz, in_bo, in_mo, not_true_eq_false, not_false_eq_true, il_0, il_1, il_2, il_3, il_4, il_5, il_6, il_7, il_8, il_9, il_10, il_11, il_12, il_13, il_14, il_15, il_16, il_31, f] at c1) <;> omega) (fun c1 => ?_)
        rw [f2]
        refine sc_165 C1.1.1 C1 (fun M2 q2 hC2 => sg_126_58 (sc_bc hC2 (trW C1.1 (Nat.le_refl _)) ?_))
        have hm := mx_go_b (f := fun e => pcA (tr_s y (iv_lw y) (tr_k (nI e)))) (pcA_le (iv_rn y (iv_n y))) (fun k => pcA_le _) e
        have hm2 := pcA_le (tr_s y (iv_lw y) (tr_k (nI e)))
        have ih2 := fun d4 => ih (e + 1) M2 d4 (by omega) (cq_tr q q2)
        rw [mx_go_s] at ih2
        refine sg_126_69 (fun c => ?_) (fun c => ?_)
        · simp (disch := omega) only [in_lt, in_le, in_eq, in_add, in_mul, in_sb, in_cl, in_bz, in_bo, in_mo, not_true_eq_false, not_false_eq_true, il_0, il_1, il_2, il_3, il_4, il_5, il_6, il_7, il_8, il_9, il_10, il_11, il_12, il_13, il_14, il_15, il_16, il_31] at c
          rw [if_neg (by omega)] at ih2
          rw [in_a1]
          exact ih2 _
        · simp (disch := omega) only [in_lt, in_le, in_eq, in_add, in_mul, in_sb, in_cl, in_bz, in_bo, in_mo, not_true_eq_false, not_false_eq_true, il_0, il_1, il_2, il_3, il_4, il_5, il_6, il_7, il_8, il_9, il_10, il_11, il_12, il_13, il_14, il_15, il_16, il_31] at c
          rw [if_pos (by omega)] at ih2
          rw [in_a1]
          exact ih2 _
    exact hl (iv_td y) 0 M1 _ (by omega) q1
  · rw [if_neg (fun q => q g)] at h
    exact h M (cq_rf C)
theorem in_dle {a b m : Nat} (ha : a < 2 ^ 30) (hb : b < 2 ^ 30) (hm : m < 2 ^ 30) : nI a - nI b ≤ nI m ↔ a - b ≤ m := by
  by_cases h : b ≤ a
  · rw [in_sb h, in_le (by omega) (by omega)]
  · have e : nI a - nI b = -nI (b - a) := by
      have h1 : nI b = nI a + nI (b - a) := by rw [in_add]; congr 1; omega
      rw [h1]
      generalize nI a = p
      generalize nI (b - a) = q
      rw [Int32.sub_eq_add_neg, Int32.neg_add, Int32.sub_eq_add_neg, ← Int32.add_assoc, Int32.add_right_neg, Int32.zero_add]
    have h2 : (-nI (b - a)).toInt = -((b - a : Nat) : Int) := by
      rw [Int32.toInt_neg, nI_toInt (by omega)]
      rw [Int.bmod_eq_of_le (by omega) (by omega)]
    rw [e, fa_le, h2, nI_toInt (by omega)]
    exact ⟨fun _ => by omega, fun _ => by omega⟩
theorem tr_b_eq {e : Nat} (hn : iv_n y ≤ 70) (he : e < iv_n y) : tr_b y (nI e) + (if vn_why y e ≠ 0 then 1 else 0) = vn_rf y (iv_n y) := by
  have h1 := fb_ct_upd (fun k => decide (vn_why y k ≠ 0)) false (i := e) (n := iv_n y) he
  have e1 : fb_ct (fun k => if k = e then false else decide (vn_why y k ≠ 0)) (iv_n y) = tr_b y (nI e) := by
    refine fb_ct_cong (fun k hk => ?_)
    rw [tr_kn (by omega) (by omega)]
    by_cases hke : k = e
    · rw [if_pos hke, decide_eq_true hke]
      rfl
    · rw [if_neg hke, decide_eq_false hke]
      rfl
  rw [e1, if_neg (show ¬ false = true by decide), Nat.add_zero] at h1
  have e2 : (if vn_why y e ≠ 0 then 1 else 0) = (if decide (vn_why y e ≠ 0) = true then 1 else 0) := by
    by_cases hz : vn_why y e = 0
    · rw [if_neg (fun q => q hz), if_neg (by rw [decide_eq_false (fun q => q hz)]; decide)]
    · rw [if_pos hz, if_pos (decide_eq_true hz)]
  rw [e2]
  exact h1
theorem tr_b_le {x : Int32} : tr_b y x ≤ iv_n y := fb_ct_le _ _
theorem sc_127 (C : ic y M) (h : ∀ M', cq y M M' → Q (some (.int (an_127 y))) M') : px_T 0 127 0 [some (.ref 0), none, none, none, none, none, none] [] M Q := by
  unfold an_127 at h
  have hn := ic_n C
  refine sg_127_0 (sc_151 C (fun g => sg_127_4 (fun _ => ?_) (fun c => absurd rfl c)) (fun g => sg_127_4 (fun c => absurd c (by decide)) (fun _ => ?_)))
  · rw [if_pos g] at h
    refine sp_53 (Or.inl rfl) C.2.1 (sg_127_21 (sc_13 C (Nat.le_refl _) (fun M1 q1 => sg_127_24 ?_)))
    have hl : ∀ (n e : Nat) (N : px_Mem) (d5 d6 : Option Value), e + n = iv_td y → cq y M N → px_T 0 127 32 [some (.ref 0), some (.int (nI (vn_rf y (iv_n y)))), some (.int (nI (mx_go (fun e => tr_c y (iv_lw y) (tr_k (nI e)) (iv_n y) - tr_b y (nI e)) 0 e).1)), some (.int (mx_go (fun e => tr_c y (iv_lw y) (tr_k (nI e)) (iv_n y) - tr_b y (nI e)) 0 e).2), some (.int (nI e)), d5, d6] [] N Q := by
      intro n
      induction n with
      | zero =>
        intro e N d5 d6 he q
        have C1 := ic_cq C q
        have f := C1.2.1.2.2.2.1
        have hb := C1.1.2.2.1
        have e1 : e = iv_td y := by omega
        subst e1
        refine sg_127_32 (fun c1 => ?_) (fun c1 => by exfalso; (try simp (disch := omega) only [in_lt, in_le, in_eq, in_add, in_mul, in_sb, in_cl, in_bz, in_bo, in_mo, not_true_eq_false, not_false_eq_true, il_0, il_1, il_2, il_3, il_4, il_5, il_6, il_7, il_8, il_9, il_10, il_11, il_12, il_13, il_14, il_15, il_16, il_31, f] at c1) <;> omega)
        exact h N q
      | succ n ih =>
        intro e N d5 d6 he q
        have C1 := ic_cq C q
        have f := C1.2.1.2.2.2.1
        have hb := C1.1.2.2.1
        have hen : e < iv_n y := by unfold iv_n; omega
        have hwl := vn_why_le y e
        refine sg_127_32 (fun c1 => by exfalso; (try simp (disch := omega) only [in_lt, in_le, in_eq, in_add, in_mul, in_sb, in_cl, in_bz, in_bo, in_mo, not_true_eq_false, not_false_eq_true, il_0, il_1, il_2, il_3, il_4, il_5, il_6, il_7, il_8, il_9, il_10, il_11, il_12, il_13, il_14, il_15, il_16, il_31, f] at c1) <;> omega) (fun c1 => ?_)
        refine sc_12 C1 hen (fun M2 q2 => ?_)
        have C2 := ic_cq C1 q2
        have f2 := C2.2.1.2.1
        have hbe := tr_b_eq hn hen
        have hbl := tr_b_le (y := y) (x := nI e)
        have hcl := tr_c_le (y := y) (law := iv_lw y) (sk := tr_k (nI e)) (iv_n y)
        have hm := mx_go_b (f := fun e => tr_c y (iv_lw y) (tr_k (nI e)) (iv_n y) - tr_b y (nI e)) (m := 0) (b := 70) (by omega) (fun k => by have := tr_c_le (y := y) (law := iv_lw y) (sk := tr_k (nI k)) (iv_n y); show _ - _ ≤ 70; omega) e
        have fin : ∀ (v : Nat), vn_rf y (iv_n y) - v = tr_b y (nI e) → v ≤ vn_rf y (iv_n y) → px_T 0 165 0 [some (.ref 0), some (.int (nI e)), some (.int (M2.1 4 2)), none, none] [] M2 (fun r M1 => px_T 0 127 76 [some (.ref 0), some (.int (nI (vn_rf y (iv_n y)))), some (.int (nI (mx_go (fun e => tr_c y (iv_lw y) (tr_k (nI e)) (iv_n y) - tr_b y (nI e)) 0 e).1)), some (.int (mx_go (fun e => tr_c y (iv_lw y) (tr_k (nI e)) (iv_n y) - tr_b y (nI e)) 0 e).2), some (.int (nI e)), some (.int (nI v)), d6] (r.toList ++ []) M1 Q) := by
          intro v hv hv2
          rw [f2]
          refine sc_165 C2.1.1 C2 (fun M3 q3 hC3 => ?_)
          have ih2 := fun d5 d6 => ih (e + 1) M3 d5 d6 (by omega) (cq_tr q (cq_tr q2 q3))
          rw [mx_go_s] at ih2
          have e1 : nI (vn_rf y (iv_n y)) - nI v = nI (tr_b y (nI e)) := by rw [in_sb hv2, hv]
          have S := @sg_127_76 (nI (vn_rf y (iv_n y))) (nI (mx_go (fun e => tr_c y (iv_lw y) (tr_k (nI e)) (iv_n y) - tr_b y (nI e)) 0 e).1) (mx_go (fun e => tr_c y (iv_lw y) (tr_k (nI e)) (iv_n y) - tr_b y (nI e)) 0 e).2 (nI e) (nI v) d6 (nI (tr_c y (iv_lw y) (tr_k (nI e)) (iv_n y))) M3 Q
          rw [e1] at S
          refine S (fun c => ?_) (fun c => ?_)
          · rw [in_dle (by omega) (by omega) (by omega)] at c
            rw [if_neg (by omega)] at ih2
            rw [in_a1]
            exact ih2 _ _
          · rw [in_dle (by omega) (by omega) (by omega)] at c
            rw [if_pos (by omega)] at ih2
            rw [in_a1, in_sb (by omega)]
            exact ih2 _ _
        refine sg_127_53 (fun c => ?_) (fun c => ?_)
        · simp (disch := omega) only [in_lt, in_le, in_eq, in_add, in_mul, in_sb, in_cl, in_bz, in_bo, in_mo, not_true_eq_false, not_false_eq_true, il_0, il_1, il_2, il_3, il_4, il_5, il_6, il_7, il_8, il_9, il_10, il_11, il_12, il_13, il_14, il_15, il_16, il_31] at c
          rw [if_neg (fun q => q c)] at hbe
          exact fin 0 (by omega) (by omega)
        · simp (disch := omega) only [in_lt, in_le, in_eq, in_add, in_mul, in_sb, in_cl, in_bz, in_bo, in_mo, not_true_eq_false, not_false_eq_true, il_0, il_1, il_2, il_3, il_4, il_5, il_6, il_7, il_8, il_9, il_10, il_11, il_12, il_13, il_14, il_15, il_16, il_31] at c
          rw [if_pos c] at hbe
          exact fin 1 (by omega) (by omega)
    exact hl (iv_td y) 0 M1 _ _ (by omega) q1
  · rw [if_neg (fun q => q g)] at h
    exact h M (cq_rf C)
theorem tr_sm (hn : iv_n y ≤ 70) : tr_s y law (tr_k (-1)) = tr_s y law (fun _ => false) := ws_run_cong (fun t ht => ⟨tr_km (by omega), fun _ => rfl⟩)
theorem sc_166 (hl : law ≤ 3) (C : ic y M) (h : ∀ M', cq y M M' → Q (some (.int (nI (lo_by y law)))) M') : px_T 0 166 0 [some (.ref 0), some (.int (nI law))] [] M Q := by
  refine sg_166_0 (sc_165 hl C (fun M1 q1 hC1 => sg_166_6 ?_))
  rw [tr_sm (ic_n C)] at hC1
  refine sw_16 (Or.inr rfl) hC1 (trW C.1 (Nat.le_refl _)) (fun M2 k2 hP => sg_166_18 ?_)
  rw [hP.2.1]
  exact sp_bc (pl_L_lt _ _) (sg_166_28 (h M2 (cq_p C q1 k2)))
theorem sc_132 (C : ic y M) {x1 : Int32} (h : ∀ M', cq y M M' → Q (some (.int (an_132 y x1))) M') : px_T 0 132 0 [some (.ref 0), some (.int x1)] [] M Q := by
  unfold an_132 at h
  refine sg_132_0 (fun c => ?_) (fun c d => ?_) (fun c d => ?_)
  · rw [fa_lt, Int32.toInt_zero] at c
    have h9 := h M (cq_rf C)
    rw [rg_f (Or.inl c), Bool.and_false, if_neg (by decide)] at h9
    exact h9
  · rw [fa_le, show (4 : Int32).toInt = 4 from rfl] at d
    have h9 := h M (cq_rf C)
    rw [rg_f (Or.inr (by omega)), Bool.and_false, if_neg (by decide)] at h9
    exact h9
  · obtain ⟨k, hk, rfl⟩ := nI_of c
    simp (disch := omega) only [in_lt, in_le, in_eq, in_add, in_mul, in_sb, in_cl, in_bz, in_bo, in_mo, not_true_eq_false, not_false_eq_true, il_0, il_1, il_2, il_3, il_4, il_5, il_6, il_7, il_8, il_9, il_10, il_11, il_12, il_13, il_14, il_15, il_16, il_31] at d
    rw [rg_n hk, show decide ((0 : Int) ≤ (k : Int) ∧ (k : Int) ≤ 3) = true from decide_eq_true (by omega), Bool.and_true, in_cl hk] at h
    refine sc_151 C (fun g => sg_132_13 (fun _ => ?_) (fun c => absurd rfl c)) (fun g => sg_132_13 (fun c => absurd c (by decide)) (fun _ => ?_))
    · rw [if_pos (decide_eq_true g)] at h
      exact sc_166 (by omega) C (fun M1 q1 => sg_132_24 (h M1 q1))
    · rw [if_neg (by rw [decide_eq_false (fun q => q g)]; decide)] at h
      exact h M (cq_rf C)
theorem lo_by_le : lo_by y law ≤ 15 := pc_lt 15 _
theorem sc_133 (C : ic y M) (h : ∀ M', cq y M M' → Q (some (.int (an_133 y))) M') : px_T 0 133 0 [some (.ref 0), none, none, none, none] [] M Q := by
  unfold an_133 at h
  refine sg_133_0 (sc_151 C (fun g => sg_133_4 (fun _ => ?_) (fun c => absurd rfl c)) (fun g => sg_133_4 (fun c => absurd c (by decide)) (fun _ => ?_)))
  · rw [if_pos g] at h
    refine sc_166 (law := 0) (by omega) C (fun M1 q1 => sg_133_17 ?_)
    have hl : ∀ (n k : Nat) (N : px_Mem) (d4 : Option Value), k + n = 3 → cq y M N → px_T 0 133 20 [some (.ref 0), some (.int (nI (mn_go (lo_by y) k))), some (.int (nI (lo_by y (mn_go (lo_by y) k)))), some (.int (nI (k + 1))), d4] [] N Q := by
      intro n
      induction n with
      | zero =>
        intro k N d4 hk q
        have e1 : k = 3 := by omega
        subst e1
        refine sg_133_20 (fun c1 => ?_) (fun c1 => by exfalso; (try simp (disch := omega) only [in_lt, in_le, in_eq, in_add, in_mul, in_sb, in_cl, in_bz, in_bo, in_mo, not_true_eq_false, not_false_eq_true, il_0, il_1, il_2, il_3, il_4, il_5, il_6, il_7, il_8, il_9, il_10, il_11, il_12, il_13, il_14, il_15, il_16, il_31] at c1) <;> omega)
        exact h N q
      | succ n ih =>
        intro k N d4 hk q
        refine sg_133_20 (fun c1 => by exfalso; (try simp (disch := omega) only [in_lt, in_le, in_eq, in_add, in_mul, in_sb, in_cl, in_bz, in_bo, in_mo, not_true_eq_false, not_false_eq_true, il_0, il_1, il_2, il_3, il_4, il_5, il_6, il_7, il_8, il_9, il_10, il_11, il_12, il_13, il_14, il_15, il_16, il_31] at c1) <;> omega) (fun c1 => ?_)
        refine sc_166 (law := k + 1) (by omega) (ic_cq C q) (fun M2 q2 => ?_)
        have ih2 := fun d4 => ih (k + 1) M2 d4 (by omega) (cq_tr q q2)
        rw [mn_go_s] at ih2
        have b1 := lo_by_le (y := y) (law := k + 1)
        have b2 := lo_by_le (y := y) (law := mn_go (lo_by y) k)
        refine sg_133_30 (fun c => ?_) (fun c => ?_)
        · simp (disch := omega) only [in_lt, in_le, in_eq, in_add, in_mul, in_sb, in_cl, in_bz, in_bo, in_mo, not_true_eq_false, not_false_eq_true, il_0, il_1, il_2, il_3, il_4, il_5, il_6, il_7, il_8, il_9, il_10, il_11, il_12, il_13, il_14, il_15, il_16, il_31] at c
          rw [if_neg (by omega)] at ih2
          rw [in_a1]
          exact ih2 _
        · simp (disch := omega) only [in_lt, in_le, in_eq, in_add, in_mul, in_sb, in_cl, in_bz, in_bo, in_mo, not_true_eq_false, not_false_eq_true, il_0, il_1, il_2, il_3, il_4, il_5, il_6, il_7, il_8, il_9, il_10, il_11, il_12, il_13, il_14, il_15, il_16, il_31] at c
          rw [if_pos (by omega)] at ih2
          rw [in_a1]
          exact ih2 _
    exact hl 3 0 M1 _ rfl q1
  · rw [if_neg (fun q => q g)] at h
    exact h M (cq_rf C)
/-! the reference -/
theorem rf_A_cong {n : Nat} {ev : Nat → ws_E} {lf lf2 : Nat → Bool} (h : rf_A n law ev lf M) (h2 : ∀ e, e < n → lf e = lf2 e) : rf_A n law ev lf2 M := by
  have hr : ∀ t, t ≤ n → ws_run law ev lf t = ws_run law ev lf2 t := fun t ht => ws_run_cong (fun e he => ⟨h2 e (by omega), fun _ => rfl⟩)
  refine ⟨fun t ht => ?_, fun e he => ?_, fun x hx => ?_⟩
  · rw [← hr t ht]
    exact h.1 t ht
  · rw [← hr e (by omega), ← h2 e he]
    exact h.2.1 e he
  · rw [← hr n (Nat.le_refl _)] at hx ⊢
    exact h.2.2 x hx
/-- only what a run writes, and who is left out -/
theorem sr_289 (hy : iv_yok y) (hl : law ≤ 3) {x1 : Int32} (hx : x1 = -1 ∨ ∃ e, e < iv_n y ∧ x1 = nI e) (L : rf_L (iv_n y) law (iv_ev y) (fun _ => false) M) (h : ∀ M', rq M M' → rf_L (iv_n y) law (iv_ev y) (fun _ => false) M' → rf_A (iv_n y) law (iv_ev y) (tr_k x1) M' → Q none M') : px_T 0 289 0 [some (.ref 56), some (.int x1)] [] M Q := by
  have hn := iv_yn hy
  rcases hx with rfl | ⟨e, he, rfl⟩
  · refine sg_289_0 (fun _ => ?_) (fun c => absurd rfl c) (fun c => absurd rfl c)
    refine sr_223 L (by omega) hl (fun e he => hy.2.2.2.2.2 e he) (fun M1 k1 A1 => ?_)
    exact sg_289_16 (fun _ => h M1 (rq_g k1) (rf_L_gq L k1) (rf_A_cong A1 (fun e he => (tr_km (by omega)).symm))) (fun c => absurd rfl c) (fun c => absurd rfl c)
  · have hnm : ¬ nI e = -1 := in_nm (by omega)
    refine sg_289_0 (fun c => absurd c hnm) (fun _ => me_vin (by omega) (by omega)) (fun _ => ?_)
    rw [in_cl (by omega)]
    have L1 : rf_L (iv_n y) law (iv_ev y) (tr_k (nI e)) (px_wI M 67 e (vp_nar .boolean 1)) := by
      obtain ⟨l1, l2, l3⟩ := L
      refine ⟨?_, ?_, fun i hi => ?_⟩
      · simp (disch := omega) only [me_II, me_Ii, me_Io, me_I2, me_L1, me_Li, me_LL, me_Lo, me_As, me_Ao, me_A2, me_Bs, me_Bo, me_B1]; exact l1
      · simp (disch := omega) only [me_II, me_Ii, me_Io, me_I2, me_L1, me_Li, me_LL, me_Lo, me_As, me_Ao, me_A2, me_Bs, me_Bo, me_B1]; exact l2
      · obtain ⟨a1, a2, a3, a4, a5⟩ := l3 i hi
        refine ⟨?_, ?_, ?_, ?_, ?_⟩
        · simp (disch := omega) only [me_II, me_Ii, me_Io, me_I2, me_L1, me_Li, me_LL, me_Lo, me_As, me_Ao, me_A2, me_Bs, me_Bo, me_B1]; exact a1
        · simp (disch := omega) only [me_II, me_Ii, me_Io, me_I2, me_L1, me_Li, me_LL, me_Lo, me_As, me_Ao, me_A2, me_Bs, me_Bo, me_B1]; exact a2
        · simp (disch := omega) only [me_II, me_Ii, me_Io, me_I2, me_L1, me_Li, me_LL, me_Lo, me_As, me_Ao, me_A2, me_Bs, me_Bo, me_B1]; exact a3
        · simp (disch := omega) only [me_II, me_Ii, me_Io, me_I2, me_L1, me_Li, me_LL, me_Lo, me_As, me_Ao, me_A2, me_Bs, me_Bo, me_B1]; exact a4
        · rw [tr_kn (by omega) (by omega)]
          by_cases hie : i = e
          · subst hie
            rw [me_II, decide_eq_true rfl]
            rfl
          · rw [me_Ii hie, decide_eq_false hie]
            exact a5
    refine sr_223 L1 (by omega) hl (fun e he => hy.2.2.2.2.2 e he) (fun M1 k1 A1 => ?_)
    refine sg_289_16 (fun c => absurd c hnm) (fun _ => me_vin (by omega) (by omega)) (fun _ => ?_)
    rw [in_cl (by omega)]
    have L2 := rf_L_gq L1 k1
    refine h _ (rq_I (rq_tr (rq_I rq_rf (by omega) (by omega)) (rq_g k1)) (by omega) (by omega)) ?_ ?_
    · obtain ⟨l1, l2, l3⟩ := L2
      refine ⟨?_, ?_, fun i hi => ?_⟩
      · simp (disch := omega) only [me_II, me_Ii, me_Io, me_I2, me_L1, me_Li, me_LL, me_Lo, me_As, me_Ao, me_A2, me_Bs, me_Bo, me_B1]; exact l1
      · simp (disch := omega) only [me_II, me_Ii, me_Io, me_I2, me_L1, me_Li, me_LL, me_Lo, me_As, me_Ao, me_A2, me_Bs, me_Bo, me_B1]; exact l2
      · obtain ⟨a1, a2, a3, a4, a5⟩ := l3 i hi
        refine ⟨?_, ?_, ?_, ?_, ?_⟩
        · simp (disch := omega) only [me_II, me_Ii, me_Io, me_I2, me_L1, me_Li, me_LL, me_Lo, me_As, me_Ao, me_A2, me_Bs, me_Bo, me_B1]; exact a1
        · simp (disch := omega) only [me_II, me_Ii, me_Io, me_I2, me_L1, me_Li, me_LL, me_Lo, me_As, me_Ao, me_A2, me_Bs, me_Bo, me_B1]; exact a2
        · simp (disch := omega) only [me_II, me_Ii, me_Io, me_I2, me_L1, me_Li, me_LL, me_Lo, me_As, me_Ao, me_A2, me_Bs, me_Bo, me_B1]; exact a3
        · simp (disch := omega) only [me_II, me_Ii, me_Io, me_I2, me_L1, me_Li, me_LL, me_Lo, me_As, me_Ao, me_A2, me_Bs, me_Bo, me_B1]; exact a4
        · rw [tr_kn (by omega) (by omega)] at a5
          by_cases hie : i = e
          · subst hie
            rw [me_II]
            rfl
          · rw [me_Ii hie, a5, decide_eq_false hie]
    · refine ⟨fun t ht => rt_at_fr (A1.1 t ht) (fun a h1 h2 => by simp (disch := omega) only [me_II, me_Ii, me_Io, me_I2, me_L1, me_Li, me_LL, me_Lo, me_As, me_Ao, me_A2, me_Bs, me_Bo, me_B1]), fun i hi => re_at_fr (A1.2.1 i hi) (fun a h1 h2 => by rw [me_Io (by omega)]), fun x hx => ?_⟩
      rw [me_Io (by omega)]
      exact A1.2.2 x hx
theorem sr_290 (R : ir y M) (h : ∀ M', rq M M' → Q (some (.int (an_126 y))) M') : px_T 0 290 0 [some (.ref 56), none, none, none] [] M Q := by
  unfold an_126 at h
  have hn := iv_yn R.1
  refine sg_290_0 (sr_224 R (fun M1 q1 L1 A1 => sg_290_4 (fun c => ?_) (fun c => ?_)))
  · rw [in_b0] at c
    rw [if_neg (of_decide_eq_false c)] at h
    exact h M1 q1
  · rw [in_b0, Bool.not_eq_false] at c
    rw [if_pos (of_decide_eq_true c)] at h
    rw [L1.1]
    have hW := iv_rnW R.1 (Nat.le_refl (iv_n y))
    have hA : rt_at (iv_rn y (iv_n y)) (iv_n y) M1 := A1.1 _ (Nat.le_refl _)
    refine sr_230 hA hW.1.1 (by omega) (sg_290_18 ?_)
    rw [pc_al hW.1.2.2.1]
    have hl : ∀ (n e : Nat) (N : px_Mem), e + n = iv_td y → rq M N → rl y N → px_T 0 290 23 [some (.ref 56), some (.int (nI (mx_go (fun e => pcA (tr_s y (iv_lw y) (tr_k (nI e)))) (pcA (iv_rn y (iv_n y))) e).1)), some (.int (mx_go (fun e => pcA (tr_s y (iv_lw y) (tr_k (nI e)))) (pcA (iv_rn y (iv_n y))) e).2), some (.int (nI e))] [] N Q := by
      intro n
      induction n with
      | zero =>
        intro e N he q L
        have R1 := ir_rq R q
        have f : N.1 57 2 = nI (iv_td y) := R1.2.2.2.1
        have hb := R1.1.2.2.1
        have e1 : e = iv_td y := by omega
        subst e1
        refine sg_290_23 (fun c1 => ?_) (fun c1 => by exfalso; (try simp (disch := omega) only [in_lt, in_le, in_eq, in_add, in_mul, in_sb, in_cl, in_bz, in_bo, in_mo, not_true_eq_false, not_false_eq_true, il_0, il_1, il_2, il_3, il_4, il_5, il_6, il_7, il_8, il_9, il_10, il_11, il_12, il_13, il_14, il_15, il_16, il_31, f] at c1) <;> omega)
        exact h N q
      | succ n ih =>
        intro e N he q L
        have R1 := ir_rq R q
        have f : N.1 57 2 = nI (iv_td y) := R1.2.2.2.1
        have hb := R1.1.2.2.1
        have hen : e < iv_n y := by unfold iv_n; omega
        refine sg_290_23 (fun c1 => by exfalso; (try simp (disch := omega) only [in_lt, in_le, in_eq, in_add, in_mul, in_sb, in_cl, in_bz, in_bo, in_mo, not_true_eq_false, not_false_eq_true, il_0, il_1, il_2, il_3, il_4, il_5, il_6, il_7, il_8, il_9, il_10, il_11, il_12, il_13, il_14, il_15, il_16, il_31, f] at c1) <;> omega) (fun c1 => ?_)
        refine sr_289 R1.1 R1.1.1 (Or.inr ⟨e, hen, rfl⟩) L (fun M2 q2 L2 A2 => sg_290_38 ?_)
        rw [L2.1]
        have hW2 : ws_W (tr_s y (iv_lw y) (tr_k (nI e))) := trW R.1 (Nat.le_refl _)
        have hA2 : rt_at (tr_s y (iv_lw y) (tr_k (nI e))) (iv_n y) M2 := A2.1 _ (Nat.le_refl _)
        refine sr_230 hA2 hW2.1.1 (by omega) ?_
        rw [pc_al hW2.1.2.2.1]
        have hm := mx_go_b (f := fun e => pcA (tr_s y (iv_lw y) (tr_k (nI e)))) (pcA_le (iv_rn y (iv_n y))) (fun k => pcA_le _) e
        have hm2 : in_pc 15 (ws_al (tr_s y (iv_lw y) (tr_k (nI e))) / 2) ≤ 15 := pc_lt 15 _
        have ih2 := ih (e + 1) M2 (by omega) (rq_tr q q2) L2
        rw [mx_go_s] at ih2
        refine sg_290_46 (fun c => ?_) (fun c => ?_)
        · simp (disch := omega) only [in_lt, in_le, in_eq, in_add, in_mul, in_sb, in_cl, in_bz, in_bo, in_mo, not_true_eq_false, not_false_eq_true, il_0, il_1, il_2, il_3, il_4, il_5, il_6, il_7, il_8, il_9, il_10, il_11, il_12, il_13, il_14, il_15, il_16, il_31] at c
          rw [if_pos (show _ < pcA (tr_s y (iv_lw y) (tr_k (nI e))) from c)] at ih2
          rw [L2.1]
          refine sr_230 hA2 hW2.1.1 (by omega) (sg_290_61 ?_)
          rw [pc_al hW2.1.2.2.1, in_a1]
          exact ih2
        · simp (disch := omega) only [in_lt, in_le, in_eq, in_add, in_mul, in_sb, in_cl, in_bz, in_bo, in_mo, not_true_eq_false, not_false_eq_true, il_0, il_1, il_2, il_3, il_4, il_5, il_6, il_7, il_8, il_9, il_10, il_11, il_12, il_13, il_14, il_15, il_16, il_31] at c
          rw [if_neg (show ¬ _ < pcA (tr_s y (iv_lw y) (tr_k (nI e))) from c)] at ih2
          rw [in_a1]
          exact ih2
    exact hl (iv_td y) 0 M1 (by omega) q1 L1
theorem sr_291 {n : Nat} {ev : Nat → ws_E} {lf : Nat → Bool} (hn : n ≤ 72) {x1 : Int32} (hL : M.1 56 20 = nI n) (A : rf_A n law ev lf M) (h : Q (some (.int (nI (fb_ct (fun k => !tr_k x1 k && (!lf k && decide (ws_why (ws_run law ev lf k) (ev k) ≠ 0))) n)))) M) : px_T 0 291 0 [some (.ref 56), some (.int x1), none, none] [] M Q := by
  refine sg_291_0 ?_
  have hl : ∀ i, i ≤ n → px_T 0 291 4 [some (.ref 56), some (.int x1), some (.int (nI (fb_ct (fun k => !tr_k x1 k && (!lf k && decide (ws_why (ws_run law ev lf k) (ev k) ≠ 0))) i))), some (.int (nI i))] [] M Q := by
    refine lp_dn ?_ (fun i hi ih => ?_)
    · have hle : M.1 56 20 ≤ nI n := by rw [hL, in_le (by omega) (by omega)]; omega
      exact sg_291_4 (fun _ => h) (fun c => absurd hle c) (fun c => absurd hle c) (fun c => absurd hle c) (fun c => absurd hle c)
    · have f := (A.2.1 i hi).1
      have hwl := ws_why_le (s := ws_run law ev lf i) (ev i)
      have hnl : ¬ M.1 56 20 ≤ nI i := fun q => by rw [hL, in_le (by omega) (by omega)] at q; omega
      refine sg_291_4 (fun c => absurd c hnl) (fun _ c => ?_) (fun _ _ => me_vin (by omega) (by omega)) (fun _ c d => ?_) (fun _ c d => ?_)
      · rw [ct_n (by rw [show tr_k x1 i = true from decide_eq_true c]; rfl)] at ih
        rw [il_0, in_add, in_a1]
        exact ih
      · rw [in_cl (by omega), f] at d
        have hz : (!lf i && decide (ws_why (ws_run law ev lf i) (ev i) ≠ 0)) = false := by
          cases hlf : lf i with
          | true => rfl
          | false =>
            rw [hlf, if_neg (by decide)] at d
            simp (disch := omega) only [in_lt, in_le, in_eq, in_add, in_mul, in_sb, in_cl, in_bz, in_bo, in_mo, not_true_eq_false, not_false_eq_true, il_0, il_1, il_2, il_3, il_4, il_5, il_6, il_7, il_8, il_9, il_10, il_11, il_12, il_13, il_14, il_15, il_16, il_31] at d
            rw [decide_eq_false (fun q => q (by omega))]
            rfl
        rw [ct_n (by rw [hz, Bool.and_false])] at ih
        rw [il_0, in_add, in_a1]
        exact ih
      · rw [in_cl (by omega), f] at d
        have hz : (!lf i && decide (ws_why (ws_run law ev lf i) (ev i) ≠ 0)) = true := by
          cases hlf : lf i with
          | true =>
            rw [hlf, if_pos rfl] at d
            exact absurd (by decide) d
          | false =>
            rw [hlf, if_neg (by decide)] at d
            simp (disch := omega) only [in_lt, in_le, in_eq, in_add, in_mul, in_sb, in_cl, in_bz, in_bo, in_mo, not_true_eq_false, not_false_eq_true, il_0, il_1, il_2, il_3, il_4, il_5, il_6, il_7, il_8, il_9, il_10, il_11, il_12, il_13, il_14, il_15, il_16, il_31] at d
            rw [decide_eq_true (show ws_why (ws_run law ev lf i) (ev i) ≠ 0 by omega)]
            rfl
        rw [ct_y (by rw [hz, show tr_k x1 i = false from decide_eq_false c]; rfl)] at ih
        rw [in_a1, in_a1]
        exact ih
  exact hl 0 (by omega)
theorem sr_292 (R : ir y M) (h : ∀ M', rq M M' → Q (some (.int (an_127 y))) M') : px_T 0 292 0 [some (.ref 56), none, none, none, none, none] [] M Q := by
  unfold an_127 at h
  have hn := iv_yn R.1
  refine sg_292_0 (sr_224 R (fun M1 q1 L1 A1 => sg_292_4 (fun c => ?_) (fun c => ?_)))
  · rw [in_b0] at c
    rw [if_neg (of_decide_eq_false c)] at h
    exact h M1 q1
  · rw [in_b0, Bool.not_eq_false] at c
    rw [if_pos (of_decide_eq_true c)] at h
    have hl : ∀ (n e : Nat) (N : px_Mem) (d4 d5 : Option Value), e + n = iv_td y → rq M N → rl y N → px_T 0 292 16 [some (.ref 56), some (.int (nI (mx_go (fun e => tr_c y (iv_lw y) (tr_k (nI e)) (iv_n y) - tr_b y (nI e)) 0 e).1)), some (.int (mx_go (fun e => tr_c y (iv_lw y) (tr_k (nI e)) (iv_n y) - tr_b y (nI e)) 0 e).2), some (.int (nI e)), d4, d5] [] N Q := by
      intro n
      induction n with
      | zero =>
        intro e N d4 d5 he q L
        have R1 := ir_rq R q
        have f : N.1 57 2 = nI (iv_td y) := R1.2.2.2.1
        have hb := R1.1.2.2.1
        have e1 : e = iv_td y := by omega
        subst e1
        refine sg_292_16 (fun c1 => ?_) (fun c1 => by exfalso; (try simp (disch := omega) only [in_lt, in_le, in_eq, in_add, in_mul, in_sb, in_cl, in_bz, in_bo, in_mo, not_true_eq_false, not_false_eq_true, il_0, il_1, il_2, il_3, il_4, il_5, il_6, il_7, il_8, il_9, il_10, il_11, il_12, il_13, il_14, il_15, il_16, il_31, f] at c1) <;> omega)
        exact h N q
      | succ n ih =>
        intro e N d4 d5 he q L
        have R1 := ir_rq R q
        have f : N.1 57 2 = nI (iv_td y) := R1.2.2.2.1
        have hb := R1.1.2.2.1
        have hen : e < iv_n y := by unfold iv_n; omega
        refine sg_292_16 (fun c1 => by exfalso; (try simp (disch := omega) only [in_lt, in_le, in_eq, in_add, in_mul, in_sb, in_cl, in_bz, in_bo, in_mo, not_true_eq_false, not_false_eq_true, il_0, il_1, il_2, il_3, il_4, il_5, il_6, il_7, il_8, il_9, il_10, il_11, il_12, il_13, il_14, il_15, il_16, il_31, f] at c1) <;> omega) (fun c1 => ?_)
        refine sr_289 R1.1 R1.1.1 (Or.inl rfl) L (fun M2 q2 L2 A2 => sg_292_31 (sr_291 (by omega) L2.1 A2 (sg_292_36 ?_)))
        have R2 := ir_rq R1 q2
        refine sr_289 R2.1 R2.1.1 (Or.inr ⟨e, hen, rfl⟩) L2 (fun M3 q3 L3 A3 => sg_292_43 (sr_291 (by omega) L3.1 A3 ?_))
        have ih2 := fun d4 d5 => ih (e + 1) M3 d4 d5 (by omega) (rq_tr q (rq_tr q2 q3)) L3
        rw [mx_go_s] at ih2
        have e1 : fb_ct (fun k => !tr_k (nI e) k && (!tr_k (-1) k && decide (ws_why (ws_run (iv_lw y) (iv_ev y) (tr_k (-1)) k) (iv_ev y k) ≠ 0))) (iv_n y) = tr_b y (nI e) := by
          refine fb_ct_cong (fun k hk => ?_)
          rw [tr_km (by omega), show ws_run (iv_lw y) (iv_ev y) (tr_k (-1)) k = iv_rn y k from ws_run_cong (fun t ht => ⟨tr_km (by omega), fun _ => rfl⟩)]
          rfl
        have e2 : fb_ct (fun k => !tr_k (nI e) k && (!tr_k (nI e) k && decide (ws_why (ws_run (iv_lw y) (iv_ev y) (tr_k (nI e)) k) (iv_ev y k) ≠ 0))) (iv_n y) = tr_c y (iv_lw y) (tr_k (nI e)) (iv_n y) := by
          refine fb_ct_cong (fun k hk => ?_)
          cases tr_k (nI e) k <;> rfl
        rw [e1, e2]
        have hbl := tr_b_le (y := y) (x := nI e)
        have hcl := tr_c_le (y := y) (law := iv_lw y) (sk := tr_k (nI e)) (iv_n y)
        have hm := mx_go_b (f := fun e => tr_c y (iv_lw y) (tr_k (nI e)) (iv_n y) - tr_b y (nI e)) (m := 0) (b := 70) (by omega) (fun k => by have := tr_c_le (y := y) (law := iv_lw y) (sk := tr_k (nI k)) (iv_n y); show _ - _ ≤ 70; omega) e
        have hle : ∀ a b : Int32, a < b ↔ ¬ b ≤ a := fun a b => by rw [fa_lt, fa_le]; omega
        refine sg_292_48 (fun c => ?_) (fun c => ?_)
        · rw [hle, in_dle (by omega) (by omega) (by omega)] at c
          rw [if_pos (by omega)] at ih2
          rw [in_a1, in_sb (by omega)]
          exact ih2 _ _
        · rw [hle, in_dle (by omega) (by omega) (by omega)] at c
          rw [if_neg (by omega)] at ih2
          rw [in_a1]
          exact ih2 _ _
    exact hl (iv_td y) 0 M1 _ _ (by omega) q1 L1
theorem sr_301 (hy : iv_yok y) {l0 : Nat} (hl : law ≤ 3) (L : rf_L (iv_n y) l0 (iv_ev y) (fun _ => false) M) (h : ∀ M', rq M M' → rf_L (iv_n y) law (iv_ev y) (fun _ => false) M' → Q (some (.int (nI (lo_by y law)))) M') : px_T 0 301 0 [some (.ref 56), some (.int (nI law))] [] M Q := by
  have hn := iv_yn hy
  refine sg_301_0 ?_
  have L1 : rf_L (iv_n y) law (iv_ev y) (fun _ => false) (px_wI M 56 21 (nI law)) := by
    obtain ⟨l1, l2, l3⟩ := L
    refine ⟨?_, ?_, ?_⟩
    · simp (disch := omega) only [me_II, me_Ii, me_Io, me_I2, me_L1, me_Li, me_LL, me_Lo, me_As, me_Ao, me_A2, me_Bs, me_Bo, me_B1]; exact l1
    · simp (disch := omega) only [me_II, me_Ii, me_Io, me_I2, me_L1, me_Li, me_LL, me_Lo, me_As, me_Ao, me_A2, me_Bs, me_Bo, me_B1]
    · simp (disch := omega) only [me_II, me_Ii, me_Io, me_I2, me_L1, me_Li, me_LL, me_Lo, me_As, me_Ao, me_A2, me_Bs, me_Bo, me_B1]; exact l3
  refine sr_223 L1 (by omega) hl (fun e he => hy.2.2.2.2.2 e he) (fun M1 k1 A1 => sg_301_9 ?_)
  have L2 := rf_L_gq L1 k1
  rw [L2.1]
  refine sr_272 (s := tr_s y law (fun _ => false)) (A1.1 _ (Nat.le_refl _)) (trW hy (Nat.le_refl _)) (trT hy hl (Nat.le_refl _)) (by omega) (fun M2 k2 => sg_301_17 ?_)
  have hb : pl_lo (tr_s y law (fun _ => false)) < 2 ^ 15 := pl_L_lt _ _
  refine sr_176 (by omega) (sg_301_20 ?_)
  have e1 : in_pc 16 (2 * pl_lo (tr_s y law (fun _ => false))) = lo_by y law := by
    rw [pc_al (by rw [Nat.testBit_zero]; exact decide_eq_false (by omega)), Nat.mul_div_cancel_left _ (by omega)]
    rfl
  rw [e1]
  refine h M2 (rq_tr (rq_F rq_rf (by omega)) (rq_tr (rq_g k1) (rq_p k2))) ?_
  obtain ⟨l1, l2, l3⟩ := L2
  refine ⟨?_, ?_, ?_⟩
  · rw [k2.2.2 20 (by omega) (by omega)]; exact l1
  · rw [k2.2.2 21 (by omega) (by omega)]; exact l2
  · rw [k2.1 63 (by omega) (by omega) (by omega), k2.1 64 (by omega) (by omega) (by omega), k2.1 65 (by omega) (by omega) (by omega), k2.1 66 (by omega) (by omega) (by omega), k2.1 67 (by omega) (by omega) (by omega)]; exact l3
theorem sr_302 (R : ir y M) {x1 : Int32} (h : ∀ M', rq M M' → Q (some (.int (an_132 y x1))) M') : px_T 0 302 0 [some (.ref 56), some (.int x1)] [] M Q := by
  unfold an_132 at h
  refine sg_302_0 (sr_224 R (fun M1 q1 L1 A1 => ?_))
  have h9 := h M1 q1
  refine sg_302_4 (fun c => ?_) (fun c => sr_175i (a := 0) (b := 3) (by omega) (by omega) (sg_302_16 (fun d => ?_) (fun d => ?_)))
  · rw [in_b0] at c
    rw [c, Bool.false_and, if_neg (by decide)] at h9
    exact h9
  · rw [in_b0] at d
    have d2 : rg x1 0 3 = false := d
    rw [d2, Bool.and_false, if_neg (by decide)] at h9
    exact h9
  · rw [in_b0, Bool.not_eq_false] at c d
    have d2 : rg x1 0 3 = true := d
    rw [c, d2, Bool.true_and, if_pos rfl] at h
    obtain ⟨k, rfl, k1, k2⟩ := rg_of d2 (by omega) (by omega)
    rw [in_cl (by omega)] at h
    exact sr_301 R.1 (by omega) L1 (fun M2 q2 _ => sg_302_24 (h M2 (rq_tr q1 q2)))
theorem sr_303 (R : ir y M) (h : ∀ M', rq M M' → Q (some (.int (an_133 y))) M') : px_T 0 303 0 [some (.ref 56), none, none] [] M Q := by
  unfold an_133 at h
  refine sg_303_0 (sr_224 R (fun M1 q1 L1 A1 => sg_303_4 (fun c => ?_) (fun c => ?_)))
  · rw [in_b0] at c
    rw [if_neg (of_decide_eq_false c)] at h
    exact h M1 q1
  · rw [in_b0, Bool.not_eq_false] at c
    rw [if_pos (of_decide_eq_true c)] at h
    have hl : ∀ (n k l0 : Nat) (N : px_Mem), k + n = 3 → rq M N → rf_L (iv_n y) l0 (iv_ev y) (fun _ => false) N → px_T 0 303 14 [some (.ref 56), some (.int (nI (mn_go (lo_by y) k))), some (.int (nI (k + 1)))] [] N Q := by
      intro n
      induction n with
      | zero =>
        intro k l0 N hk q L
        have e1 : k = 3 := by omega
        subst e1
        refine sg_303_14 (fun c1 => ?_) (fun c1 => by exfalso; (try simp (disch := omega) only [in_lt, in_le, in_eq, in_add, in_mul, in_sb, in_cl, in_bz, in_bo, in_mo, not_true_eq_false, not_false_eq_true, il_0, il_1, il_2, il_3, il_4, il_5, il_6, il_7, il_8, il_9, il_10, il_11, il_12, il_13, il_14, il_15, il_16, il_31] at c1) <;> omega)
        exact h N q
      | succ n ih =>
        intro k l0 N hk q L
        have hml := mn_go_le (lo_by y) k
        refine sg_303_14 (fun c1 => by exfalso; (try simp (disch := omega) only [in_lt, in_le, in_eq, in_add, in_mul, in_sb, in_cl, in_bz, in_bo, in_mo, not_true_eq_false, not_false_eq_true, il_0, il_1, il_2, il_3, il_4, il_5, il_6, il_7, il_8, il_9, il_10, il_11, il_12, il_13, il_14, il_15, il_16, il_31] at c1) <;> omega) (fun c1 => ?_)
        refine sr_301 (law := k + 1) R.1 (by omega) L (fun M2 q2 L2 => sg_303_24 ?_)
        refine sr_301 (law := mn_go (lo_by y) k) R.1 (by omega) L2 (fun M3 q3 L3 => ?_)
        have ih2 := ih (k + 1) _ M3 (by omega) (rq_tr q (rq_tr q2 q3)) L3
        rw [mn_go_s] at ih2
        have b1 := lo_by_le (y := y) (law := k + 1)
        have b2 := lo_by_le (y := y) (law := mn_go (lo_by y) k)
        refine sg_303_29 (fun c => ?_) (fun c => ?_)
        · simp (disch := omega) only [in_lt, in_le, in_eq, in_add, in_mul, in_sb, in_cl, in_bz, in_bo, in_mo, not_true_eq_false, not_false_eq_true, il_0, il_1, il_2, il_3, il_4, il_5, il_6, il_7, il_8, il_9, il_10, il_11, il_12, il_13, il_14, il_15, il_16, il_31] at c
          rw [if_neg (by omega)] at ih2
          rw [in_a1]
          exact ih2
        · simp (disch := omega) only [in_lt, in_le, in_eq, in_add, in_mul, in_sb, in_cl, in_bz, in_bo, in_mo, not_true_eq_false, not_false_eq_true, il_0, il_1, il_2, il_3, il_4, il_5, il_6, il_7, il_8, il_9, il_10, il_11, il_12, il_13, il_14, il_15, il_16, il_31] at c
          rw [if_pos (by omega)] at ih2
          rw [in_a1]
          exact ih2
    exact hl 3 0 _ M1 rfl q1 L1
end T51
