/-! questions about handles and objects: the reference -/
section Q48
variable {M : px_Mem} {Q : px_Po} {y : iv_Y} {s : ws_S}
theorem ra_kd {t : Nat} (A : ra y M) (ht : t ≤ iv_n y) : ∀ x, x < ws_md (iv_rn y t) → M.1 71 x = nI (ws_kd (iv_rn y t) x) := by
  intro x hx
  have e : t + (iv_n y - t) = iv_n y := by omega
  have h1 := ws_kd_run (law := iv_lw y) (iv_ev y) (fun _ => false) t (x := x) hx (iv_n y - t)
  have h2 := ws_md_mono (law := iv_lw y) (iv_ev y) (fun _ => false) t (iv_n y - t)
  rw [e] at h1 h2
  have hx2 : x < ws_md (ws_run (iv_lw y) (iv_ev y) (fun _ => false) t) := hx
  rw [A.2.2 x (by omega), h1]
  rfl
theorem sr_247 {t v : Nat} (hA : rt_at s t M) (hob : ∀ i, ws_ob s i ≤ 200) (ht : t ≤ 72) (hv : v < 2 ^ 30) (h : Q (some (.int (nI (ws_ct (ws_ob s) v)))) M) : px_T 0 247 0 [some (.ref 56), some (.int (nI v)), some (.int (nI t)), none, none] [] M Q := by
  refine sg_247_0 ?_
  have hl : ∀ i, i ≤ 128 → px_T 0 247 5 [some (.ref 56), some (.int (nI v)), some (.int (nI t)), some (.int (nI (fb_ct (fun i => decide (ws_ob s i = v + 1)) i))), some (.int (nI i))] [] M Q := by
    refine lp_dn ?_ (fun i hi ih => ?_)
    · refine sg_247_5 (fun c1 => ?_) (fun c1 => by exfalso; (try simp (disch := omega) only [in_lt, in_le, in_eq, in_add, in_mul, in_sb, in_cl, in_bz, in_bo, in_mo, not_true_eq_false, not_false_eq_true, il_0, il_1, il_2, il_3, il_4, il_5, il_6, il_7, il_8, il_9, il_10, il_11, il_12, il_13, il_14, il_15, il_16, il_31, il_128] at c1) <;> omega) (fun c1 c2 => by exfalso; (try simp (disch := omega) only [in_lt, in_le, in_eq, in_add, in_mul, in_sb, in_cl, in_bz, in_bo, in_mo, not_true_eq_false, not_false_eq_true, il_0, il_1, il_2, il_3, il_4, il_5, il_6, il_7, il_8, il_9, il_10, il_11, il_12, il_13, il_14, il_15, il_16, il_31, il_128] at c1 c2) <;> omega) (fun c1 c2 => by exfalso; (try simp (disch := omega) only [in_lt, in_le, in_eq, in_add, in_mul, in_sb, in_cl, in_bz, in_bo, in_mo, not_true_eq_false, not_false_eq_true, il_0, il_1, il_2, il_3, il_4, il_5, il_6, il_7, il_8, il_9, il_10, il_11, il_12, il_13, il_14, il_15, il_16, il_31, il_128] at c1 c2) <;> omega)
      exact h
    · have hb := hob i
      have f := hA.2.2.2.1 i hi
      refine sg_247_5 (fun c1 => by exfalso; (try simp (disch := omega) only [in_lt, in_le, in_eq, in_add, in_mul, in_sb, in_cl, in_bz, in_bo, in_mo, not_true_eq_false, not_false_eq_true, il_0, il_1, il_2, il_3, il_4, il_5, il_6, il_7, il_8, il_9, il_10, il_11, il_12, il_13, il_14, il_15, il_16, il_31, il_128] at c1) <;> omega) (fun c1 => by (try simp (disch := omega) only [in_lt, in_le, in_eq, in_add, in_mul, in_sb, in_cl, in_bz, in_bo, in_mo, not_true_eq_false, not_false_eq_true, il_0, il_1, il_2, il_3, il_4, il_5, il_6, il_7, il_8, il_9, il_10, il_11, il_12, il_13, il_14, il_15, il_16, il_31, il_128] at c1 ⊢) <;> exact me_vin (by omega) (by omega)) (fun c1 c2 => ?_) (fun c1 c2 => ?_)
      · rw [il_128, in_mul, in_add, in_cl (by omega), f, in_oeq (by omega) hv] at c2
        rw [ct_y (decide_eq_true c2)] at ih
        rw [in_a1, in_a1]
        exact ih
      · rw [il_128, in_mul, in_add, in_cl (by omega), f, in_oeq (by omega) hv] at c2
        rw [ct_n (decide_eq_false c2)] at ih
        rw [il_0, in_add, in_a1, Nat.add_zero]
        exact ih
  exact hl 0 (by omega)
theorem sr_253 {t a : Nat} (hA : rt_at s t M) (hK : ∀ x, x < ws_md s → M.1 71 x = nI (ws_kd s x)) (hW : ws_W s) (hm : ws_md s ≤ 140) (ht : t ≤ 72) (ha : a < 200) (h : Q (some (.int (vl_qu s a))) M) : px_T 0 253 0 [some (.ref 56), some (.int (nI a)), some (.int (nI t)), none] [] M Q := by
  have f := hA.1.2
  have hob : ∀ i, ws_ob s i ≤ 200 := fun i => by have := hW.2.2.2.2.1 i; omega
  unfold vl_qu at h
  by_cases hmd : a < ws_md s
  · have fk := hK a hmd
    obtain ⟨w1, w2, w3⟩ := hW.2.2.2.2.2.2.1 a hmd
    have fin : ∀ r, sh_re s a = r → r + 1 < ws_md s → ¬ ws_kd s a = 0 → px_T 0 247 0 [some (.ref 56), some (.int (nI r)), some (.int (nI t)), none, none] [] M (fun r1 M1 => px_T 0 253 45 [some (.ref 56), some (.int (nI a)), some (.int (nI t)), some (.int (nI r))] (r1.toList ++ []) M1 Q) := by
      intro r hr r1 hk0
      rw [hr] at h
      have l1 := ws_ct_le (ws_ob s) r
      have l2 := ws_ct_le (ws_ob s) (r + 1)
      refine sr_247 hA hob ht (by omega) (sg_253_45 ?_)
      rw [in_a1]
      refine sr_247 hA hob ht (by omega) ?_
      refine sg_253_53 (fun c1 => ?_) (fun c1 => by (try simp (disch := omega) only [in_lt, in_le, in_eq, in_add, in_mul, in_sb, in_cl, in_bz, in_bo, in_mo, not_true_eq_false, not_false_eq_true, il_0, il_1, il_2, il_3, il_4, il_5, il_6, il_7, il_8, il_9, il_10, il_11, il_12, il_13, il_14, il_15, il_16, il_31, il_200] at c1 ⊢) <;> exact me_vin (by omega) (by omega)) (fun c1 => ?_)
      · simp (disch := omega) only [in_lt, in_le, in_eq, in_add, in_mul, in_sb, in_cl, in_bz, in_bo, in_mo, not_true_eq_false, not_false_eq_true, il_0, il_1, il_2, il_3, il_4, il_5, il_6, il_7, il_8, il_9, il_10, il_11, il_12, il_13, il_14, il_15, il_16, il_31] at c1
        rw [if_neg (fun q => by omega)] at h
        exact h
      · simp (disch := omega) only [in_lt, in_le, in_eq, in_add, in_mul, in_sb, in_cl, in_bz, in_bo, in_mo, not_true_eq_false, not_false_eq_true, il_0, il_1, il_2, il_3, il_4, il_5, il_6, il_7, il_8, il_9, il_10, il_11, il_12, il_13, il_14, il_15, il_16, il_31] at c1
        rw [if_pos ⟨hmd, hk0, by omega⟩] at h
        rw [il_200, in_mul, in_add, in_cl (by omega), hA.2.2.2.2 r (by omega)]
        exact h
    refine sg_253_0 (by (try simp (disch := omega) only [in_lt, in_le, in_eq, in_add, in_mul, in_sb, in_cl, in_bz, in_bo, in_mo, not_true_eq_false, not_false_eq_true, il_0, il_1, il_2, il_3, il_4, il_5, il_6, il_7, il_8, il_9, il_10, il_11, il_12, il_13, il_14, il_15, il_16, il_31, f, fk] at ⊢) <;> exact me_vin (by omega) (by omega)) (fun c1 => by exfalso; (try simp (disch := omega) only [in_lt, in_le, in_eq, in_add, in_mul, in_sb, in_cl, in_bz, in_bo, in_mo, not_true_eq_false, not_false_eq_true, il_0, il_1, il_2, il_3, il_4, il_5, il_6, il_7, il_8, il_9, il_10, il_11, il_12, il_13, il_14, il_15, il_16, il_31, f, fk] at c1) <;> omega) (fun c1 => by (try simp (disch := omega) only [in_lt, in_le, in_eq, in_add, in_mul, in_sb, in_cl, in_bz, in_bo, in_mo, not_true_eq_false, not_false_eq_true, il_0, il_1, il_2, il_3, il_4, il_5, il_6, il_7, il_8, il_9, il_10, il_11, il_12, il_13, il_14, il_15, il_16, il_31, f, fk] at c1 ⊢) <;> exact me_vin (by omega) (by omega)) (fun c1 c2 => ?_) (fun c1 c2 c3 => ?_) (fun c1 c2 c3 => ?_)
    · simp (disch := omega) only [in_lt, in_le, in_eq, in_add, in_mul, in_sb, in_cl, in_bz, in_bo, in_mo, not_true_eq_false, not_false_eq_true, il_0, il_1, il_2, il_3, il_4, il_5, il_6, il_7, il_8, il_9, il_10, il_11, il_12, il_13, il_14, il_15, il_16, il_31, fk] at c2
      rw [if_neg (fun q => q.2.1 c2)] at h
      exact h
    · simp (disch := omega) only [in_lt, in_le, in_eq, in_add, in_mul, in_sb, in_cl, in_bz, in_bo, in_mo, not_true_eq_false, not_false_eq_true, il_0, il_1, il_2, il_3, il_4, il_5, il_6, il_7, il_8, il_9, il_10, il_11, il_12, il_13, il_14, il_15, il_16, il_31, fk] at c2 c3
      exact fin a (if_pos c3) (w2 c3).1 c2
    · simp (disch := omega) only [in_lt, in_le, in_eq, in_add, in_mul, in_sb, in_cl, in_bz, in_bo, in_mo, not_true_eq_false, not_false_eq_true, il_0, il_1, il_2, il_3, il_4, il_5, il_6, il_7, il_8, il_9, il_10, il_11, il_12, il_13, il_14, il_15, il_16, il_31, fk] at c2 c3
      have hk2 := w3 (by omega)
      rw [in_s1 hk2.1]
      exact fin (a - 1) (if_neg c3) (by omega) c2
  · rw [if_neg (fun q => hmd q.1)] at h
    refine sg_253_0 (by (try simp (disch := omega) only [in_lt, in_le, in_eq, in_add, in_mul, in_sb, in_cl, in_bz, in_bo, in_mo, not_true_eq_false, not_false_eq_true, il_0, il_1, il_2, il_3, il_4, il_5, il_6, il_7, il_8, il_9, il_10, il_11, il_12, il_13, il_14, il_15, il_16, il_31, f] at ⊢) <;> exact me_vin (by omega) (by omega)) (fun c1 => h) (fun c1 => by exfalso; (try simp (disch := omega) only [in_lt, in_le, in_eq, in_add, in_mul, in_sb, in_cl, in_bz, in_bo, in_mo, not_true_eq_false, not_false_eq_true, il_0, il_1, il_2, il_3, il_4, il_5, il_6, il_7, il_8, il_9, il_10, il_11, il_12, il_13, il_14, il_15, il_16, il_31, f] at c1) <;> omega) (fun c1 c2 => by exfalso; (try simp (disch := omega) only [in_lt, in_le, in_eq, in_add, in_mul, in_sb, in_cl, in_bz, in_bo, in_mo, not_true_eq_false, not_false_eq_true, il_0, il_1, il_2, il_3, il_4, il_5, il_6, il_7, il_8, il_9, il_10, il_11, il_12, il_13, il_14, il_15, il_16, il_31, f] at c1 c2) <;> omega) (fun c1 c2 c3 => by exfalso; (try simp (disch := omega) only [in_lt, in_le, in_eq, in_add, in_mul, in_sb, in_cl, in_bz, in_bo, in_mo, not_true_eq_false, not_false_eq_true, il_0, il_1, il_2, il_3, il_4, il_5, il_6, il_7, il_8, il_9, il_10, il_11, il_12, il_13, il_14, il_15, il_16, il_31, f] at c1 c2 c3) <;> omega) (fun c1 c2 c3 => by exfalso; (try simp (disch := omega) only [in_lt, in_le, in_eq, in_add, in_mul, in_sb, in_cl, in_bz, in_bo, in_mo, not_true_eq_false, not_false_eq_true, il_0, il_1, il_2, il_3, il_4, il_5, il_6, il_7, il_8, il_9, il_10, il_11, il_12, il_13, il_14, il_15, il_16, il_31, f] at c1 c2 c3) <;> omega)
theorem sr_243l {p : Nat} (hy : iv_yok y) (L : rl y M) (A : ra y M) (p2 : p ≤ 15) : ∀ (n t : Nat), t + n = iv_n y + 1 → Q (some (.int (vl_ft (fun t => (ws_al (iv_rn y t)).testBit p) n t))) M → px_T 0 243 2 [some (.ref 56), some (.int (nI p)), some (.int (nI t))] [] M Q
  | 0, t, ht, h => by
    have hn := iv_yn hy
    have f := L.1
    refine sg_243_2 (fun c1 => ?_) (fun c1 => by exfalso; (try simp (disch := omega) only [in_lt, in_le, in_eq, in_add, in_mul, in_sb, in_cl, in_bz, in_bo, in_mo, not_true_eq_false, not_false_eq_true, il_0, il_1, il_2, il_3, il_4, il_5, il_6, il_7, il_8, il_9, il_10, il_11, il_12, il_13, il_14, il_15, il_16, il_31, f] at c1) <;> omega)
    exact h
  | n + 1, t, ht, h => by
    have hn := iv_yn hy
    have f := L.1
    refine sg_243_2 (fun c1 => by exfalso; (try simp (disch := omega) only [in_lt, in_le, in_eq, in_add, in_mul, in_sb, in_cl, in_bz, in_bo, in_mo, not_true_eq_false, not_false_eq_true, il_0, il_1, il_2, il_3, il_4, il_5, il_6, il_7, il_8, il_9, il_10, il_11, il_12, il_13, il_14, il_15, il_16, il_31, f] at c1) <;> omega) (fun c1 => ?_)
    refine sr_227 (A.1 t (by omega)) (iv_rnW hy (by omega)).1.1 (by omega) (by omega) ?_
    unfold vl_ft at h
    refine sg_243_16 (fun c => ?_) (fun c => ?_)
    · rw [in_b0] at c
      have c' : (ws_al (iv_rn y t)).testBit p = false := c
      rw [c', if_neg (by decide)] at h
      rw [in_a1]
      exact sr_243l hy L A p2 n (t + 1) (by omega) h
    · rw [in_b0, Bool.not_eq_false] at c
      have c' : (ws_al (iv_rn y t)).testBit p = true := c
      rw [c', if_pos rfl] at h
      exact h
theorem sr_243 {p : Nat} (hy : iv_yok y) (L : rl y M) (A : ra y M) (p2 : p ≤ 15) (h : Q (some (.int (vl_101 y p))) M) : px_T 0 243 0 [some (.ref 56), some (.int (nI p)), none] [] M Q :=
  sg_243_0 (sr_243l hy L A p2 (iv_n y + 1) 0 (by omega) h)
theorem sr_244 (R : ir y M) {x1 : Int32} (h : ∀ M', rq M M' → Q (some (.int (an_101 y x1))) M') : px_T 0 244 0 [some (.ref 56), some (.int x1)] [] M Q := by
  unfold an_101 at h
  refine sg_244_0 (sr_224 R (fun M1 q1 L1 A1 => ?_))
  have h9 := h M1 q1
  refine sg_244_4 (fun c => ?_) (fun c => sr_184 (sg_244_12 (fun d => ?_) (fun d => ?_)))
  · rw [in_b0] at c
    rw [c, Bool.false_and, if_neg (by decide)] at h9
    exact h9
  · rw [in_b0] at d
    rw [d, Bool.and_false, if_neg (by decide)] at h9
    exact h9
  · rw [in_b0, Bool.not_eq_false] at c d
    rw [c, d, Bool.true_and, if_pos rfl] at h9
    obtain ⟨p, rfl, p1, p2⟩ := rg_of d (by omega) (by omega)
    rw [in_cl (by omega)] at h9
    exact sr_243 R.1 L1 A1 (by omega) (sg_244_20 h9)
theorem sr_245l {p : Nat} (hy : iv_yok y) (L : rl y M) (A : ra y M) (p2 : p ≤ 15) : ∀ (n t : Nat), t + n = iv_n y + 1 → Q (some (.int (vl_ft (fun t => !(ws_al (iv_rn y t)).testBit p) n t))) M → px_T 0 245 35 [some (.ref 56), some (.int (nI p)), some (.int (nI t))] [] M Q
  | 0, t, ht, h => by
    have hn := iv_yn hy
    have f := L.1
    refine sg_245_35 (fun c1 => ?_) (fun c1 => by exfalso; (try simp (disch := omega) only [in_lt, in_le, in_eq, in_add, in_mul, in_sb, in_cl, in_bz, in_bo, in_mo, not_true_eq_false, not_false_eq_true, il_0, il_1, il_2, il_3, il_4, il_5, il_6, il_7, il_8, il_9, il_10, il_11, il_12, il_13, il_14, il_15, il_16, il_31, f] at c1) <;> omega)
    exact h
  | n + 1, t, ht, h => by
    have hn := iv_yn hy
    have f := L.1
    refine sg_245_35 (fun c1 => by exfalso; (try simp (disch := omega) only [in_lt, in_le, in_eq, in_add, in_mul, in_sb, in_cl, in_bz, in_bo, in_mo, not_true_eq_false, not_false_eq_true, il_0, il_1, il_2, il_3, il_4, il_5, il_6, il_7, il_8, il_9, il_10, il_11, il_12, il_13, il_14, il_15, il_16, il_31, f] at c1) <;> omega) (fun c1 => ?_)
    refine sr_227 (A.1 t (by omega)) (iv_rnW hy (by omega)).1.1 (by omega) (by omega) ?_
    unfold vl_ft at h
    refine sg_245_49 (fun c => ?_) (fun c => ?_)
    · rw [in_b0] at c
      have c' : (ws_al (iv_rn y t)).testBit p = false := c
      rw [c', if_pos (by decide)] at h
      exact h
    · rw [in_b0, Bool.not_eq_false] at c
      have c' : (ws_al (iv_rn y t)).testBit p = true := c
      rw [c', if_neg (by decide)] at h
      rw [in_a1]
      exact sr_245l hy L A p2 n (t + 1) (by omega) h
theorem sr_245 (R : ir y M) {x1 : Int32} (h : ∀ M', rq M M' → Q (some (.int (an_102 y x1))) M') : px_T 0 245 0 [some (.ref 56), some (.int x1), none] [] M Q := by
  unfold an_102 at h
  have hn := iv_yn R.1
  refine sg_245_0 (sr_224 R (fun M1 q1 L1 A1 => ?_))
  have h9 := h M1 q1
  refine sg_245_4 (fun c => ?_) (fun c => sr_184 (sg_245_12 (fun d => ?_) (fun d => ?_)))
  · rw [in_b0] at c
    rw [c, Bool.false_and, if_neg (by decide)] at h9
    exact h9
  · rw [in_b0] at d
    rw [d, Bool.and_false, if_neg (by decide)] at h9
    exact h9
  · rw [in_b0, Bool.not_eq_false] at c d
    rw [c, d, Bool.true_and, if_pos rfl] at h9
    obtain ⟨p, rfl, p1, p2⟩ := rg_of d (by omega) (by omega)
    rw [in_cl (by omega)] at h9
    refine sr_243 R.1 L1 A1 (by omega) ?_
    unfold vl_102 at h9
    refine sg_245_23 (fun e => ?_) (fun e => ?_)
    · rw [if_pos e] at h9
      exact h9
    · rw [if_neg e] at h9
      refine sr_243 R.1 L1 A1 (by omega) (sg_245_34 ?_)
      rcases vl_ft_or (fun t => (ws_al (iv_rn y t)).testBit p) (iv_n y + 1) 0 with e2 | ⟨u, u1, u2, e2⟩
      · exact absurd e2 e
      · have e3 : vl_101 y p = nI u := e2
        rw [e3, in_cl (by omega)] at h9
        rw [e3]
        exact sr_245l R.1 L1 A1 (by omega) (iv_n y + 1 - u) u (by omega) h9
theorem sr_248 (R : ir y M) {x1 x2 x3 : Int32} (h : ∀ M', rq M M' → Q (some (.int (an_103 y x1 x2 x3))) M') : px_T 0 248 0 [some (.ref 56), some (.int x1), some (.int x2), some (.int x3)] [] M Q := by
  unfold an_103 at h
  have hn := iv_yn R.1
  refine sg_248_0 (sr_226 R (fun M1 t p q1 L1 A1 ht hp t1 p1 p2 g => sg_248_6 (fun c => absurd c (by decide)) (fun _ => sr_185 ?_)) (fun M1 q1 g => sg_248_6 (fun _ => ?_) (fun c => absurd rfl c)))
  · have h9 := h M1 q1
    rw [← Bool.and_assoc, g, Bool.true_and] at h9
    refine sg_248_13 (fun d => ?_) (fun d => ?_)
    · rw [in_b0] at d
      rw [d, if_neg (by decide)] at h9
      exact h9
    · rw [in_b0, Bool.not_eq_false] at d
      rw [d, if_pos rfl] at h9
      obtain ⟨k, rfl, k1, k2⟩ := rg_of d (by omega) (by omega)
      subst hp ht
      rw [in_cl (by omega), in_cl (by omega), in_cl (by omega)] at h9
      exact sr_246 (A1.1 t t1) (by omega) (by omega) (by omega) (sg_248_23 h9)
  · have h9 := h M1 q1
    rw [← Bool.and_assoc, g, Bool.false_and, if_neg (by decide)] at h9
    exact h9
theorem sr_249 (R : ir y M) {x1 x2 : Int32} (h : ∀ M', rq M M' → Q (some (.int (an_104 y x1 x2))) M') : px_T 0 249 0 [some (.ref 56), some (.int x1), some (.int x2), none, none] [] M Q := by
  refine sg_249_0 (sr_226 R (fun M1 t p q1 L1 A1 ht hp t1 p1 p2 g => ?_) (fun M1 q1 g => sg_249_6 (fun c1 => by have h9 := h M1 q1; rw [(show an_104 y x1 x2 = -2 from by (unfold an_104; simp only [g, Bool.and_false, Bool.false_and, Bool.false_eq_true, if_false]))] at h9; exact h9) (fun c1 => absurd rfl c1)))
  subst hp ht
  have hn := iv_yn R.1
  have ev : an_104 y (nI p) (nI t) = vl_104 (iv_rn y t) p := by unfold an_104; simp (disch := omega) only [g, in_cl, if_true]
  rw [ev] at h
  have hA : rt_at (iv_rn y t) t M1 := A1.1 t t1
  have hW := iv_rnW R.1 t1
  have hT := iv_rnT R.1 t1
  have hm := iv_rnm R.1 t1
  have ha := hW.1.1
  generalize iv_rn y t = s at h hA hW hT hm ha
  refine sg_249_6 (fun c1 => absurd c1 (by decide)) (fun c1 => ?_)
  have hl : ∀ i, i ≤ 8 → px_T 0 249 17 [some (.ref 56), some (.int (nI p)), some (.int (nI t)), some (.int (nI (bs (fun h => decide (ws_ob s (8 * p + h) ≠ 0)) i))), some (.int (nI i))] [] M1 Q := by
    refine lp_dn ?_ (fun i hi ih => ?_)
    · refine sg_249_17 (fun c1 => ?_) (fun c1 => by exfalso; (try simp (disch := omega) only [in_lt, in_le, in_eq, in_add, in_mul, in_sb, in_cl, in_bz, in_bo, in_mo, not_true_eq_false, not_false_eq_true, il_0, il_1, il_2, il_3, il_4, il_5, il_6, il_7, il_8, il_9, il_10, il_11, il_12, il_13, il_14, il_15, il_16, il_31] at c1) <;> omega)
      exact h M1 q1
    · refine sg_249_17 (fun c1 => by exfalso; (try simp (disch := omega) only [in_lt, in_le, in_eq, in_add, in_mul, in_sb, in_cl, in_bz, in_bo, in_mo, not_true_eq_false, not_false_eq_true, il_0, il_1, il_2, il_3, il_4, il_5, il_6, il_7, il_8, il_9, il_10, il_11, il_12, il_13, il_14, il_15, il_16, il_31] at c1) <;> omega) (fun c1 => ?_)
      have fl := hW.2.2.2.2.1 (8 * p + i)
      refine sr_246 hA (by omega) (by omega) (by omega) ?_
      refine sg_249_33 (fun c => ?_) (fun c => ?_)
      · simp (disch := omega) only [in_lt, in_le, in_eq, in_add, in_mul, in_sb, in_cl, in_bz, in_bo, in_mo, not_true_eq_false, not_false_eq_true, il_0, il_1, il_2, il_3, il_4, il_5, il_6, il_7, il_8, il_9, il_10, il_11, il_12, il_13, il_14, il_15, il_16, il_31, in_om1] at c
        rw [bs_n (decide_eq_false (fun q => q c))] at ih
        rw [il_0, in_or, in_a1, Nat.or_zero]
        exact ih
      · simp (disch := omega) only [in_lt, in_le, in_eq, in_add, in_mul, in_sb, in_cl, in_bz, in_bo, in_mo, not_true_eq_false, not_false_eq_true, il_0, il_1, il_2, il_3, il_4, il_5, il_6, il_7, il_8, il_9, il_10, il_11, il_12, il_13, il_14, il_15, il_16, il_31, in_om1] at c
        rw [bs_y (decide_eq_true c)] at ih
        rw [in_one (by omega), in_or, in_a1]
        exact ih
  exact hl 0 (by omega)
theorem sr_250 (R : ir y M) {x1 x2 : Int32} (h : ∀ M', rq M M' → Q (some (.int (an_105 y x1 x2))) M') : px_T 0 250 0 [some (.ref 56), some (.int x1), some (.int x2)] [] M Q := by
  unfold an_105 at h
  have hn := iv_yn R.1
  refine sg_250_0 (sr_225 R (fun M1 t q1 L1 A1 ht t1 g => sg_250_5 (fun c => absurd c (by decide)) (fun _ => sr_186 ?_)) (fun M1 q1 g => sg_250_5 (fun _ => ?_) (fun c => absurd rfl c)))
  · have h9 := h M1 q1
    rw [g, Bool.true_and] at h9
    refine sg_250_12 (fun d => ?_) (fun d => ?_)
    · rw [in_b0] at d
      rw [d, if_neg (by decide)] at h9
      exact h9
    · rw [in_b0, Bool.not_eq_false] at d
      rw [d, if_pos rfl] at h9
      obtain ⟨o, rfl, o1, o2⟩ := rg_of d (by omega) (by omega)
      subst ht
      rw [in_cl (by omega), in_cl (by omega)] at h9
      have hm := iv_rnm R.1 t1
      exact sr_247 (A1.1 t t1) (fun i => by have := (iv_rnW R.1 t1).2.2.2.2.1 i; show ws_ob (iv_rn y t) i ≤ 200; omega) (by omega) (by omega) (sg_250_21 h9)
  · have h9 := h M1 q1
    rw [g, Bool.false_and, if_neg (by decide)] at h9
    exact h9
theorem sr_251 (R : ir y M) {x1 x2 : Int32} (h : ∀ M', rq M M' → Q (some (.int (an_106 y x1 x2))) M') : px_T 0 251 0 [some (.ref 56), some (.int x1), some (.int x2)] [] M Q := by
  unfold an_106 at h
  have hn := iv_yn R.1
  refine sg_251_0 (sr_225 R (fun M1 t q1 L1 A1 ht t1 g => sg_251_5 (fun c => absurd c (by decide)) (fun _ => sr_186 ?_)) (fun M1 q1 g => sg_251_5 (fun _ => ?_) (fun c => absurd rfl c)))
  · have h9 := h M1 q1
    rw [g, Bool.true_and] at h9
    cases d : rg x1 0 199 with
    | false =>
      rw [d, if_neg (by decide)] at h9
      exact sg_251_12 (fun _ => h9) (fun c => absurd rfl c) (fun c => absurd rfl c) (fun c => absurd rfl c) (fun c => absurd rfl c)
    | true =>
      rw [d, if_pos rfl] at h9
      obtain ⟨o, rfl, o1, o2⟩ := rg_of d (by omega) (by omega)
      subst ht
      rw [in_cl (by omega), in_cl (by omega)] at h9
      have hm := iv_rnm R.1 t1
      have hA : rt_at (iv_rn y t) t M1 := A1.1 t t1
      have hK := ra_kd A1 t1
      have f := hA.1.2
      unfold vl_106 at h9
      refine sg_251_12 (fun c => absurd c (by decide)) (fun _ => me_vin (by omega) (by omega)) (fun _ c2 => ?_) (fun _ c2 => me_vin (by omega) (by omega)) (fun _ c2 => ?_)
      · simp (disch := omega) only [in_lt, in_le, in_eq, in_add, in_mul, in_sb, in_cl, in_bz, in_bo, in_mo, not_true_eq_false, not_false_eq_true, il_0, il_1, il_2, il_3, il_4, il_5, il_6, il_7, il_8, il_9, il_10, il_11, il_12, il_13, il_14, il_15, il_16, il_31, f] at c2
        rw [if_neg (by omega)] at h9
        exact h9
      · simp (disch := omega) only [in_lt, in_le, in_eq, in_add, in_mul, in_sb, in_cl, in_bz, in_bo, in_mo, not_true_eq_false, not_false_eq_true, il_0, il_1, il_2, il_3, il_4, il_5, il_6, il_7, il_8, il_9, il_10, il_11, il_12, il_13, il_14, il_15, il_16, il_31, f] at c2
        rw [if_pos (by omega)] at h9
        rw [in_cl (by omega), hK o (by omega)]
        exact h9
  · have h9 := h M1 q1
    rw [g, Bool.false_and, if_neg (by decide)] at h9
    exact h9
theorem sr_252 (R : ir y M) {x1 : Int32} (h : ∀ M', rq M M' → Q (some (.int (an_107 y x1))) M') : px_T 0 252 0 [some (.ref 56), some (.int x1), none, none] [] M Q := by
  refine sg_252_0 (sr_225 R (fun M1 t q1 L1 A1 ht t1 g => ?_) (fun M1 q1 g => sg_252_5 (fun c1 => by have h9 := h M1 q1; rw [(show an_107 y x1 = -2 from by (unfold an_107; simp only [g, Bool.and_false, Bool.false_and, Bool.false_eq_true, if_false]))] at h9; exact h9) (fun c1 => absurd rfl c1)))
  subst ht
  have hn := iv_yn R.1
  have ev : an_107 y (nI t) = vl_107 (iv_rn y t) := by unfold an_107; simp (disch := omega) only [g, in_cl, if_true]
  rw [ev] at h
  have hA : rt_at (iv_rn y t) t M1 := A1.1 t t1
  have hW := iv_rnW R.1 t1
  have hT := iv_rnT R.1 t1
  have hm := iv_rnm R.1 t1
  have ha := hW.1.1
  generalize iv_rn y t = s at h hA hW hT hm ha
  refine sg_252_5 (fun c1 => absurd c1 (by decide)) (fun c1 => ?_)
  have f := hA.1.2
  have hob : ∀ i, ws_ob s i ≤ 200 := fun i => by have := hW.2.2.2.2.1 i; omega
  have hl : ∀ i, i ≤ ws_md s → px_T 0 252 15 [some (.ref 56), some (.int (nI t)), some (.int (nI (fb_ct (fun o => decide (0 < ws_ct (ws_ob s) o)) i))), some (.int (nI i))] [] M1 Q := by
    refine lp_dn ?_ (fun i hi ih => ?_)
    · refine sg_252_15 (by (try simp (disch := omega) only [in_lt, in_le, in_eq, in_add, in_mul, in_sb, in_cl, in_bz, in_bo, in_mo, not_true_eq_false, not_false_eq_true, il_0, il_1, il_2, il_3, il_4, il_5, il_6, il_7, il_8, il_9, il_10, il_11, il_12, il_13, il_14, il_15, il_16, il_31, f] at ⊢) <;> exact me_vin (by omega) (by omega)) (fun c1 => ?_) (fun c1 => by exfalso; (try simp (disch := omega) only [in_lt, in_le, in_eq, in_add, in_mul, in_sb, in_cl, in_bz, in_bo, in_mo, not_true_eq_false, not_false_eq_true, il_0, il_1, il_2, il_3, il_4, il_5, il_6, il_7, il_8, il_9, il_10, il_11, il_12, il_13, il_14, il_15, il_16, il_31, f] at c1) <;> omega)
      exact h M1 q1
    · refine sg_252_15 (by (try simp (disch := omega) only [in_lt, in_le, in_eq, in_add, in_mul, in_sb, in_cl, in_bz, in_bo, in_mo, not_true_eq_false, not_false_eq_true, il_0, il_1, il_2, il_3, il_4, il_5, il_6, il_7, il_8, il_9, il_10, il_11, il_12, il_13, il_14, il_15, il_16, il_31, f] at ⊢) <;> exact me_vin (by omega) (by omega)) (fun c1 => by exfalso; (try simp (disch := omega) only [in_lt, in_le, in_eq, in_add, in_mul, in_sb, in_cl, in_bz, in_bo, in_mo, not_true_eq_false, not_false_eq_true, il_0, il_1, il_2, il_3, il_4, il_5, il_6, il_7, il_8, il_9, il_10, il_11, il_12, il_13, il_14, il_15, il_16, il_31, f] at c1) <;> omega) (fun c1 => ?_)
      have fl := ws_ct_le (ws_ob s) i
      refine sr_247 hA hob (by omega) (by omega) ?_
      refine sg_252_32 (fun c => ?_) (fun c => ?_)
      · simp (disch := omega) only [in_lt, in_le, in_eq, in_add, in_mul, in_sb, in_cl, in_bz, in_bo, in_mo, not_true_eq_false, not_false_eq_true, il_0, il_1, il_2, il_3, il_4, il_5, il_6, il_7, il_8, il_9, il_10, il_11, il_12, il_13, il_14, il_15, il_16, il_31] at c
        rw [ct_n (decide_eq_false (by omega))] at ih
        rw [il_0, in_add, in_a1, Nat.add_zero]
        exact ih
      · simp (disch := omega) only [in_lt, in_le, in_eq, in_add, in_mul, in_sb, in_cl, in_bz, in_bo, in_mo, not_true_eq_false, not_false_eq_true, il_0, il_1, il_2, il_3, il_4, il_5, il_6, il_7, il_8, il_9, il_10, il_11, il_12, il_13, il_14, il_15, il_16, il_31] at c
        rw [ct_y (decide_eq_true (by omega))] at ih
        rw [in_a1, in_a1]
        exact ih
  exact hl 0 (by omega)
theorem sr_254 (R : ir y M) {x1 x2 : Int32} (h : ∀ M', rq M M' → Q (some (.int (an_108 y x1 x2))) M') : px_T 0 254 0 [some (.ref 56), some (.int x1), some (.int x2)] [] M Q := by
  unfold an_108 at h
  have hn := iv_yn R.1
  refine sg_254_0 (sr_225 R (fun M1 t q1 L1 A1 ht t1 g => sg_254_5 (fun c => absurd c (by decide)) (fun _ => sr_186 ?_)) (fun M1 q1 g => sg_254_5 (fun _ => ?_) (fun c => absurd rfl c)))
  · have h9 := h M1 q1
    rw [g, Bool.true_and] at h9
    refine sg_254_12 (fun d => ?_) (fun d => ?_)
    · rw [in_b0] at d
      rw [d, if_neg (by decide)] at h9
      exact h9
    · rw [in_b0, Bool.not_eq_false] at d
      rw [d, if_pos rfl] at h9
      obtain ⟨o, rfl, o1, o2⟩ := rg_of d (by omega) (by omega)
      subst ht
      rw [in_cl (by omega), in_cl (by omega)] at h9
      exact sr_253 (s := iv_rn y t) (A1.1 t t1) (ra_kd A1 t1) (iv_rnW R.1 t1) (iv_rnm R.1 t1) (by omega) (by omega) (sg_254_21 h9)
  · have h9 := h M1 q1
    rw [g, Bool.false_and, if_neg (by decide)] at h9
    exact h9
theorem sr_255 (R : ir y M) {x1 : Int32} (h : ∀ M', rq M M' → Q (some (.int (an_109 y x1))) M') : px_T 0 255 0 [some (.ref 56), some (.int x1), none, none] [] M Q := by
  refine sg_255_0 (sr_225 R (fun M1 t q1 L1 A1 ht t1 g => ?_) (fun M1 q1 g => sg_255_5 (fun c1 => by have h9 := h M1 q1; rw [(show an_109 y x1 = -2 from by (unfold an_109; simp only [g, Bool.and_false, Bool.false_and, Bool.false_eq_true, if_false]))] at h9; exact h9) (fun c1 => absurd rfl c1)))
  subst ht
  have hn := iv_yn R.1
  have hA : rt_at (iv_rn y t) t M1 := A1.1 t t1
  have hW := iv_rnW R.1 t1
  have hT := iv_rnT R.1 t1
  have hm := iv_rnm R.1 t1
  have ha := hW.1.1
  refine sg_255_5 (fun c1 => absurd c1 (by decide)) (fun c1 => ?_)
  have hK := ra_kd A1 t1
  have h9 := h M1 q1
  unfold an_109 at h9
  rw [g, if_pos rfl, in_cl (by omega)] at h9
  generalize iv_rn y t = s at h9 hA hW hT hm ha hK
  have f := hA.1.2
  have hl : ∀ i, i ≤ ws_md s → px_T 0 255 15 [some (.ref 56), some (.int (nI t)), some (.int (nI (sm (vn_b1 s) i))), some (.int (nI i))] [] M1 Q := by
    refine lp_dn ?_ (fun i hi ih => ?_)
    · refine sg_255_15 (by (try simp (disch := omega) only [in_lt, in_le, in_eq, in_add, in_mul, in_sb, in_cl, in_bz, in_bo, in_mo, not_true_eq_false, not_false_eq_true, il_0, il_1, il_2, il_3, il_4, il_5, il_6, il_7, il_8, il_9, il_10, il_11, il_12, il_13, il_14, il_15, il_16, il_31, f] at ⊢) <;> exact me_vin (by omega) (by omega)) (fun c1 => ?_) (fun c1 => by exfalso; (try simp (disch := omega) only [in_lt, in_le, in_eq, in_add, in_mul, in_sb, in_cl, in_bz, in_bo, in_mo, not_true_eq_false, not_false_eq_true, il_0, il_1, il_2, il_3, il_4, il_5, il_6, il_7, il_8, il_9, il_10, il_11, il_12, il_13, il_14, il_15, il_16, il_31, f] at c1) <;> omega) (fun c1 c2 => by exfalso; (try simp (disch := omega) only [in_lt, in_le, in_eq, in_add, in_mul, in_sb, in_cl, in_bz, in_bo, in_mo, not_true_eq_false, not_false_eq_true, il_0, il_1, il_2, il_3, il_4, il_5, il_6, il_7, il_8, il_9, il_10, il_11, il_12, il_13, il_14, il_15, il_16, il_31, f] at c1 c2) <;> omega) (fun c1 c2 => by exfalso; (try simp (disch := omega) only [in_lt, in_le, in_eq, in_add, in_mul, in_sb, in_cl, in_bz, in_bo, in_mo, not_true_eq_false, not_false_eq_true, il_0, il_1, il_2, il_3, il_4, il_5, il_6, il_7, il_8, il_9, il_10, il_11, il_12, il_13, il_14, il_15, il_16, il_31, f] at c1 c2) <;> omega)
      exact h9
    · have fk := hK i hi
      have fl := (hW.2.2.2.2.2.2.1 i hi).1
      have e1 : sm (vn_b1 s) (i + 1) = sm (vn_b1 s) i + vn_b1 s i := rfl
      rw [e1] at ih
      refine sg_255_15 (by (try simp (disch := omega) only [in_lt, in_le, in_eq, in_add, in_mul, in_sb, in_cl, in_bz, in_bo, in_mo, not_true_eq_false, not_false_eq_true, il_0, il_1, il_2, il_3, il_4, il_5, il_6, il_7, il_8, il_9, il_10, il_11, il_12, il_13, il_14, il_15, il_16, il_31, f, fk] at ⊢) <;> exact me_vin (by omega) (by omega)) (fun c1 => by exfalso; (try simp (disch := omega) only [in_lt, in_le, in_eq, in_add, in_mul, in_sb, in_cl, in_bz, in_bo, in_mo, not_true_eq_false, not_false_eq_true, il_0, il_1, il_2, il_3, il_4, il_5, il_6, il_7, il_8, il_9, il_10, il_11, il_12, il_13, il_14, il_15, il_16, il_31, f, fk] at c1) <;> omega) (fun c1 => by (try simp (disch := omega) only [in_lt, in_le, in_eq, in_add, in_mul, in_sb, in_cl, in_bz, in_bo, in_mo, not_true_eq_false, not_false_eq_true, il_0, il_1, il_2, il_3, il_4, il_5, il_6, il_7, il_8, il_9, il_10, il_11, il_12, il_13, il_14, il_15, il_16, il_31, f, fk] at c1 ⊢) <;> exact me_vin (by omega) (by omega)) (fun c1 c2 => ?_) (fun c1 c2 => ?_)
      · simp (disch := omega) only [in_lt, in_le, in_eq, in_add, in_mul, in_sb, in_cl, in_bz, in_bo, in_mo, not_true_eq_false, not_false_eq_true, il_0, il_1, il_2, il_3, il_4, il_5, il_6, il_7, il_8, il_9, il_10, il_11, il_12, il_13, il_14, il_15, il_16, il_31, fk] at c2
        refine sr_253 hA hK hW hm (by omega) (by omega) (sg_255_43 ?_)
        rw [vl_qm hW hm hi c2, in_add, in_a1]
        exact ih
      · simp (disch := omega) only [in_lt, in_le, in_eq, in_add, in_mul, in_sb, in_cl, in_bz, in_bo, in_mo, not_true_eq_false, not_false_eq_true, il_0, il_1, il_2, il_3, il_4, il_5, il_6, il_7, il_8, il_9, il_10, il_11, il_12, il_13, il_14, il_15, il_16, il_31, fk] at c2
        have e2 : vn_b1 s i = 0 := if_neg c2
        rw [e2] at ih
        rw [il_0, in_add, in_a1]
        exact ih
  exact hl 0 (by omega)
theorem sr_258 (R : ir y M) {x1 x2 x3 : Int32} (h : ∀ M', rq M M' → Q (some (.int (an_111 y x1 x2 x3))) M') : px_T 0 258 0 [some (.ref 56), some (.int x1), some (.int x2), some (.int x3), none, none, none, none] [] M Q := by
  unfold an_111 at h
  have hn := iv_yn R.1
  refine sg_258_0 (sr_226 R (fun M1 t p q1 L1 A1 ht hp t1 p1 p2 g => sg_258_6 (fun c => absurd c (by decide)) (fun _ => sr_185 ?_)) (fun M1 q1 g => sg_258_6 (fun _ => ?_) (fun c => absurd rfl c)))
  · have h9 := h M1 q1
    rw [← Bool.and_assoc, g, Bool.true_and] at h9
    refine sg_258_13 (fun d => ?_) (fun d => ?_)
    · rw [in_b0] at d
      rw [d, if_neg (by decide)] at h9
      exact h9
    · rw [in_b0, Bool.not_eq_false] at d
      rw [d, if_pos rfl] at h9
      obtain ⟨k, rfl, k1, k2⟩ := rg_of d (by omega) (by omega)
      subst hp ht
      rw [in_cl (by omega), in_cl (by omega), in_cl (by omega)] at h9
      have hA : rt_at (iv_rn y t) t M1 := A1.1 t t1
      have hW := iv_rnW R.1 t1
      have hm := iv_rnm R.1 t1
      generalize iv_rn y t = s at h9 hA hW hm
      refine sr_246 hA (by omega) (by omega) (by omega) ?_
      have fl := hW.2.2.2.2.1 (8 * p + k)
      unfold vl_111 at h9
      refine sg_258_29 (fun c => ?_) (fun c => ?_)
      · simp (disch := omega) only [in_lt, in_le, in_eq, in_add, in_mul, in_sb, in_cl, in_bz, in_bo, in_mo, not_true_eq_false, not_false_eq_true, il_0, il_1, il_2, il_3, il_4, il_5, il_6, il_7, il_8, il_9, il_10, il_11, il_12, il_13, il_14, il_15, il_16, il_31, in_om1] at c
        rw [if_pos c] at h9
        exact h9
      · simp (disch := omega) only [in_lt, in_le, in_eq, in_add, in_mul, in_sb, in_cl, in_bz, in_bo, in_mo, not_true_eq_false, not_false_eq_true, il_0, il_1, il_2, il_3, il_4, il_5, il_6, il_7, il_8, il_9, il_10, il_11, il_12, il_13, il_14, il_15, il_16, il_31, in_om1] at c
        rw [if_neg c] at h9
        obtain ⟨w, hw⟩ : ∃ w, ws_ob s (8 * p + k) = w + 1 := ⟨ws_ob s (8 * p + k) - 1, by omega⟩
        rw [hw, Nat.add_sub_cancel] at h9
        rw [hw, nI_pred]
        have lo : ∀ i, i ≤ 15 → ∀ d7 : Option Value, px_T 0 258 42 [some (.ref 56), some (.int (nI p)), some (.int (nI k)), some (.int (nI t)), some (.int (nI (hs_of (ws_ob s) w (8 * i)))), some (.int (nI w)), some (.int (nI (i + 1))), d7] [] M1 Q := by
          refine lp_dn ?_ (fun i hi ih => ?_)
          · intro d7
            refine sg_258_42 (fun c1 => ?_) (fun c1 => by exfalso; (try simp (disch := omega) only [in_lt, in_le, in_eq, in_add, in_mul, in_sb, in_cl, in_bz, in_bo, in_mo, not_true_eq_false, not_false_eq_true, il_0, il_1, il_2, il_3, il_4, il_5, il_6, il_7, il_8, il_9, il_10, il_11, il_12, il_13, il_14, il_15, il_16, il_31] at c1) <;> omega)
            exact h9
          · intro d7
            refine sg_258_42 (fun c1 => by exfalso; (try simp (disch := omega) only [in_lt, in_le, in_eq, in_add, in_mul, in_sb, in_cl, in_bz, in_bo, in_mo, not_true_eq_false, not_false_eq_true, il_0, il_1, il_2, il_3, il_4, il_5, il_6, il_7, il_8, il_9, il_10, il_11, il_12, il_13, il_14, il_15, il_16, il_31] at c1) <;> omega) (fun c1 => ?_)
            have li : ∀ j, j ≤ 8 → px_T 0 258 52 [some (.ref 56), some (.int (nI p)), some (.int (nI k)), some (.int (nI t)), some (.int (nI (hs_of (ws_ob s) w (8 * i + j)))), some (.int (nI w)), some (.int (nI (i + 1))), some (.int (nI j))] [] M1 Q := by
              refine lp_dn ?_ (fun j hj ih2 => ?_)
              · refine sg_258_52 (fun c1 => ?_) (fun c1 => by exfalso; (try simp (disch := omega) only [in_lt, in_le, in_eq, in_add, in_mul, in_sb, in_cl, in_bz, in_bo, in_mo, not_true_eq_false, not_false_eq_true, il_0, il_1, il_2, il_3, il_4, il_5, il_6, il_7, il_8, il_9, il_10, il_11, il_12, il_13, il_14, il_15, il_16, il_31] at c1) <;> omega)
                rw [in_a1]
                exact ih _
              · refine sg_258_52 (fun c1 => by exfalso; (try simp (disch := omega) only [in_lt, in_le, in_eq, in_add, in_mul, in_sb, in_cl, in_bz, in_bo, in_mo, not_true_eq_false, not_false_eq_true, il_0, il_1, il_2, il_3, il_4, il_5, il_6, il_7, il_8, il_9, il_10, il_11, il_12, il_13, il_14, il_15, il_16, il_31] at c1) <;> omega) (fun c1 => ?_)
                refine sr_246 hA (by omega) (by omega) (by omega) ?_
                have fl2 := hW.2.2.2.2.1 (8 * (i + 1) + j)
                have e1 : hs_of (ws_ob s) w (8 * i + (j + 1)) = hs_of (ws_ob s) w (8 * i + j) ||| (if ws_ob s (8 * (i + 1) + j) = w + 1 then 2 ^ i else 0) := by
                  have e3 : hs_of (ws_ob s) w (8 * i + j + 1) = hs_of (ws_ob s) w (8 * i + j) ||| (if ws_ob s (8 + (8 * i + j)) = w + 1 then 2 ^ ((8 * i + j) / 8) else 0) := rfl
                  rw [show 8 + (8 * i + j) = 8 * (i + 1) + j by omega, show (8 * i + j) / 8 = i by omega] at e3
                  exact e3
                rw [e1] at ih2
                refine sg_258_70 (fun c => ?_) (fun c => ?_)
                · rw [in_oeq (by omega) (by omega)] at c
                  rw [if_pos c] at ih2
                  rw [in_s1 (by omega), Nat.add_sub_cancel, in_one (by omega), in_or, in_a1]
                  exact ih2
                · rw [in_oeq (by omega) (by omega)] at c
                  rw [if_neg c] at ih2
                  rw [il_0, in_or, in_a1]
                  exact ih2
            exact li 0 (by omega)
        exact lo 0 (by omega) _
  · have h9 := h M1 q1
    rw [← Bool.and_assoc, g, Bool.false_and, if_neg (by decide)] at h9
    exact h9
end Q48
