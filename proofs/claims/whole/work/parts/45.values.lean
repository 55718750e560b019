/-! sets of bits, counts; the small questions to a world -/
def bs (f : Nat → Bool) : Nat → Nat
  | 0 => 0
  | n + 1 => bs f n ||| (if f n = true then 2 ^ n else 0)
theorem bs_lt (f : Nat → Bool) : ∀ n, bs f n < 2 ^ n
  | 0 => (show (0 : Nat) < 1 by omega)
  | n + 1 => by
    have ih := bs_lt f n
    have h1 : 2 ^ n < 2 ^ (n + 1) := Nat.pow_lt_pow_right (by omega) (by omega)
    refine Nat.or_lt_two_pow (by omega) ?_
    split
    · exact h1
    · omega
theorem bs_bit (f : Nat → Bool) (i : Nat) : ∀ n, (bs f n).testBit i = (decide (i < n) && f i)
  | 0 => by
    show (0 : Nat).testBit i = _
    rw [Nat.zero_testBit]
    rfl
  | n + 1 => by
    have ih := bs_bit f i n
    show (bs f n ||| (if f n = true then 2 ^ n else 0)).testBit i = _
    rw [Nat.testBit_or, ih]
    by_cases hi : i = n
    · subst hi
      rw [decide_eq_false (Nat.lt_irrefl i), decide_eq_true (Nat.lt_succ_self i), Bool.false_and, Bool.false_or, Bool.true_and]
      cases hf : f i with
      | true => rw [if_pos rfl, Nat.testBit_two_pow_self]
      | false => rw [if_neg (by decide), Nat.zero_testBit]
    · have h2 : (if f n = true then 2 ^ n else 0).testBit i = false := by
        split
        · rw [Nat.testBit_two_pow]
          exact decide_eq_false (by omega)
        · exact Nat.zero_testBit i
      rw [h2, Bool.or_false]
      congr 1
      exact decide_eq_decide.mpr (by omega)
theorem bs_cong {f g : Nat → Bool} : ∀ {n : Nat}, (∀ k, k < n → f k = g k) → bs f n = bs g n
  | 0, _ => rfl
  | n + 1, h => by
    show bs f n ||| _ = bs g n ||| _
    rw [bs_cong (fun k hk => h k (by omega)), h n (by omega)]
theorem bs_y {f : Nat → Bool} {n : Nat} (h : f n = true) : bs f (n + 1) = bs f n ||| 2 ^ n := by
  show bs f n ||| (if f n = true then 2 ^ n else 0) = _
  rw [if_pos h]
theorem bs_n {f : Nat → Bool} {n : Nat} (h : f n = false) : bs f (n + 1) = bs f n := by
  show bs f n ||| (if f n = true then 2 ^ n else 0) = _
  rw [if_neg (by rw [h]; decide), Nat.or_zero]
theorem bs_ne {f : Nat → Bool} {n : Nat} : bs f n ≠ 0 ↔ ∃ i, i < n ∧ f i = true := by
  constructor
  · intro h
    obtain ⟨i, hi⟩ := Nat.exists_testBit_of_ne_zero h
    rw [bs_bit, Bool.and_eq_true, decide_eq_true_iff] at hi
    exact ⟨i, hi⟩
  · rintro ⟨i, h1, h2⟩ h0
    have h3 := bs_bit f i n
    rw [h0, Nat.zero_testBit, decide_eq_true h1, h2] at h3
    exact absurd h3 (by decide)
theorem ct_y {p : Nat → Bool} {n : Nat} (h : p n = true) : fb_ct p (n + 1) = fb_ct p n + 1 := by rw [fb_ct_succ, if_pos h]
theorem ct_n {p : Nat → Bool} {n : Nat} (h : p n = false) : fb_ct p (n + 1) = fb_ct p n := by rw [fb_ct_succ, if_neg (by rw [h]; decide), Nat.add_zero]
theorem pc_ct : ∀ (k n : Nat), in_pc k n = fb_ct (fun i => n.testBit i) k
  | 0, _ => rfl
  | k + 1, n => by
    have h := fb_ct_split (fun i => n.testBit i) 1 k
    rw [Nat.add_comm 1 k] at h
    rw [h]
    show n % 2 + in_pc k (n / 2) = _
    rw [pc_ct k (n / 2)]
    congr 1
    · rw [fb_ct_succ]
      show _ = 0 + _
      rw [Nat.zero_add, Nat.testBit_zero]
      have := Nat.mod_two_eq_zero_or_one n
      rcases this with h | h <;> rw [h] <;> rfl
    · refine fb_ct_cong (fun i _ => ?_)
      show (n / 2).testBit i = n.testBit (1 + i)
      rw [Nat.testBit_div_two, Nat.add_comm]
theorem pc_al {a : Nat} (h : a.testBit 0 = false) : in_pc 16 a = in_pc 15 (a / 2) := by
  show a % 2 + in_pc 15 (a / 2) = _
  rw [Nat.testBit_zero] at h
  have h2 := of_decide_eq_false h
  omega
section V45
variable {M : px_Mem} {Q : px_Po} {y : iv_Y} {s : ws_S} {o : Nat}
theorem iv_rnT (hy : iv_yok y) {t : Nat} (ht : t ≤ iv_n y) : ws_T (iv_rn y t) := ws_T_run hy.1 (fun e he _ => hy.2.2.2.2.2 e (by omega))
theorem sw_63 (ho : px_isW o) (hC : ws_C s o M) (hW : ws_W s) {p : Nat} (h1 : 1 ≤ p) (h2 : p ≤ 15) (h : Q (some (.int (in_b ((ws_al s).testBit p)))) M) : px_T 0 63 0 [some (.ref o), some (.int (nI p))] [] M Q := sp_63 ho hC.1.1 hW.1.1 h1 h2 h
theorem sw_64 (ho : px_isW o) (hC : ws_C s o M) (hW : ws_W s) {p : Nat} (h1 : 1 ≤ p) (h2 : p ≤ 15) (h : Q (some (.int (vl_pa s p))) M) : px_T 0 64 0 [some (.ref o), some (.int (nI p))] [] M Q := sp_64 ho hC.1.1 hW.1.1 (hC.2.1 p (by omega)) h1 h2 h
theorem sw_68 (ho : px_isW o) (hC : ws_C s o M) {p k : Nat} (hp : p < 16) (hk : k < 8) (h : Q (some (.int (nI (ws_ob s (8 * p + k)) - 1))) M) : px_T 0 68 0 [some (.ref o), some (.int (nI p)), some (.int (nI k)), none] [] M Q := sp_68 ho hp hk (by rw [hC.2.2.2.1 _ (by omega)]; exact h)
/-- how many hang from q, over others or not -/
def vn_un (s : ws_S) (q : Nat) : Nat := fb_ct (fun i => (ws_al s).testBit (i + 1) && ws_hb (ws_pa s) q 16 (ws_pa s (i + 1))) 15
theorem sw_67 (ho : px_isW o) (hC : ws_C s o M) (hW : ws_W s) {q : Nat} (h1 : 1 ≤ q) (h2 : q ≤ 15) (h : Q (some (.int (nI (vn_un s q)))) M) : px_T 0 67 0 [some (.ref o), some (.int (nI q)), none, none] [] M Q := by
  refine sg_67_0 ho ?_
  have hl : ∀ i, i ≤ 15 → px_T 0 67 4 [some (.ref o), some (.int (nI q)), some (.int (nI (fb_ct (fun i => (ws_al s).testBit (i + 1) && ws_hb (ws_pa s) q 16 (ws_pa s (i + 1))) i))), some (.int (nI (i + 1)))] [] M Q := by
    refine lp_dn ?_ (fun i hi ih => ?_)
    · refine sg_67_4 ho (fun c1 => ?_) (fun c1 => by exfalso; (try simp (disch := omega) only [in_lt, in_le, in_eq, in_add, in_mul, in_sb, in_cl, in_bz, in_bo, in_mo, not_true_eq_false, not_false_eq_true, il_0, il_1, il_2, il_3, il_4, il_5, il_6, il_7, il_8, il_9, il_10, il_11, il_12, il_13, il_14, il_15, il_16, il_31] at c1) <;> omega)
      exact h
    · refine sg_67_4 ho (fun c1 => by exfalso; (try simp (disch := omega) only [in_lt, in_le, in_eq, in_add, in_mul, in_sb, in_cl, in_bz, in_bo, in_mo, not_true_eq_false, not_false_eq_true, il_0, il_1, il_2, il_3, il_4, il_5, il_6, il_7, il_8, il_9, il_10, il_11, il_12, il_13, il_14, il_15, il_16, il_31] at c1) <;> omega) (fun c1 => ?_)
      refine sw_63 ho hC hW (by omega) (by omega) ?_
      refine sg_67_15 ho (fun c => ?_) (fun c => ?_)
      · rw [in_b0] at c
        rw [ct_n (by rw [c]; rfl)] at ih
        rw [in_a1]
        exact ih
      · rw [in_b0, Bool.not_eq_false] at c
        refine sp_66 ho hC.2.1 (fun p _ => hW.2.1 p) (by omega) (by omega) h1 (by omega) ?_
        refine sg_67_24 ho (fun d => ?_) (fun d => ?_)
        · rw [in_b0] at d
          rw [ct_n (by rw [d, Bool.and_false])] at ih
          rw [in_a1]
          exact ih
        · rw [in_b0, Bool.not_eq_false] at d
          rw [ct_y (by rw [c, d]; rfl)] at ih
          rw [in_a1, in_a1]
          exact ih
  exact hl 0 (by omega)
theorem sw_65l (ho : px_isW o) (hC : ws_C s o M) (hW : ws_W s) {d1 : Option Value} : ∀ (n k q : Nat), k + n = 16 → q < 16 → Q (some (.int (nI (k + ws_dp (ws_pa s) n q)))) M → px_T 0 65 4 [some (.ref o), d1, some (.int (nI k)), some (.int (nI q))] [] M Q
  | 0, k, q, hk, hq, h => by
    have h2 : Q (some (.int (nI k))) M := h
    refine sg_65_4 ho (fun c1 => h2) (fun c1 c2 => h2) (fun c1 c2 c3 => h2) (fun c1 c2 c3 => by exfalso; (try simp (disch := omega) only [in_lt, in_le, in_eq, in_add, in_mul, in_sb, in_cl, in_bz, in_bo, in_mo, not_true_eq_false, not_false_eq_true, il_0, il_1, il_2, il_3, il_4, il_5, il_6, il_7, il_8, il_9, il_10, il_11, il_12, il_13, il_14, il_15, il_16, il_31] at c1 c2 c3) <;> omega) (fun c1 c2 c3 => by exfalso; (try simp (disch := omega) only [in_lt, in_le, in_eq, in_add, in_mul, in_sb, in_cl, in_bz, in_bo, in_mo, not_true_eq_false, not_false_eq_true, il_0, il_1, il_2, il_3, il_4, il_5, il_6, il_7, il_8, il_9, il_10, il_11, il_12, il_13, il_14, il_15, il_16, il_31] at c1 c2 c3) <;> omega)
  | n + 1, k, q, hk, hq, h => by
    unfold ws_dp at h
    refine sg_65_4 ho (fun c1 => ?_) (fun c1 c2 => by exfalso; (try simp (disch := omega) only [in_lt, in_le, in_eq, in_add, in_mul, in_sb, in_cl, in_bz, in_bo, in_mo, not_true_eq_false, not_false_eq_true, il_0, il_1, il_2, il_3, il_4, il_5, il_6, il_7, il_8, il_9, il_10, il_11, il_12, il_13, il_14, il_15, il_16, il_31] at c1 c2) <;> omega) (fun c1 c2 c3 => by exfalso; (try simp (disch := omega) only [in_lt, in_le, in_eq, in_add, in_mul, in_sb, in_cl, in_bz, in_bo, in_mo, not_true_eq_false, not_false_eq_true, il_0, il_1, il_2, il_3, il_4, il_5, il_6, il_7, il_8, il_9, il_10, il_11, il_12, il_13, il_14, il_15, il_16, il_31] at c1 c2 c3) <;> omega) (fun c1 c2 c3 => by (try simp (disch := omega) only [in_lt, in_le, in_eq, in_add, in_mul, in_sb, in_cl, in_bz, in_bo, in_mo, not_true_eq_false, not_false_eq_true, il_0, il_1, il_2, il_3, il_4, il_5, il_6, il_7, il_8, il_9, il_10, il_11, il_12, il_13, il_14, il_15, il_16, il_31] at c1 c2 c3 ⊢) <;> exact me_vin (by omega) (by omega)) (fun c1 c2 c3 => ?_)
    · simp (disch := omega) only [in_lt, in_le, in_eq, in_add, in_mul, in_sb, in_cl, in_bz, in_bo, in_mo, not_true_eq_false, not_false_eq_true, il_0, il_1, il_2, il_3, il_4, il_5, il_6, il_7, il_8, il_9, il_10, il_11, il_12, il_13, il_14, il_15, il_16, il_31] at c1
      rw [if_pos (by omega)] at h
      exact h
    · simp (disch := omega) only [in_lt, in_le, in_eq, in_add, in_mul, in_sb, in_cl, in_bz, in_bo, in_mo, not_true_eq_false, not_false_eq_true, il_0, il_1, il_2, il_3, il_4, il_5, il_6, il_7, il_8, il_9, il_10, il_11, il_12, il_13, il_14, il_15, il_16, il_31] at c1
      rw [if_neg (by omega)] at h
      rw [in_cl (by omega), hC.2.1 q hq, in_a1]
      refine sw_65l ho hC hW n (k + 1) _ (by omega) (hW.2.1 q) ?_
      rw [Nat.add_assoc]
      exact h
theorem sw_65 (ho : px_isW o) (hC : ws_C s o M) (hW : ws_W s) {q : Nat} (hq : q < 16) (h : Q (some (.int (nI (ws_dp (ws_pa s) 16 q)))) M) : px_T 0 65 0 [some (.ref o), some (.int (nI q)), none, none] [] M Q := by
  refine sg_65_0 ho (sw_65l ho hC hW 16 0 q rfl hq ?_)
  rw [Nat.zero_add]
  exact h
/-! the film: why an event was refused, how many were -/
def vn_why (y : iv_Y) (e : Nat) : Nat := ws_why (iv_rn y e) (iv_ev y e)
theorem vn_why_le (y : iv_Y) (e : Nat) : vn_why y e ≤ 6 := ws_why_le _
theorem sc_12 (C : ic y M) {e : Nat} (he : e < iv_n y) (h : ∀ M', cq y M M' → Q (some (.int (nI (vn_why y e)))) M') : px_T 0 12 0 [some (.ref 28), some (.int (nI e))] [] M Q := by
  have hn := ic_n C
  obtain ⟨t0, h0, hF⟩ := C.2.2.1
  have hx : ∃ w, w ≤ iv_n y ∧ e < w ∧ (if (M.1 28 3) < (nI e + 1) then nI e + 1 else M.1 28 3) = nI w := by
    rw [hF.1, in_a1]
    by_cases hte : t0 < e + 1
    · exact ⟨e + 1, by omega, by omega, if_pos ((in_lt (by omega) (by omega)).mpr hte)⟩
    · exact ⟨t0, h0, by omega, if_neg (fun q => hte ((in_lt (by omega) (by omega)).mp q))⟩
  obtain ⟨w, w1, w2, w3⟩ := hx
  refine sg_12_0 (fun c1 => by exfalso; (try simp (disch := omega) only [in_lt, in_le, in_eq, in_add, in_mul, in_sb, in_cl, in_bz, in_bo, in_mo, not_true_eq_false, not_false_eq_true, il_0, il_1, il_2, il_3, il_4, il_5, il_6, il_7, il_8, il_9, il_10, il_11, il_12, il_13, il_14, il_15, il_16, il_31] at c1) <;> omega) (fun c1 c2 => ?_) (fun c1 c2 => by exfalso; (try simp (disch := omega) only [in_lt, in_le, in_eq, in_add, in_mul, in_sb, in_cl, in_bz, in_bo, in_mo, not_true_eq_false, not_false_eq_true, il_0, il_1, il_2, il_3, il_4, il_5, il_6, il_7, il_8, il_9, il_10, il_11, il_12, il_13, il_14, il_15, il_16, il_31, il_70] at c1 c2) <;> omega)
  rw [w3]
  refine sc_11 C w1 (fun M1 q1 hF1 => ?_)
  refine sg_12_26 (Or.inl rfl) (by (try simp (disch := omega) only [in_lt, in_le, in_eq, in_add, in_mul, in_sb, in_cl, in_bz, in_bo, in_mo, not_true_eq_false, not_false_eq_true, il_0, il_1, il_2, il_3, il_4, il_5, il_6, il_7, il_8, il_9, il_10, il_11, il_12, il_13, il_14, il_15, il_16, il_31] at ⊢) <;> exact me_vin (by omega) (by omega)) ?_
  rw [in_cl (by omega), hF1.2.2 e w2]
  exact h M1 q1
def vn_rf (y : iv_Y) (t : Nat) : Nat := fb_ct (fun e => decide (vn_why y e ≠ 0)) t
theorem sc_13 (C : ic y M) {t : Nat} (ht : t ≤ iv_n y) (h : ∀ M', cq y M M' → Q (some (.int (nI (vn_rf y t)))) M') : px_T 0 13 0 [some (.ref 28), some (.int (nI t)), none, none] [] M Q := by
  have hn := ic_n C
  obtain ⟨t0, h0, hF⟩ := C.2.2.1
  have hx : ∃ w, w ≤ iv_n y ∧ t ≤ w ∧ (if (M.1 28 3) < nI t then nI t else M.1 28 3) = nI w := by
    rw [hF.1]
    by_cases hte : t0 < t
    · exact ⟨t, by omega, by omega, if_pos ((in_lt (by omega) (by omega)).mpr hte)⟩
    · exact ⟨t0, h0, by omega, if_neg (fun q => hte ((in_lt (by omega) (by omega)).mp q))⟩
  obtain ⟨w, w1, w2, w3⟩ := hx
  refine sg_13_0 ?_
  rw [w3]
  refine sc_11 C w1 (fun M1 q1 hF1 => sg_13_12 (Or.inl rfl) ?_)
  have hl : ∀ i, i ≤ t → px_T 0 13 17 [some (.ref 28), some (.int (nI t)), some (.int (nI (fb_ct (fun e => decide (vn_why y e ≠ 0)) i))), some (.int (nI i))] [] M1 Q := by
    refine lp_dn ?_ (fun i hi ih => ?_)
    · refine sg_13_17 (fun c1 => ?_) (fun c1 c2 => by exfalso; (try simp (disch := omega) only [in_lt, in_le, in_eq, in_add, in_mul, in_sb, in_cl, in_bz, in_bo, in_mo, not_true_eq_false, not_false_eq_true, il_0, il_1, il_2, il_3, il_4, il_5, il_6, il_7, il_8, il_9, il_10, il_11, il_12, il_13, il_14, il_15, il_16, il_31, il_70] at c1 c2) <;> omega) (fun c1 c2 => by exfalso; (try simp (disch := omega) only [in_lt, in_le, in_eq, in_add, in_mul, in_sb, in_cl, in_bz, in_bo, in_mo, not_true_eq_false, not_false_eq_true, il_0, il_1, il_2, il_3, il_4, il_5, il_6, il_7, il_8, il_9, il_10, il_11, il_12, il_13, il_14, il_15, il_16, il_31, il_70] at c1 c2) <;> omega) (fun c1 c2 c3 => by exfalso; (try simp (disch := omega) only [in_lt, in_le, in_eq, in_add, in_mul, in_sb, in_cl, in_bz, in_bo, in_mo, not_true_eq_false, not_false_eq_true, il_0, il_1, il_2, il_3, il_4, il_5, il_6, il_7, il_8, il_9, il_10, il_11, il_12, il_13, il_14, il_15, il_16, il_31, il_70] at c1 c2 c3) <;> omega) (fun c1 c2 c3 => by exfalso; (try simp (disch := omega) only [in_lt, in_le, in_eq, in_add, in_mul, in_sb, in_cl, in_bz, in_bo, in_mo, not_true_eq_false, not_false_eq_true, il_0, il_1, il_2, il_3, il_4, il_5, il_6, il_7, il_8, il_9, il_10, il_11, il_12, il_13, il_14, il_15, il_16, il_31, il_70] at c1 c2 c3) <;> omega)
      exact h M1 q1
    · have f : M1.1 37 i = nI (vn_why y i) := hF1.2.2 i (by omega)
      have fl := vn_why_le y i
      refine sg_13_17 (fun c1 => by exfalso; (try simp (disch := omega) only [in_lt, in_le, in_eq, in_add, in_mul, in_sb, in_cl, in_bz, in_bo, in_mo, not_true_eq_false, not_false_eq_true, il_0, il_1, il_2, il_3, il_4, il_5, il_6, il_7, il_8, il_9, il_10, il_11, il_12, il_13, il_14, il_15, il_16, il_31, f] at c1) <;> omega) (fun c1 c2 => by exfalso; (try simp (disch := omega) only [in_lt, in_le, in_eq, in_add, in_mul, in_sb, in_cl, in_bz, in_bo, in_mo, not_true_eq_false, not_false_eq_true, il_0, il_1, il_2, il_3, il_4, il_5, il_6, il_7, il_8, il_9, il_10, il_11, il_12, il_13, il_14, il_15, il_16, il_31, il_70, f] at c1 c2) <;> omega) (fun c1 c2 => by (try simp (disch := omega) only [in_lt, in_le, in_eq, in_add, in_mul, in_sb, in_cl, in_bz, in_bo, in_mo, not_true_eq_false, not_false_eq_true, il_0, il_1, il_2, il_3, il_4, il_5, il_6, il_7, il_8, il_9, il_10, il_11, il_12, il_13, il_14, il_15, il_16, il_31, il_70, f] at c1 c2 ⊢) <;> exact me_vin (by omega) (by omega)) (fun c1 c2 c3 => ?_) (fun c1 c2 c3 => ?_)
      · simp (disch := omega) only [in_lt, in_le, in_eq, in_add, in_mul, in_sb, in_cl, in_bz, in_bo, in_mo, not_true_eq_false, not_false_eq_true, il_0, il_1, il_2, il_3, il_4, il_5, il_6, il_7, il_8, il_9, il_10, il_11, il_12, il_13, il_14, il_15, il_16, il_31, f] at c3
        rw [ct_n (decide_eq_false (fun q => q c3))] at ih
        rw [in_a1]
        exact ih
      · simp (disch := omega) only [in_lt, in_le, in_eq, in_add, in_mul, in_sb, in_cl, in_bz, in_bo, in_mo, not_true_eq_false, not_false_eq_true, il_0, il_1, il_2, il_3, il_4, il_5, il_6, il_7, il_8, il_9, il_10, il_11, il_12, il_13, il_14, il_15, il_16, il_31, f] at c3
        rw [ct_y (decide_eq_true c3)] at ih
        rw [in_a1, in_a1]
        exact ih
  exact hl 0 (by omega)
/-- the first tick, from one on, with a property; -1 if there is none -/
def vl_ft (f : Nat → Bool) : Nat → Nat → Int32
  | 0, _ => -1
  | n + 1, t => if f t = true then nI t else vl_ft f n (t + 1)
end V45
/-! the answers -/
def vl_93 (s : ws_S) : Int32 := nI (ws_al s / 2)
def an_93 (y : iv_Y) (x1 : Int32) : Int32 := if tk y x1 = true then vl_93 (iv_rn y x1.toNatClampNeg) else -2
def vl_94 (s : ws_S) (p : Nat) : Int32 := vl_pa s p
def an_94 (y : iv_Y) (x1 x2 : Int32) : Int32 := if (tk y x2 && rg x1 1 15) = true then vl_94 (iv_rn y x2.toNatClampNeg) x1.toNatClampNeg else -2
def vl_95 (s : ws_S) (p : Nat) : Int32 := vl_se s p
def an_95 (y : iv_Y) (x1 x2 : Int32) : Int32 := if (tk y x2 && rg x1 1 15) = true then vl_95 (iv_rn y x2.toNatClampNeg) x1.toNatClampNeg else -2
def vl_96 (s : ws_S) (p : Nat) : Int32 := nI (bs (fun i => decide (vl_pa s (i + 1) = nI p)) 15)
def an_96 (y : iv_Y) (x1 x2 : Int32) : Int32 := if (tk y x2 && rg x1 1 15) = true then vl_96 (iv_rn y x2.toNatClampNeg) x1.toNatClampNeg else -2
def vl_97 (s : ws_S) (p : Nat) : Int32 := nI (vn_un s p)
def an_97 (y : iv_Y) (x1 x2 : Int32) : Int32 := if (tk y x2 && rg x1 1 15) = true then vl_97 (iv_rn y x2.toNatClampNeg) x1.toNatClampNeg else -2
def vl_98 (s : ws_S) (p : Nat) : Int32 := if (ws_al s).testBit p = true then nI (ws_dp (ws_pa s) 16 p) else -1
def an_98 (y : iv_Y) (x1 x2 : Int32) : Int32 := if (tk y x2 && rg x1 1 15) = true then vl_98 (iv_rn y x2.toNatClampNeg) x1.toNatClampNeg else -2
def ms_of (s : ws_S) (q : Nat) : Nat := bs (fun i => decide (vl_se s (i + 1) = nI q)) 15
def vl_99 (s : ws_S) (q : Nat) : Int32 := nI (ms_of s q)
def an_99 (y : iv_Y) (x1 x2 : Int32) : Int32 := if (tk y x2 && rg x1 1 15) = true then vl_99 (iv_rn y x2.toNatClampNeg) x1.toNatClampNeg else -2
def vl_100 (s : ws_S) : Int32 := nI (fb_ct (fun i => decide (ms_of s (i + 1) ≠ 0)) 15)
def an_100 (y : iv_Y) (x1 : Int32) : Int32 := if tk y x1 = true then vl_100 (iv_rn y x1.toNatClampNeg) else -2
def an_91 (y : iv_Y) (x1 : Int32) : Int32 := if rg x1 0 ((iv_n y : Int) - 1) = true then nI (vn_why y x1.toNatClampNeg) else -2
def an_92 (y : iv_Y) (x1 : Int32) : Int32 := if tk y x1 = true then nI (vn_rf y x1.toNatClampNeg) else -2
