/-! share -/
def sh_F (y : iv_Y) (m : Nat) : Nat := tr_w y (2 * m ||| 32640)
def sh_W (c : Nat) : Nat := [120, 24, 12, 12, 24, 120].getD c 0
def sh_S (F : Nat → Nat) (q : Nat) : Nat → Int
  | 0 => 0
  | m + 1 => sh_S F q m + (if m.testBit q = true then 0 else (sh_W (in_pc 15 m) : Int) * ((F (m ||| 2 ^ q) : Int) - (F m : Int)))
def sh_T (y : iv_Y) (p : Nat) : Int := sh_S (sh_F y) (p - 2) 64
def an_135 (y : iv_Y) (x1 x2 : Int32) : Int32 := if (decide (iv_ln y ≠ 0) && (rg x1 2 7 && rg x2 0 1)) = true then (lt_v (Int64.ofInt (sh_T y x1.toNatClampNeg)) (sh_T y x1.toNatClampNeg).natAbs 720 x2).toInt32 else -1000
def fct : Nat → Nat
  | 0 => 1
  | n + 1 => fct n * (n + 1)
theorem sh_pc : ∀ m, m < 64 → in_pc 15 m ≤ 6 ∧ in_pc 16 m = in_pc 15 m := by decide
theorem sh_p5 : ∀ m, m < 64 → ∀ q, q < 6 → m.testBit q = false → in_pc 15 m ≤ 5 := by decide
theorem sh_fw : ∀ c, c < 6 → fct c * fct (5 - c) = sh_W c := by decide
theorem sh_Wl : ∀ c, c < 7 → sh_W c ≤ 120 := by decide
theorem fct_l : ∀ c, c < 7 → fct c ≤ 720 := by decide
section H60
variable {M M1 M2 : px_Mem} {Q : px_Po} {y : iv_Y}
theorem sh_b {F : Nat → Nat} {q : Nat} (hF : ∀ m, F m ≤ 15) : ∀ n : Nat, n ≤ 64 → -(1800 * (n : Int)) ≤ sh_S F q n ∧ sh_S F q n ≤ 1800 * (n : Int)
  | 0, _ => ⟨by show -(1800 * ((0 : Nat) : Int)) ≤ (0 : Int); omega, by show (0 : Int) ≤ 1800 * ((0 : Nat) : Int); omega⟩
  | n + 1, hn => by
    have ih := sh_b (q := q) hF n (by omega)
    have h1 := hF (n ||| 2 ^ q)
    have h2 := hF n
    have h3 := sh_Wl (in_pc 15 n) (by have := (sh_pc n (by omega)).1; omega)
    have hb : -1800 ≤ (sh_W (in_pc 15 n) : Int) * ((F (n ||| 2 ^ q) : Int) - (F n : Int)) ∧ (sh_W (in_pc 15 n) : Int) * ((F (n ||| 2 ^ q) : Int) - (F n : Int)) ≤ 1800 := by
      generalize sh_W (in_pc 15 n) = w at h3
      generalize F (n ||| 2 ^ q) = a at h1
      generalize F n = b at h2
      have hd : -15 ≤ (a : Int) - (b : Int) ∧ (a : Int) - (b : Int) ≤ 15 := by omega
      have w0 : (0 : Int) ≤ (w : Int) := by omega
      have w1 : (w : Int) ≤ 120 := by omega
      constructor
      · have := Int.mul_le_mul_of_nonneg_left hd.1 w0
        omega
      · have := Int.mul_le_mul_of_nonneg_left hd.2 w0
        omega
    show -(1800 * ((n + 1 : Nat) : Int)) ≤ sh_S F q n + (if n.testBit q = true then 0 else _) ∧ sh_S F q n + (if n.testBit q = true then 0 else _) ≤ 1800 * ((n + 1 : Nat) : Int)
    split
    · omega
    · omega
theorem d32 {a b : Nat} (ha : a ≤ 15) (hb : b ≤ 15) : (nI a - nI b).toInt = (a : Int) - (b : Int) := by
  rw [Int32.toInt_sub, nI_toInt (by omega), nI_toInt (by omega), Int.bmod_eq_of_le (by omega) (by omega)]
theorem p32 {w a b : Nat} (hw : w ≤ 120) (ha : a ≤ 15) (hb : b ≤ 15) : -1800 ≤ (w : Int) * ((a : Int) - (b : Int)) ∧ (w : Int) * ((a : Int) - (b : Int)) ≤ 1800 := by
  have hd : -15 ≤ (a : Int) - (b : Int) ∧ (a : Int) - (b : Int) ≤ 15 := by omega
  have w0 : (0 : Int) ≤ (w : Int) := by omega
  constructor
  · have := Int.mul_le_mul_of_nonneg_left hd.1 w0
    omega
  · have := Int.mul_le_mul_of_nonneg_left hd.2 w0
    omega
theorem s32 {x : Int32} {w a b : Nat} (hx : -200000 ≤ x.toInt ∧ x.toInt ≤ 200000) (hw : w ≤ 120) (ha : a ≤ 15) (hb : b ≤ 15) : (x + nI w * (nI a - nI b)).toInt = x.toInt + (w : Int) * ((a : Int) - (b : Int)) := by
  have h1 := p32 hw ha hb
  have e1 : (nI w * (nI a - nI b)).toInt = (w : Int) * ((a : Int) - (b : Int)) := by
    rw [Int32.toInt_mul, d32 ha hb, nI_toInt (by omega), Int.bmod_eq_of_le (by omega) (by omega)]
  rw [Int32.toInt_add, e1, Int.bmod_eq_of_le (by omega) (by omega)]
theorem s64 {x : Int64} {f g w a b : Nat} (hx : -200000 ≤ x.toInt ∧ x.toInt ≤ 200000) (hfg : f * g = w) (hw : w ≤ 120) (ha : a ≤ 15) (hb : b ≤ 15) : (x + (lN f * lN g) * (nI a - nI b).toInt64).toInt = x.toInt + (w : Int) * ((a : Int) - (b : Int)) := by
  have h1 := p32 hw ha hb
  have e1 : ((lN f * lN g) * (nI a - nI b).toInt64).toInt = (w : Int) * ((a : Int) - (b : Int)) := by
    rw [lN_mul, hfg, Int64.toInt_mul, Int32.toInt_toInt64, d32 ha hb, lN_toInt (by omega), Int.bmod_eq_of_le (by omega) (by omega)]
  rw [Int64.toInt_add, e1, Int.bmod_eq_of_le (by omega) (by omega)]
theorem oI {s : Int} (h : -200000 ≤ s ∧ s ≤ 200000) : (Int64.ofInt s).toInt = s := by
  rw [Int64.toInt_ofInt, show Int64.size = 18446744073709551616 from rfl, Int.bmod_eq_of_le (by omega) (by omega)]
theorem oabs {s : Int} (h : -200000 ≤ s ∧ s ≤ 200000) : (if (0 : Int64) < Int64.ofInt s then Int64.ofInt s else -Int64.ofInt s) = lN s.natAbs := by
  have e := oI h
  apply Int64.toInt_inj.mp
  rw [lN_toInt (by omega)]
  split
  · rename_i c
    rw [fa_lt64, e, show (0 : Int64).toInt = 0 from rfl] at c
    rw [e]
    omega
  · rename_i c
    rw [fa_lt64, e, show (0 : Int64).toInt = 0 from rfl] at c
    rw [Int64.toInt_neg, e, Int.bmod_eq_of_le (by omega) (by omega)]
    omega
theorem sh_Fl (y : iv_Y) (m : Nat) : sh_F y m ≤ 15 := pcA_le _
theorem sh_Tb (y : iv_Y) (p : Nat) : -200000 ≤ sh_T y p ∧ sh_T y p ≤ 200000 := by
  have := sh_b (F := sh_F y) (q := p - 2) (sh_Fl y) 64 (by omega)
  unfold sh_T
  omega
theorem wk_1 (hy : iv_yok y) (x : Nat) : tr_w y (32641 ||| x) = tr_w y (x ||| 32640) := by
  unfold tr_w tr_s
  congr 1
  refine ws_run_cong (fun t ht => ⟨?_, fun _ => rfl⟩)
  have hb := iv_okb (hy.2.2.2.2.2 t ht)
  unfold wk
  by_cases hp : (iv_ev y t).2.1 = 1
  · rw [decide_eq_false (fun q => q hp), Bool.false_and, Bool.false_and]
  · congr 2
    rw [Nat.testBit_or, Nat.testBit_or, Bool.or_comm]
    congr 1
    have h2 : ∀ i, i < 15 → i ≠ 0 → (32641 : Nat).testBit i = (32640 : Nat).testBit i := by decide
    exact h2 _ (by omega) (by omega)
theorem own_bit {m q : Nat} (hq : q < 6) : nI m &&& nI (2 ^ q) = 0 ↔ m.testBit q = false := fa_bit (by omega)
theorem or_64 {m q : Nat} (hm : m < 64) (hq : q < 6) : m ||| 2 ^ q < 64 := Nat.or_lt_two_pow (n := 6) hm (Nat.pow_lt_pow_right (by omega) hq)
theorem sc_73w {law : Nat} (C : ic y M) {s : ws_S} (hC : ws_C s 47 M) (hW : ws_W s) (hm : ws_md s ≤ 140) (hl : law ≤ 3) {e : ws_E} (he : iv_ok e) (h : ∀ M', cq y M M' → M'.1 55 = M.1 55 → ws_C (ws_st law s e) 47 M' → Q (some (.int (nI (ws_why s e)))) M') : px_T 0 73 0 [some (.ref 47), some (.int (nI (iv_pk e))), some (.int (nI law)), none, none, none, none] [] M Q :=
  sp_73 (Or.inr rfl) hC hW (by omega) he hl (fun M1 hP => h M1 (cq_t C (cq_rf C) hP.1) (hP.1 55 (by omega)).1 hP.2.1)
theorem sc_60w (C : ic y M) (h : ∀ M', cq y M M' → M'.1 55 = M.1 55 → ws_C ws_0 47 M' → Q none M') : px_T 0 60 0 [some (.ref 47)] [] M Q :=
  sp_60 (g := 0) (Or.inl ⟨rfl, Or.inr rfl⟩) (fun M1 k1 k2 _ => h M1 (cq_t C (cq_rf C) k1) (k1 55 (by omega)).1 k2)
theorem sc_169w (C : ic y M) {set : Nat} (hs : set < 2 ^ 15) (h : ∀ M', cq y M M' → M'.1 55 = M.1 55 → Q (some (.int (nI (tr_w y set)))) M') : px_T 0 169 0 [some (.ref 0), some (.int (nI set)), none, none, none] [] M Q := by
  refine sg_169_0 (sc_60w C (fun M1 q1 w1 hC => sg_169_7 ?_))
  rw [il_1, in_or]
  have hl : ∀ (n e : Nat) (N : px_Mem) (d4 : Option Value), e + n = iv_n y → cq y M N → N.1 55 = M.1 55 → ws_C (ws_run (iv_lw y) (iv_ev y) (wk y set) e) 47 N → px_T 0 169 13 [some (.ref 0), some (.int (nI set)), some (.int (nI (set ||| 1))), some (.int (nI e)), d4] [] N Q := by
    intro n
    induction n with
    | zero =>
      intro e N d4 he q w hC
      have C1 := ic_cq C q
      have hn := ic_n C1
      have e1 : e = iv_n y := by omega
      subst e1
      refine sg_169_13 (sp_53 (Or.inl rfl) C1.2.1 ?_)
      refine sg_169_21 (fun c1 => ?_) (fun c1 => by exfalso; (try simp (disch := omega) only [in_lt, in_le, in_eq, in_add, in_mul, in_sb, in_cl, in_bz, in_bo, in_mo, not_true_eq_false, not_false_eq_true, il_0, il_1, il_2, il_3, il_4, il_5, il_6, il_7, il_8, il_9, il_10, il_11, il_12, il_13, il_14, il_15, il_16, il_31] at c1) <;> omega)
      exact sc_bc hC (trW C1.1 (Nat.le_refl _)) (sg_169_81 (h N q w))
    | succ n ih =>
      intro e N d4 he q w hC
      have C1 := ic_cq C q
      have hn := ic_n C1
      have hok := C1.1.2.2.2.2.2 e (by omega)
      have hb := iv_okb hok
      refine sg_169_13 (sp_53 (Or.inl rfl) C1.2.1 ?_)
      refine sg_169_21 (fun c1 => by exfalso; (try simp (disch := omega) only [in_lt, in_le, in_eq, in_add, in_mul, in_sb, in_cl, in_bz, in_bo, in_mo, not_true_eq_false, not_false_eq_true, il_0, il_1, il_2, il_3, il_4, il_5, il_6, il_7, il_8, il_9, il_10, il_11, il_12, il_13, il_14, il_15, il_16, il_31] at c1) <;> omega) (fun c1 => ?_)
      refine sp_54 (Or.inl rfl) C1.2.1 (by omega) hn (sg_169_32 (sp_3a hok (sg_169_41 (sp_161 hb.2.1 (by omega) ?_))))
      refine sg_169_44 (fun c => ?_) (fun c => ?_)
      · rw [wk_bit hb.2.1 hb.2.2.1] at c
        rw [in_a1]
        exact ih (e + 1) N _ (by omega) q w (by rw [ws_run_k (show wk y set e = true from c)]; exact hC)
      · rw [wk_bit hb.2.1 hb.2.2.1, Bool.not_eq_true] at c
        rw [C1.2.1.2.1]
        refine sc_73w C1 hC (trW C1.1 (by omega)) (trm C1.1 (by omega)) C1.1.1 hok (fun M2 q2 w2 hC2 => sg_169_64 ?_)
        rw [in_a1]
        exact ih (e + 1) M2 _ (by omega) (cq_tr q q2) (w2.trans w) (by rw [ws_run_s (show wk y set e = false from c)]; exact hC2)
  exact hl (iv_n y) 0 M1 _ (by omega) q1 w1 hC
theorem sc_135 (C : ic y M) {x1 x2 : Int32} (h : ∀ M', cq y M M' → Q (some (.int (an_135 y x1 x2))) M') : px_T 0 135 0 [some (.ref 0), some (.int x1), some (.int x2), none, none, none, none] [] M Q := by
  unfold an_135 at h
  have e1 : (1 : Int32).toInt = 1 := rfl
  have e2 : (2 : Int32).toInt = 2 := rfl
  have e7 : (7 : Int32).toInt = 7 := rfl
  have bad : (decide (iv_ln y ≠ 0) = false ∨ rg x1 2 7 = false ∨ rg x2 0 1 = false) → Q (some (.int (-1000))) M := by
    intro hb
    have h9 := h M (cq_rf C)
    rw [if_neg] at h9
    · exact h9
    · rcases hb with q | q | q <;> rw [q] <;> simp
  refine sg_135_0 (fun c => bad ?_) (fun _ c => bad ?_) (fun _ _ c => bad ?_) (fun _ _ _ c => bad ?_) (fun c d e f => ?_)
  · rw [fa_lt, e2] at c
    exact Or.inr (Or.inl (rg_f (Or.inl c)))
  · rw [fa_lt, e7] at c
    exact Or.inr (Or.inl (rg_f (Or.inr c)))
  · rw [fa_lt, Int32.toInt_zero] at c
    exact Or.inr (Or.inr (rg_f (Or.inl c)))
  · rw [fa_lt, e1] at c
    exact Or.inr (Or.inr (rg_f (Or.inr c)))
  · have g1 : rg x1 2 7 = true := by
      rw [fa_lt, e2] at c
      rw [fa_lt, e7] at d
      exact decide_eq_true (by omega)
    have g2 : rg x2 0 1 = true := by
      rw [fa_lt, Int32.toInt_zero] at e
      rw [fa_lt, e1] at f
      exact decide_eq_true (by omega)
    refine sc_151 C (fun g => sg_135_24 (fun _ => ?_) (fun q => absurd rfl q)) (fun g => sg_135_24 (fun q => absurd q (by decide)) (fun _ => bad (Or.inl (decide_eq_false (fun q => q g)))))
    rw [decide_eq_true g, g1, g2, if_pos (by decide)] at h
    obtain ⟨p, rfl, p1, p2⟩ := rg_of g1 (by omega) (by omega)
    rw [in_cl (by omega)] at h
    -- the worths
    have hl : ∀ (n m : Nat) (N : px_Mem) (d4 d5 d6 : Option Value), m + n = 64 → cq y M N → (∀ u, u < m → N.1 55 u = nI (sh_F y u)) → px_T 0 135 33 [some (.ref 0), some (.int (nI p)), some (.int x2), some (.int (nI m)), d4, d5, d6] [] N Q := by
      intro n
      induction n with
      | zero =>
        intro m N d4 d5 d6 hm q hw
        have e1 : m = 64 := by omega
        subst e1
        refine sg_135_33 (fun c1 => ?_) (fun c1 => by exfalso; (try simp (disch := omega) only [in_lt, in_le, in_eq, in_add, in_mul, in_sb, in_cl, in_bz, in_bo, in_mo, not_true_eq_false, not_false_eq_true, il_0, il_1, il_2, il_3, il_4, il_5, il_6, il_7, il_8, il_9, il_10, il_11, il_12, il_13, il_14, il_15, il_16, il_31, il_64] at c1) <;> omega)
        have hRo : iv_ro N := (ic_cq C q).2.2.2.2
        rw [show nI p - 2 = nI (p - 2) from in_sub (a := p) (b := 2) (by omega), in_one (by omega)]
        -- the sum
        have h2 : ∀ (n m : Nat) (x4 : Int32) (d6 : Option Value), m + n = 64 → x4.toInt = sh_S (sh_F y) (p - 2) m → px_T 0 135 77 [some (.ref 0), some (.int (nI p)), some (.int x2), some (.int (nI (2 ^ (p - 2)))), some (.int x4), some (.int (nI m)), d6] [] N Q := by
          intro n
          induction n with
          | zero =>
            intro m x4 d6 hm hx
            have e1 : m = 64 := by omega
            subst e1
            have hx2 : x4.toInt = sh_T y p := hx
            have hT := sh_Tb y p
            have e3 : x4.toInt64 = Int64.ofInt (sh_T y p) := by
              apply Int64.toInt_inj.mp
              rw [Int32.toInt_toInt64, oI hT, hx2]
            refine sg_135_77 (fun c1 => ?_) (fun c1 => by exfalso; (try simp (disch := omega) only [in_lt, in_le, in_eq, in_add, in_mul, in_sb, in_cl, in_bz, in_bo, in_mo, not_true_eq_false, not_false_eq_true, il_0, il_1, il_2, il_3, il_4, il_5, il_6, il_7, il_8, il_9, il_10, il_11, il_12, il_13, il_14, il_15, il_16, il_31, il_64] at c1) <;> omega)
            rw [e3]
            exact sc_173 (B := 720) (oabs hT) (by omega) (by omega) (by omega) (sg_135_155 (h N q))
          | succ n ih =>
            intro m x4 d6 hm hx
            have hsb := sh_b (F := sh_F y) (q := p - 2) (sh_Fl y) m (by omega)
            have hpc := sh_pc m (by omega)
            have es : sh_S (sh_F y) (p - 2) (m + 1) = sh_S (sh_F y) (p - 2) m + (if m.testBit (p - 2) = true then 0 else (sh_W (in_pc 15 m) : Int) * ((sh_F y (m ||| 2 ^ (p - 2)) : Int) - (sh_F y m : Int))) := rfl
            refine sg_135_77 (fun c1 => by exfalso; (try simp (disch := omega) only [in_lt, in_le, in_eq, in_add, in_mul, in_sb, in_cl, in_bz, in_bo, in_mo, not_true_eq_false, not_false_eq_true, il_0, il_1, il_2, il_3, il_4, il_5, il_6, il_7, il_8, il_9, il_10, il_11, il_12, il_13, il_14, il_15, il_16, il_31, il_64] at c1) <;> omega) (fun c1 => ?_)
            refine sp_bc (by omega) ?_
            have ob := own_bit (m := m) (q := p - 2) (by omega)
            have h64 := or_64 (m := m) (q := p - 2) (by omega) (by omega)
            refine sg_135_92 (fun c d => ?_) (fun c d => me_vin ?_ (by omega)) (fun c d => ?_) (fun c d => me_vin (by omega) (by omega)) (fun c d => ?_) (fun c => ?_)
            · rw [ob] at c
              simp (disch := omega) only [in_lt, in_le, in_eq, in_add, in_mul, in_sb, in_cl, in_bz, in_bo, in_mo, not_true_eq_false, not_false_eq_true, il_0, il_1, il_2, il_3, il_4, il_5, il_6, il_7, il_8, il_9, il_10, il_11, il_12, il_13, il_14, il_15, il_16, il_31] at d
              have := sh_p5 m (by omega) (p - 2) (by omega) c
              omega
            · simp (disch := omega) only [in_lt, in_le, in_eq, in_add, in_mul, in_sb, in_cl, in_bz, in_bo, in_mo, not_true_eq_false, not_false_eq_true, il_0, il_1, il_2, il_3, il_4, il_5, il_6, il_7, il_8, il_9, il_10, il_11, il_12, il_13, il_14, il_15, il_16, il_31] at d
              omega
            · rw [in_or]
              exact me_vin h64 (by omega)
            · rw [ob] at c
              simp (disch := omega) only [in_lt, in_le, in_eq, in_add, in_mul, in_sb, in_cl, in_bz, in_bo, in_mo, not_true_eq_false, not_false_eq_true, il_0, il_1, il_2, il_3, il_4, il_5, il_6, il_7, il_8, il_9, il_10, il_11, il_12, il_13, il_14, il_15, il_16, il_31] at d
              rw [in_or, in_cl (by omega), in_cl (by omega), in_cl (by omega), hw _ (by omega), hw _ (by omega), hRo.2.1 _ (by omega), in_a1]
              refine ih (m + 1) _ _ (by omega) ?_
              have w1 := sh_Wl (in_pc 15 m) (by omega)
              rw [es, if_neg (by rw [c]; decide), ← hx]
              exact s32 (w := sh_W (in_pc 15 m)) (by omega) w1 (sh_Fl _ _) (sh_Fl _ _)
            · rw [ob, Bool.not_eq_false] at c
              rw [in_a1]
              refine ih (m + 1) _ _ (by omega) ?_
              rw [es, if_pos c, Int.add_zero]
              exact hx
        exact h2 64 0 0 _ rfl rfl
      | succ n ih =>
        intro m N d4 d5 d6 hm q hw
        refine sg_135_33 (fun c1 => by exfalso; (try simp (disch := omega) only [in_lt, in_le, in_eq, in_add, in_mul, in_sb, in_cl, in_bz, in_bo, in_mo, not_true_eq_false, not_false_eq_true, il_0, il_1, il_2, il_3, il_4, il_5, il_6, il_7, il_8, il_9, il_10, il_11, il_12, il_13, il_14, il_15, il_16, il_31, il_64] at c1) <;> omega) (fun c1 => ?_)
        have e3 : (32641 : Int32) ||| (nI m <<< ((1 : Int32) &&& 31)) = nI (32641 ||| 2 * m) := by
          rw [show nI m <<< ((1 : Int32) &&& 31) = nI (m * 2 ^ 1) from in_shl (k := 1) (by omega) (by omega), show (32641 : Int32) = nI 32641 from rfl, in_or, show m * 2 ^ 1 = 2 * m by omega]
        rw [e3]
        have hlt : 32641 ||| 2 * m < 2 ^ 15 := Nat.or_lt_two_pow (by omega) (by omega)
        refine sc_169w (ic_cq C q) hlt (fun M2 q2 w2 => sg_135_58 (me_vin (by omega) (by omega)) ?_)
        rw [in_cl (by omega), in_a1, wk_1 C.1]
        have q3 : cq y M (px_wI M2 55 m (nI (sh_F y m))) := cq_tr (cq_tr q q2) (cq_w (ic_cq C (cq_tr q q2)) (fun a ha => by rw [me_Io (by omega)]) (fun a ha => rfl))
        refine ih (m + 1) _ _ _ _ (by omega) q3 (fun u hu => ?_)
        by_cases hum : u = m
        · subst hum
          rw [me_II]
          rfl
        · rw [me_Ii hum, w2]
          exact hw u (by omega)
    exact hl 64 0 M _ _ _ rfl (cq_rf C) (fun u hu => absurd hu (Nat.not_lt_zero u))
/-! the reference -/
theorem sr_306 {n : Nat} (hn : n ≤ 6) (h : Q (some (.int (nI (fct n)))) M) : px_T 0 306 0 [some (.int (nI n)), none, none] [] M Q := by
  refine sg_306_0 ?_
  rcases Nat.eq_zero_or_pos n with h0 | h0
  · subst h0
    exact sg_306_4 (fun _ => h) (fun c => absurd (by decide) c)
  · have hl : ∀ (m i : Nat), i + m = n → 1 ≤ i → px_T 0 306 4 [some (.int (nI n)), some (.int (nI (fct i))), some (.int (nI (i + 1)))] [] M Q := by
      intro m
      induction m with
      | zero =>
        intro i hi h1
        have e1 : i = n := by omega
        subst e1
        refine sg_306_4 (fun c1 => ?_) (fun c1 => by exfalso; (try simp (disch := omega) only [in_lt, in_le, in_eq, in_add, in_mul, in_sb, in_cl, in_bz, in_bo, in_mo, not_true_eq_false, not_false_eq_true, il_0, il_1, il_2, il_3, il_4, il_5, il_6, il_7, il_8, il_9, il_10, il_11, il_12, il_13, il_14, il_15, il_16, il_31] at c1) <;> omega)
        exact h
      | succ m ih =>
        intro i hi h1
        refine sg_306_4 (fun c1 => by exfalso; (try simp (disch := omega) only [in_lt, in_le, in_eq, in_add, in_mul, in_sb, in_cl, in_bz, in_bo, in_mo, not_true_eq_false, not_false_eq_true, il_0, il_1, il_2, il_3, il_4, il_5, il_6, il_7, il_8, il_9, il_10, il_11, il_12, il_13, il_14, il_15, il_16, il_31] at c1) <;> omega) (fun c1 => ?_)
        rw [in_mul, in_a1]
        exact ih (i + 1) (by omega) (by omega)
    exact hl (n - 1) 1 (by omega) (by omega)
theorem sr_304w (hy : iv_yok y) {set : Nat} {lf0 : Nat → Bool} (hs : set < 2 ^ 16) (L : rf_L (iv_n y) (iv_lw y) (iv_ev y) lf0 M) (h : ∀ M', rq M M' → M'.1 87 = M.1 87 → rf_L (iv_n y) (iv_lw y) (iv_ev y) (wk y set) M' → Q (some (.int (nI (tr_w y set)))) M') : px_T 0 304 0 [some (.ref 56), some (.int (nI set)), none] [] M Q := by
  have hn := iv_yn hy
  refine sg_304_0 ?_
  have hl : ∀ (n e : Nat) (N : px_Mem), e + n = iv_n y → rq M N → N.1 87 = M.1 87 → rf_L (iv_n y) (iv_lw y) (iv_ev y) (fun i => if i < e then wk y set i else lf0 i) N → px_T 0 304 2 [some (.ref 56), some (.int (nI set)), some (.int (nI e))] [] N Q := by
    intro n
    induction n with
    | zero =>
      intro e N he q w L
      have f := L.1
      have e1 : e = iv_n y := by omega
      subst e1
      have L2 : rf_L (iv_n y) (iv_lw y) (iv_ev y) (wk y set) N := rf_L_cong L (fun e he => ⟨rfl, if_pos he⟩)
      refine sg_304_2 (fun c1 => ?_) (fun c1 => by exfalso; (try simp (disch := omega) only [in_lt, in_le, in_eq, in_add, in_mul, in_sb, in_cl, in_bz, in_bo, in_mo, not_true_eq_false, not_false_eq_true, il_0, il_1, il_2, il_3, il_4, il_5, il_6, il_7, il_8, il_9, il_10, il_11, il_12, il_13, il_14, il_15, il_16, il_31, f] at c1) <;> omega) (fun c1 c2 => by exfalso; (try simp (disch := omega) only [in_lt, in_le, in_eq, in_add, in_mul, in_sb, in_cl, in_bz, in_bo, in_mo, not_true_eq_false, not_false_eq_true, il_0, il_1, il_2, il_3, il_4, il_5, il_6, il_7, il_8, il_9, il_10, il_11, il_12, il_13, il_14, il_15, il_16, il_31, f] at c1 c2) <;> omega) (fun c1 c2 => by exfalso; (try simp (disch := omega) only [in_lt, in_le, in_eq, in_add, in_mul, in_sb, in_cl, in_bz, in_bo, in_mo, not_true_eq_false, not_false_eq_true, il_0, il_1, il_2, il_3, il_4, il_5, il_6, il_7, il_8, il_9, il_10, il_11, il_12, il_13, il_14, il_15, il_16, il_31, f] at c1 c2) <;> omega)
      refine sr_223 L2 (by omega) hy.1 (fun e he => hy.2.2.2.2.2 e he) (fun M2 k2 A2 => sg_304_56 ?_)
      have L3 := rf_L_gq L2 k2
      rw [L3.1]
      have hW : ws_W (tr_s y (iv_lw y) (wk y set)) := trW hy (Nat.le_refl _)
      refine sr_230 (s := tr_s y (iv_lw y) (wk y set)) (A2.1 _ (Nat.le_refl _)) hW.1.1 (by omega) (sg_304_64 ?_)
      rw [pc_al hW.1.2.2.1]
      exact h M2 (rq_tr q (rq_g k2)) (by rw [k2.1 87 (by omega) (by omega)]; exact w) L3
    | succ n ih =>
      intro e N he q w L
      have f := L.1
      obtain ⟨_, f2, _⟩ := L.2.2 e (by omega)
      have hb := iv_okb (hy.2.2.2.2.2 e (by omega))
      have fin : ∀ b : Bool, wk y set e = b → px_T 0 304 2 [some (.ref 56), some (.int (nI set)), some (.int (nI e + 1))] [] (px_wI N 67 e (in_b b)) Q := by
        intro b hbk
        rw [in_a1]
        refine ih (e + 1) _ (by omega) (rq_I q (by omega) (by omega)) (by rw [me_Io (by omega)]; exact w) ?_
        have L2 := rf_L_w (e := e) (b := wk y set e) L
        rw [lf_s, hbk] at L2
        exact L2
      refine sg_304_2 (fun c1 => by exfalso; (try simp (disch := omega) only [in_lt, in_le, in_eq, in_add, in_mul, in_sb, in_cl, in_bz, in_bo, in_mo, not_true_eq_false, not_false_eq_true, il_0, il_1, il_2, il_3, il_4, il_5, il_6, il_7, il_8, il_9, il_10, il_11, il_12, il_13, il_14, il_15, il_16, il_31, f, f2] at c1) <;> omega) (fun c1 => by (try simp (disch := omega) only [in_lt, in_le, in_eq, in_add, in_mul, in_sb, in_cl, in_bz, in_bo, in_mo, not_true_eq_false, not_false_eq_true, il_0, il_1, il_2, il_3, il_4, il_5, il_6, il_7, il_8, il_9, il_10, il_11, il_12, il_13, il_14, il_15, il_16, il_31, f, f2] at c1 ⊢) <;> exact me_vin (by omega) (by omega)) (fun c1 c2 => ?_) (fun c1 c2 => ?_)
      · rw [in_cl (by omega), f2] at c2
        simp (disch := omega) only [in_lt, in_le, in_eq, in_add, in_mul, in_sb, in_cl, in_bz, in_bo, in_mo, not_true_eq_false, not_false_eq_true, il_0, il_1, il_2, il_3, il_4, il_5, il_6, il_7, il_8, il_9, il_10, il_11, il_12, il_13, il_14, il_15, il_16, il_31] at c2
        rw [in_cl (by omega), nar_0]
        exact fin false (by unfold wk; rw [decide_eq_false (fun q => q c2)]; rfl)
      · rw [in_cl (by omega), f2] at c2
        simp (disch := omega) only [in_lt, in_le, in_eq, in_add, in_mul, in_sb, in_cl, in_bz, in_bo, in_mo, not_true_eq_false, not_false_eq_true, il_0, il_1, il_2, il_3, il_4, il_5, il_6, il_7, il_8, il_9, il_10, il_11, il_12, il_13, il_14, il_15, il_16, il_31] at c2
        rw [in_cl (by omega), f2, in_s1 hb.2.1]
        refine sr_177 (by omega) (by omega) ?_
        refine sg_304_37 (fun _ => me_vin (by omega) (by omega)) (fun c => ?_) (fun _ => me_vin (by omega) (by omega)) (fun c => ?_)
        · rw [in_b0] at c
          rw [in_cl (by omega), nar_1]
          exact fin true (by unfold wk; rw [c, decide_eq_true c2]; rfl)
        · rw [in_b0, Bool.not_eq_false] at c
          rw [in_cl (by omega), nar_0]
          exact fin false (by unfold wk; rw [c, decide_eq_true c2]; rfl)
  refine hl (iv_n y) 0 M (by omega) rq_rf rfl (rf_L_cong L (fun e he => ⟨rfl, (if_neg (Nat.not_lt_zero e)).symm⟩))
theorem sr_309 (R : ir y M) {x1 x2 : Int32} (h : ∀ M', rq M M' → Q (some (.int (an_135 y x1 x2))) M') : px_T 0 309 0 [some (.ref 56), some (.int x1), some (.int x2), none, none, none, none] [] M Q := by
  unfold an_135 at h
  refine sg_309_0 (sr_209 R (fun M1 k1 L1 => sg_309_4 (sr_180 (ir_rq R (rq_l k1)) ?_)))
  have bad : (decide (iv_ln y ≠ 0) = false ∨ rg x1 2 7 = false ∨ rg x2 0 1 = false) → Q (some (.int (-1000))) M1 := by
    intro hb
    have h9 := h M1 (rq_l k1)
    rw [if_neg] at h9
    · exact h9
    · rcases hb with q | q | q <;> rw [q] <;> simp
  refine sg_309_8 (fun c => bad (Or.inl ((in_b0 _).mp c))) (fun c => sr_175i (a := 2) (b := 7) (by omega) (by omega) (sg_309_22 (fun d => bad (Or.inr (Or.inl ((in_b0 _).mp d)))) (fun d => sr_175i (a := 0) (b := 1) (by omega) (by omega) (sg_309_32 (fun e => bad (Or.inr (Or.inr ((in_b0 _).mp e)))) (fun e => ?_)))))
  rw [in_b0, Bool.not_eq_false] at c d e
  have g1 : rg x1 2 7 = true := d
  have g2 : rg x2 0 1 = true := e
  rw [c, g1, g2, if_pos (by decide)] at h
  obtain ⟨p, rfl, p1, p2⟩ := rg_of g1 (by omega) (by omega)
  rw [in_cl (by omega)] at h
  have hl : ∀ (n m : Nat) (lf : Nat → Bool) (N : px_Mem) (d4 d5 d6 : Option Value), m + n = 64 → rq M N → rf_L (iv_n y) (iv_lw y) (iv_ev y) lf N → (∀ u, u < m → N.1 87 u = nI (sh_F y u)) → px_T 0 309 41 [some (.ref 56), some (.int (nI p)), some (.int x2), some (.int (nI m)), d4, d5, d6] [] N Q := by
    intro n
    induction n with
    | zero =>
      intro m lf N d4 d5 d6 hm q L hw
      have e1 : m = 64 := by omega
      subst e1
      refine sg_309_41 (fun c1 => ?_) (fun c1 => by exfalso; (try simp (disch := omega) only [in_lt, in_le, in_eq, in_add, in_mul, in_sb, in_cl, in_bz, in_bo, in_mo, not_true_eq_false, not_false_eq_true, il_0, il_1, il_2, il_3, il_4, il_5, il_6, il_7, il_8, il_9, il_10, il_11, il_12, il_13, il_14, il_15, il_16, il_31, il_64] at c1) <;> omega)
      rw [show nI p - 2 = nI (p - 2) from in_sub (a := p) (b := 2) (by omega)]
      have h2 : ∀ (n m : Nat) (x3 : Int64), m + n = 64 → x3.toInt = sh_S (sh_F y) (p - 2) m → px_T 0 309 80 [some (.ref 56), some (.int (nI p)), some (.int x2), some (.long x3), none, some (.int (nI (p - 2))), some (.int (nI m))] [] N Q := by
        intro n
        induction n with
        | zero =>
          intro m x3 hm hx
          have e1 : m = 64 := by omega
          subst e1
          have hx2 : x3.toInt = sh_T y p := hx
          have hT := sh_Tb y p
          have e3 : x3 = Int64.ofInt (sh_T y p) := by
            apply Int64.toInt_inj.mp
            rw [oI hT, hx2]
          refine sg_309_80 (fun c1 => ?_) (fun c1 => by exfalso; (try simp (disch := omega) only [in_lt, in_le, in_eq, in_add, in_mul, in_sb, in_cl, in_bz, in_bo, in_mo, not_true_eq_false, not_false_eq_true, il_0, il_1, il_2, il_3, il_4, il_5, il_6, il_7, il_8, il_9, il_10, il_11, il_12, il_13, il_14, il_15, il_16, il_31, il_64] at c1) <;> omega)
          refine sr_306 (n := 6) (by omega) (sg_309_155 ?_)
          rw [e3, nI_l (by decide)]
          exact sr_308 (B := 720) (oabs hT) (by omega) (by omega) (by omega) (sg_309_160 (h N q))
        | succ n ih =>
          intro m x3 hm hx
          have hsb := sh_b (F := sh_F y) (q := p - 2) (sh_Fl y) m (by omega)
          have hpc := sh_pc m (by omega)
          have es : sh_S (sh_F y) (p - 2) (m + 1) = sh_S (sh_F y) (p - 2) m + (if m.testBit (p - 2) = true then 0 else (sh_W (in_pc 15 m) : Int) * ((sh_F y (m ||| 2 ^ (p - 2)) : Int) - (sh_F y m : Int))) := rfl
          refine sg_309_80 (fun c1 => by exfalso; (try simp (disch := omega) only [in_lt, in_le, in_eq, in_add, in_mul, in_sb, in_cl, in_bz, in_bo, in_mo, not_true_eq_false, not_false_eq_true, il_0, il_1, il_2, il_3, il_4, il_5, il_6, il_7, il_8, il_9, il_10, il_11, il_12, il_13, il_14, il_15, il_16, il_31, il_64] at c1) <;> omega) (fun c1 => ?_)
          refine sr_177 (by omega) (by omega) ?_
          have h64 := or_64 (m := m) (q := p - 2) (by omega) (by omega)
          refine sg_309_94 (fun c => ?_) (fun c => ?_)
          · rw [in_b0] at c
            have h5 := sh_p5 m (by omega) (p - 2) (by omega) c
            refine sr_176 (by omega) (sg_309_103 ?_)
            rw [hpc.2]
            refine sr_306 (by omega) (sg_309_106 (sr_176 (by omega) (sg_309_113 ?_)))
            rw [hpc.2, il_5, in_sb h5]
            have f1 := fct_l (in_pc 15 m) (by omega)
            have f2 := fct_l (5 - in_pc 15 m) (by omega)
            refine sr_306 (by omega) (sg_309_117 ?_ (me_vin (by omega) (by omega)) ?_)
            · rw [in_one (by omega), in_or]
              exact me_vin h64 (by omega)
            · rw [in_one (by omega), in_or, in_cl (by omega), in_cl (by omega), hw _ (by omega), hw _ (by omega), in_a1, nI_l (by omega), nI_l (by omega)]
              refine ih (m + 1) _ (by omega) ?_
              rw [es, if_neg (by rw [c]; decide), ← hx]
              exact s64 (by omega) (sh_fw _ (by omega)) (sh_Wl (in_pc 15 m) (by omega)) (sh_Fl _ _) (sh_Fl _ _)
          · rw [in_b0, Bool.not_eq_false] at c
            rw [in_a1]
            refine ih (m + 1) _ (by omega) ?_
            rw [es, if_pos c, Int.add_zero]
            exact hx
      exact h2 64 0 0 rfl rfl
    | succ n ih =>
      intro m lf N d4 d5 d6 hm q L hw
      refine sg_309_41 (fun c1 => by exfalso; (try simp (disch := omega) only [in_lt, in_le, in_eq, in_add, in_mul, in_sb, in_cl, in_bz, in_bo, in_mo, not_true_eq_false, not_false_eq_true, il_0, il_1, il_2, il_3, il_4, il_5, il_6, il_7, il_8, il_9, il_10, il_11, il_12, il_13, il_14, il_15, il_16, il_31, il_64] at c1) <;> omega) (fun c1 => ?_)
      have e3 : (nI m <<< ((1 : Int32) &&& 31)) ||| 32640 = nI (2 * m ||| 32640) := by
        rw [show nI m <<< ((1 : Int32) &&& 31) = nI (m * 2 ^ 1) from in_shl (k := 1) (by omega) (by omega), il_32640, in_or, show m * 2 ^ 1 = 2 * m by omega]
      rw [e3]
      have hlt : 2 * m ||| 32640 < 2 ^ 15 := Nat.or_lt_two_pow (by omega) (by omega)
      refine sr_304w R.1 (by omega) L (fun M2 q2 w2 L2 => sg_309_63 (me_vin (by omega) (by omega)) ?_)
      rw [in_cl (by omega), in_a1]
      refine ih (m + 1) (wk y (2 * m ||| 32640)) _ _ _ _ (by omega) (rq_I (rq_tr q q2) (by omega) (by omega)) ?_ (fun u hu => ?_)
      · obtain ⟨l1, l2, l3⟩ := L2
        refine ⟨?_, ?_, ?_⟩
        · simp (disch := omega) only [me_II, me_Ii, me_Io, me_I2, me_L1, me_Li, me_LL, me_Lo, me_As, me_Ao, me_A2, me_Bs, me_Bo, me_B1]; exact l1
        · simp (disch := omega) only [me_II, me_Ii, me_Io, me_I2, me_L1, me_Li, me_LL, me_Lo, me_As, me_Ao, me_A2, me_Bs, me_Bo, me_B1]; exact l2
        · simp (disch := omega) only [me_II, me_Ii, me_Io, me_I2, me_L1, me_Li, me_LL, me_Lo, me_As, me_Ao, me_A2, me_Bs, me_Bo, me_B1]; exact l3
      · by_cases hum : u = m
        · subst hum
          rw [me_II]
          rfl
        · rw [me_Ii hum, w2]
          exact hw u (by omega)
  exact hl 64 0 _ M1 _ _ _ rfl (rq_l k1) L1 (fun u hu => absurd hu (Nat.not_lt_zero u))
end H60
