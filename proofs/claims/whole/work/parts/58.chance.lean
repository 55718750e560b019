/-! fractions; chance, mean -/
def lt_v (x : Int64) (A B : Nat) (w : Int32) : Int64 := if w = 0 then x / lN (Nat.gcd A B) else lN B / lN (Nat.gcd A B)
def wtn (od o : Nat) : Nat → Nat
  | 0 => 1
  | i + 1 => wtn od o i * (if o.testBit i = true then od else 10 - od)
def ck (y : iv_Y) (k o : Nat) : Nat → Bool := fun e => decide (iv_n y - k ≤ e) && o.testBit (e - (iv_n y - k))
def ch_s (y : iv_Y) (k o : Nat) : ws_S := tr_s y (iv_lw y) (ck y k o)
def cb_v (s : ws_S) (c : Nat) : Nat := in_pc 15 (ws_al s / 2 &&& c)
def ch_v (y : iv_Y) (k c : Nat) (n : Nat) : Nat := sm (fun o => wtn (iv_od y) o k * cb_v (ch_s y k o) c) n
def ch_ok (y : iv_Y) (x1 x2 : Int32) : Bool := decide (iv_ln y ≠ 0) && (rg x1 0 6 && (rg x1 0 (iv_n y) && rg x2 0 1))
def an_138 (y : iv_Y) (x1 x2 x3 : Int32) : Int64 := if (ch_ok y x2 x3 && rg x1 1 15) = true then lt_v (lN (ch_v y x2.toNatClampNeg (2 ^ (x1.toNatClampNeg - 1)) (2 ^ x2.toNatClampNeg))) (ch_v y x2.toNatClampNeg (2 ^ (x1.toNatClampNeg - 1)) (2 ^ x2.toNatClampNeg)) (10 ^ x2.toNatClampNeg) x3 else -2
def an_139 (y : iv_Y) (x1 x2 : Int32) : Int64 := if ch_ok y x1 x2 = true then lt_v (lN (ch_v y x1.toNatClampNeg 32767 (2 ^ x1.toNatClampNeg))) (ch_v y x1.toNatClampNeg 32767 (2 ^ x1.toNatClampNeg)) (10 ^ x1.toNatClampNeg) x2 else -2
theorem sm_split (f : Nat → Nat) (a : Nat) : ∀ b, sm f (a + b) = sm f a + sm (fun i => f (a + i)) b
  | 0 => rfl
  | b + 1 => by
    show sm f (a + b) + f (a + b) = sm f a + (sm (fun i => f (a + i)) b + f (a + b))
    rw [sm_split f a b, Nat.add_assoc]
theorem sm_mul (f : Nat → Nat) (c : Nat) : ∀ n, sm (fun i => f i * c) n = sm f n * c
  | 0 => (Nat.zero_mul c).symm
  | n + 1 => by
    show sm (fun i => f i * c) n + f n * c = (sm f n + f n) * c
    rw [sm_mul f c n, Nat.add_mul]
theorem sm_le {f g : Nat → Nat} : ∀ {n : Nat}, (∀ k, k < n → f k ≤ g k) → sm f n ≤ sm g n
  | 0, _ => Nat.le_refl _
  | n + 1, h => by
    have h1 := sm_le (n := n) (fun k hk => h k (by omega))
    have h2 := h n (by omega)
    show sm f n + f n ≤ sm g n + g n
    omega
theorem wtn_low {od o o2 : Nat} : ∀ {k : Nat}, (∀ i, i < k → o.testBit i = o2.testBit i) → wtn od o k = wtn od o2 k
  | 0, _ => rfl
  | k + 1, h => by
    show wtn od o k * _ = wtn od o2 k * _
    rw [wtn_low (fun i hi => h i (by omega)), h k (by omega)]
theorem wtn_sum {od : Nat} (hd : od ≤ 10) : ∀ k, sm (fun o => wtn od o k) (2 ^ k) = 10 ^ k
  | 0 => rfl
  | k + 1 => by
    have ih := wtn_sum hd k
    rw [show 2 ^ (k + 1) = 2 ^ k + 2 ^ k by rw [Nat.pow_succ]; omega, sm_split]
    have e1 : sm (fun o => wtn od o (k + 1)) (2 ^ k) = sm (fun o => wtn od o k * (10 - od)) (2 ^ k) := sm_cong (fun o ho => by
      show wtn od o k * _ = _
      rw [Nat.testBit_lt_two_pow ho, if_neg (by decide)])
    have e2 : sm (fun i => wtn od (2 ^ k + i) (k + 1)) (2 ^ k) = sm (fun o => wtn od o k * od) (2 ^ k) := sm_cong (fun o ho => by
      show wtn od (2 ^ k + o) k * _ = _
      have hb : (2 ^ k + o).testBit k = true := by
        rw [Nat.testBit_two_pow_add_eq, Nat.testBit_lt_two_pow ho]
        rfl
      rw [hb, if_pos rfl, wtn_low (fun i hi => Nat.testBit_two_pow_add_gt hi o)])
    rw [e1, e2, sm_mul, sm_mul, ih, ← Nat.mul_add, show 10 - od + od = 10 by omega, Nat.pow_succ]
section C58
variable {M M1 M2 : px_Mem} {Q : px_Po} {y : iv_Y}
theorem lN0 {a : Nat} (h : a < 2 ^ 31) : lN a = 0 ↔ a = 0 := lN_eq (b := 0) h (by omega)
theorem lNc {a : Nat} (h : a < 2 ^ 31) : lg_cmp (lN a) 0 = 0 ↔ a = 0 := by rw [lg_cmp_eq, lN0 h]
theorem lN_abs (a : Nat) (h : a < 2 ^ 31) : (if (0 : Int64) < lN a then lN a else -lN a) = lN a := by
  rcases Nat.eq_zero_or_pos a with h0 | h0
  · subst h0
    rfl
  · exact if_pos ((lN_lt (a := 0) (by omega) h).mpr h0)
/-- the class's fractions: its turns are enough -/
theorem sc_173l {x : Int64} {A B : Nat} {w : Int32} (hB : B < 2 ^ 31) (h : Q (some (.long (lt_v x A B w))) M) : ∀ (m a b i : Nat) (d10 d11 : Option Value), a < 2 ^ m → a < 2 ^ 31 → 0 < b → b < 2 ^ 31 → i + 2 * m ≤ 199 → Nat.gcd a b = Nat.gcd A B → px_T 0 173 12 [some (.long x), none, some (.long (lN B)), none, some (.int w), some (.long (lN a)), none, some (.long (lN b)), none, some (.int (nI i)), d10, d11] [] M Q
  | m, a, b, i, d10, d11, hm, ha, b0, hb, hi, hg => by
    have n200 : ¬ (200 : Int32) ≤ nI i := fun q => by simp (disch := omega) only [in_lt, in_le, in_eq, in_add, in_mul, in_sb, in_cl, in_bz, in_bo, in_mo, not_true_eq_false, not_false_eq_true, il_0, il_1, il_2, il_3, il_4, il_5, il_6, il_7, il_8, il_9, il_10, il_11, il_12, il_13, il_14, il_15, il_16, il_31, il_200] at q; omega
    have nb : ¬ lN b = 0 := fun q => by rw [lN0 hb] at q; omega
    have fin : a = 0 → (w = 0 → Q (some (.long (x / lN b))) M) ∧ (¬ w = 0 → Q (some (.long (lN B / lN b))) M) := by
      intro a0
      rw [a0, Nat.gcd_zero_left] at hg
      unfold lt_v at h
      rw [← hg] at h
      exact ⟨fun c => by rw [if_pos c] at h; exact h, fun c => by rw [if_neg c] at h; exact h⟩
    have nbc : ¬ lg_cmp (lN b) 0 = 0 := fun q => by rw [lNc hb] at q; omega
    refine sg_173_12 (fun c => absurd c n200) (fun c => absurd c n200) (fun c => absurd c n200) (fun c => absurd c n200) (fun c => absurd c n200) (fun _ _ c => absurd c nbc) (fun _ _ _ _ => nb) (fun _ c _ d => (fin ((lNc ha).mp c)).1 d) (fun _ _ _ _ => nb) (fun _ c _ d => (fin ((lNc ha).mp c)).2 d) (fun _ c => fun q => c (by rw [lg_cmp_eq]; exact q)) (fun _ c => ?_)
    rw [lNc ha] at c
    rw [pk_lRem (by omega) (by omega) (by omega), in_a1]
    cases m with
    | zero =>
      have : a = 0 := by
        have h1 : a < 1 := hm
        omega
      exact absurd this c
    | succ m =>
      have hr : b % a < a := Nat.mod_lt b (by omega)
      by_cases hr0 : b % a = 0
      · exact sc_173l hB h 0 (b % a) a (i + 1) _ _ (by rw [hr0]; decide) (by omega) (by omega) ha (by omega) (by rw [← Nat.gcd_rec]; exact hg)
      · -- a second turn
        have n200b : ¬ (200 : Int32) ≤ nI (i + 1) := fun q => by simp (disch := omega) only [in_lt, in_le, in_eq, in_add, in_mul, in_sb, in_cl, in_bz, in_bo, in_mo, not_true_eq_false, not_false_eq_true, il_0, il_1, il_2, il_3, il_4, il_5, il_6, il_7, il_8, il_9, il_10, il_11, il_12, il_13, il_14, il_15, il_16, il_31, il_200] at q; omega
        have na : ¬ lg_cmp (lN (b % a)) 0 = 0 := fun q => by rw [lNc (by omega)] at q; omega
        refine sg_173_12 (fun c => absurd c n200b) (fun c => absurd c n200b) (fun c => absurd c n200b) (fun c => absurd c n200b) (fun c => absurd c n200b) (fun _ c => absurd c na) (fun _ c => absurd c na) (fun _ c => absurd c na) (fun _ c => absurd c na) (fun _ c => absurd c na) (fun _ c => fun q => c (by rw [lg_cmp_eq]; exact q)) (fun _ _ => ?_)
        rw [pk_lRem (by omega) (by omega) (by omega), in_a1]
        have hlt : a % (b % a) < b % a := Nat.mod_lt a (by omega)
        have hdm := Nat.div_add_mod a (b % a)
        have hq : 1 ≤ a / (b % a) := Nat.div_pos (by omega) (by omega)
        have hmul : b % a ≤ (b % a) * (a / (b % a)) := Nat.le_mul_of_pos_right _ hq
        have h2 : 2 ^ (m + 1) = 2 * 2 ^ m := by rw [Nat.pow_succ]; omega
        exact sc_173l hB h m (a % (b % a)) (b % a) (i + 1 + 1) _ _ (by omega) (by omega) (by omega) (by omega) (by omega) (by rw [← Nat.gcd_rec, ← Nat.gcd_rec]; exact hg)
theorem sc_173 {x : Int64} {A B : Nat} {w : Int32} (hx : (if (0 : Int64) < x then x else -x) = lN A) (hA : A < 2 ^ 31) (hB0 : 0 < B) (hB : B < 2 ^ 31) (h : Q (some (.long (lt_v x A B w))) M) : px_T 0 173 0 [some (.long x), none, some (.long (lN B)), none, some (.int w), none, none, none, none, none, none, none] [] M Q := by
  refine sg_173_0 ?_
  rw [hx]
  exact sc_173l hB h 31 A B 0 _ _ hA hA hB0 hB (by omega) rfl
theorem sr_307l {G : Nat} (h : Q (some (.long (lN G))) M) : ∀ (n x z : Nat) (d0 d2 d8 d9 : Option Value), z < n → x < 2 ^ 31 → z < 2 ^ 31 → Nat.gcd x z = G → px_T 0 307 9 [d0, none, d2, none, some (.long (lN x)), none, some (.long (lN z)), none, d8, d9] [] M Q
  | 0, _, _, _, _, _, _, hz, _, _, _ => absurd hz (Nat.not_lt_zero _)
  | n + 1, x, z, d0, d2, d8, d9, hz, hx, hz2, hg => by
    refine sg_307_9 (fun c => ?_) (fun c => fun q => c (by rw [lg_cmp_eq]; exact q)) (fun c => ?_)
    · rw [lNc hz2] at c
      rw [c, Nat.gcd_zero_right] at hg
      rw [← hg] at h
      exact h
    · rw [lNc hz2] at c
      rw [pk_lRem (by omega) (by omega) (by omega)]
      have hlt : x % z < z := Nat.mod_lt x (by omega)
      refine sr_307l h n z (x % z) _ _ _ _ (by omega) hz2 (by omega) ?_
      rw [Nat.gcd_comm, ← Nat.gcd_rec, Nat.gcd_comm]
      exact hg
theorem sr_308 {x : Int64} {A B : Nat} {w : Int32} (hx : (if (0 : Int64) < x then x else -x) = lN A) (hA : A < 2 ^ 31) (hB0 : 0 < B) (hB : B < 2 ^ 31) (h : Q (some (.long (lt_v x A B w))) M) : px_T 0 308 0 [some (.long x), none, some (.long (lN B)), none, some (.int w)] [] M Q := by
  have hg0 : 0 < Nat.gcd A B := Nat.gcd_pos_of_pos_right A hB0
  have hgl : Nat.gcd A B ≤ B := Nat.gcd_le_right A hB0
  have ng : ¬ lN (Nat.gcd A B) = 0 := fun q => by rw [lN0 (by omega)] at q; omega
  unfold lt_v at h
  refine sg_308_0 (fun c => sg_307_0 ?_) (fun c => sg_307_0 ?_)
  · rw [hx]
    rw [if_pos c] at h
    exact sr_307l (G := Nat.gcd A B) (sg_308_15 ng h) (B + 1) A B _ _ _ _ (by omega) hA hB rfl
  · rw [hx]
    rw [if_neg c] at h
    exact sr_307l (G := Nat.gcd A B) (sg_308_15 ng h) (B + 1) A B _ _ _ _ (by omega) hA hB rfl
theorem sc_172 {k : Nat} (hk : k ≤ 6) (h : Q (some (.long (lN (10 ^ k)))) M) : px_T 0 172 0 [some (.int (nI k)), none, none, none] [] M Q := by
  refine sg_172_0 ?_
  have hl : ∀ i, i ≤ k → px_T 0 172 4 [some (.int (nI k)), some (.long (lN (10 ^ i))), none, some (.int (nI i))] [] M Q := by
    refine lp_dn ?_ (fun i hi ih => ?_)
    · refine sg_172_4 (fun c1 => ?_) (fun c1 => by exfalso; (try simp (disch := omega) only [in_lt, in_le, in_eq, in_add, in_mul, in_sb, in_cl, in_bz, in_bo, in_mo, not_true_eq_false, not_false_eq_true, il_0, il_1, il_2, il_3, il_4, il_5, il_6, il_7, il_8, il_9, il_10, il_11, il_12, il_13, il_14, il_15, il_16, il_31] at c1) <;> omega)
      exact h
    · refine sg_172_4 (fun c1 => by exfalso; (try simp (disch := omega) only [in_lt, in_le, in_eq, in_add, in_mul, in_sb, in_cl, in_bz, in_bo, in_mo, not_true_eq_false, not_false_eq_true, il_0, il_1, il_2, il_3, il_4, il_5, il_6, il_7, il_8, il_9, il_10, il_11, il_12, il_13, il_14, il_15, il_16, il_31] at c1) <;> omega) (fun c1 => ?_)
      have e : lN (10 ^ i) * 10 = lN (10 ^ (i + 1)) := by
        rw [Nat.pow_succ]
        exact lN_mul (10 ^ i) 10
      rw [e, in_a1]
      exact ih
  exact hl 0 (by omega)
theorem and_le {a c : Nat} : a &&& c ≤ a := Nat.and_le_left
theorem ck_low {k o e : Nat} (h : e < iv_n y - k) : ck y k o e = false := by
  unfold ck
  rw [decide_eq_false (by omega), Bool.false_and]
theorem ck_at {k o i : Nat} : ck y k o (iv_n y - k + i) = o.testBit i := by
  unfold ck
  rw [decide_eq_true (by omega), Bool.true_and, show iv_n y - k + i - (iv_n y - k) = i by omega]
theorem sc_171 (C : ic y M) {k c : Nat} (hk : k ≤ 6) (hkn : k ≤ iv_n y) (h : ∀ M', cq y M M' → Q (some (.long (lN (ch_v y k c (2 ^ k))))) M') : px_T 0 171 0 [some (.ref 0), some (.int (nI k)), some (.int (nI c)), none, none, none, none, none, none, none] [] M Q := by
  have hn := ic_n C
  have h2k : 2 ^ k ≤ 2 ^ 6 := Nat.pow_le_pow_right (by omega) hk
  have hod := C.1.2.1
  refine sg_171_0 (sp_53 (Or.inl rfl) C.2.1 (sg_171_7 ?_))
  rw [in_sb hkn]
  have hl : ∀ (m o : Nat) (N : px_Mem) (d7 d8 d9 : Option Value), o + m = 2 ^ k → cq y M N → px_T 0 171 16 [some (.ref 0), some (.int (nI k)), some (.int (nI c)), some (.int (nI (iv_n y - k))), some (.long (lN (ch_v y k c o))), none, some (.int (nI o)), d7, d8, d9] [] N Q := by
    intro m
    induction m with
    | zero =>
      intro o N d7 d8 d9 ho q
      have e1 : o = 2 ^ k := by omega
      subst e1
      have hle : (1 : Int32) <<< (nI k &&& 31) ≤ nI (2 ^ k) := by rw [in_one (by omega)]; exact nI_le (Nat.le_refl _) (by omega)
      exact sg_171_16 (fun _ => h N q) (fun c => absurd hle c)
    | succ m ih =>
      intro o N d7 d8 d9 ho q
      have C1 := ic_cq C q
      have hm := iv_rnm C.1 (t := iv_n y - k) (by omega)
      have hnl : ¬ (1 : Int32) <<< (nI k &&& 31) ≤ nI o := fun q => by rw [in_one (by omega), in_le (by omega) (by omega)] at q; omega
      refine sg_171_16 (fun c => absurd c hnl) (fun _ => sc_11 C1 (by omega) (fun M1 q1 hF => sg_171_39 (Or.inl rfl) (sp_61 hF.2.1 (fun M2 k2 hC2 => sg_171_42 ?_) (by omega))))
      have q2 := cq_tr q (cq_t C1 q1 k2)
      have inner : ∀ (mm i : Nat) (N2 : px_Mem), i + mm = k → cq y M N2 → ws_C (ws_run (iv_lw y) (iv_ev y) (ck y k o) (iv_n y - k + i)) 47 N2 → px_T 0 171 45 [some (.ref 0), some (.int (nI k)), some (.int (nI c)), some (.int (nI (iv_n y - k))), some (.long (lN (ch_v y k c o))), none, some (.int (nI o)), some (.long (lN (wtn (iv_od y) o i))), none, some (.int (nI i))] [] N2 Q := by
        intro mm
        induction mm with
        | zero =>
          intro i N2 hi q hC
          have e1 : i = k := by omega
          subst e1
          rw [show iv_n y - i + i = iv_n y by omega] at hC
          have hW : ws_W (ch_s y i o) := trW C.1 (Nat.le_refl _)
          have hC2 : ws_C (ch_s y i o) 47 N2 := hC
          have hle : nI i ≤ nI i := nI_le (Nat.le_refl _) (by omega)
          refine sg_171_45 (fun _ => ?_) (fun c => absurd hle c) (fun c => absurd hle c)
          rw [hC2.1.1, in_and]
          have hal := al_lt hW
          have hand : ws_al (ch_s y i o) / 2 &&& c ≤ ws_al (ch_s y i o) / 2 := Nat.and_le_left
          refine sp_bc (by omega) (sg_171_141 ?_)
          have hpl := pc_lt 15 (ws_al (ch_s y i o) / 2 &&& c)
          rw [nI_l (by omega), lN_mul, lN_add, in_a1]
          exact ih (o + 1) N2 _ _ _ (by omega) q
        | succ mm ih2 =>
          intro i N2 hi q hC
          have C3 := ic_cq C q
          have fo := C3.2.1.2.2.1
          have hnl2 : ¬ nI k ≤ nI i := fun q => by rw [in_le (by omega) (by omega)] at q; omega
          have hb : ((nI o >>> (nI i &&& 31)) &&& 1) = 0 ↔ o.testBit i = false := in_bit0 (by omega) (by omega)
          refine sg_171_45 (fun c => absurd c hnl2) (fun _ d => ?_) (fun _ d => ?_)
          · rw [hb] at d
            rw [in_add]
            refine sp_54 (Or.inl rfl) C3.2.1 (by omega) hn (sg_171_108 ?_)
            rw [C3.2.1.2.1]
            refine sc_73 C3 hC (trW C.1 (by omega)) (trm C.1 (by omega)) C3.1.1 (C3.1.2.2.2.2.2 _ (by omega)) (fun M3 q3 hC3 => sg_171_118 ?_)
            have ih3 := ih2 (i + 1) M3 (by omega) (cq_tr q q3) (by
              rw [← Nat.add_assoc, ws_run_s (by rw [ck_at]; exact d)]
              exact hC3)
            have e1 : wtn (iv_od y) o (i + 1) = wtn (iv_od y) o i * (10 - iv_od y) := by
              show wtn (iv_od y) o i * (if o.testBit i = true then iv_od y else 10 - iv_od y) = _
              rw [d, if_neg (by decide)]
            rw [e1] at ih3
            rw [fo, il_10, in_sb hod, nI_l (by omega), lN_mul, in_a1]
            exact ih3
          · rw [hb, Bool.not_eq_false] at d
            have ih3 := ih2 (i + 1) N2 (by omega) q (by
              rw [← Nat.add_assoc, ws_run_k (by rw [ck_at]; exact d)]
              exact hC)
            have e1 : wtn (iv_od y) o (i + 1) = wtn (iv_od y) o i * iv_od y := by
              show wtn (iv_od y) o i * (if o.testBit i = true then iv_od y else 10 - iv_od y) = _
              rw [d, if_pos rfl]
            rw [e1] at ih3
            rw [fo, nI_l (by omega), lN_mul, in_a1]
            exact ih3
      refine inner k 0 M2 (by omega) q2 ?_
      have e0 : ws_run (iv_lw y) (iv_ev y) (ck y k o) (iv_n y - k + 0) = iv_rn y (iv_n y - k) := ws_run_cong (fun t ht => ⟨ck_low (by omega), fun _ => rfl⟩)
      rw [e0]
      exact hC2
  exact hl (2 ^ k) 0 M _ _ _ (by omega) (cq_rf C)
theorem cb_le (s : ws_S) (c : Nat) : cb_v s c ≤ 15 := pc_lt 15 _
theorem ch_lt (hod : iv_od y ≤ 10) {k c : Nat} (hk : k ≤ 6) : ch_v y k c (2 ^ k) < 2 ^ 31 := by
  have h1 : ch_v y k c (2 ^ k) ≤ sm (fun o => wtn (iv_od y) o k * 15) (2 ^ k) := sm_le (fun o _ => Nat.mul_le_mul_left _ (cb_le _ _))
  rw [sm_mul, wtn_sum hod] at h1
  have h2 : 10 ^ k ≤ 10 ^ 6 := Nat.pow_le_pow_right (by omega) hk
  have h3 : 10 ^ k * 15 ≤ 10 ^ 6 * 15 := Nat.mul_le_mul_right 15 h2
  omega
theorem p10 {k : Nat} (hk : k ≤ 6) : 0 < 10 ^ k ∧ 10 ^ k < 2 ^ 31 := by
  have h1 : 0 < 10 ^ k := Nat.pow_pos (by omega)
  have h2 : 10 ^ k ≤ 10 ^ 6 := Nat.pow_le_pow_right (by omega) hk
  exact ⟨h1, by omega⟩
theorem sc_160 (C : ic y M) {x1 x2 : Int32} (h1 : ∀ k, x1 = nI k → k ≤ 6 → k ≤ iv_n y → ch_ok y x1 x2 = true → Q (some (.int 0)) M) (h2 : ch_ok y x1 x2 = false → Q (some (.int 1)) M) : px_T 0 160 0 [some (.ref 0), some (.int x1), some (.int x2)] [] M Q := by
  have hn := ic_n C
  have e1 : (1 : Int32).toInt = 1 := rfl
  have e6 : (6 : Int32).toInt = 6 := rfl
  have bad : (decide (iv_ln y ≠ 0) = false ∨ rg x1 0 6 = false ∨ rg x1 0 (iv_n y) = false ∨ rg x2 0 1 = false) → ch_ok y x1 x2 = false := by
    intro hb
    unfold ch_ok
    rcases hb with q | q | q | q <;> rw [q] <;> simp
  refine sg_160_0 (sc_151 C (fun g => sg_160_4 (fun _ c => h2 (bad ?_)) (fun _ _ c => h2 (bad ?_)) (fun _ c d => ?_) (fun q => absurd rfl q)) (fun g => sg_160_4 (fun q => absurd q (by decide)) (fun q => absurd q (by decide)) (fun q => absurd q (by decide)) (fun _ => h2 (bad (Or.inl (decide_eq_false (fun q => q g)))))))
  · rw [fa_lt, Int32.toInt_zero] at c
    exact Or.inr (Or.inl (rg_f (Or.inl c)))
  · rw [fa_lt, e6] at c
    exact Or.inr (Or.inl (rg_f (Or.inr c)))
  · obtain ⟨k, hk, rfl⟩ := nI_of c
    have k6 : k ≤ 6 := by simp (disch := omega) only [in_lt, in_le, in_eq, in_add, in_mul, in_sb, in_cl, in_bz, in_bo, in_mo, not_true_eq_false, not_false_eq_true, il_0, il_1, il_2, il_3, il_4, il_5, il_6, il_7, il_8, il_9, il_10, il_11, il_12, il_13, il_14, il_15, il_16, il_31] at d; omega
    refine sp_53 (Or.inl rfl) C.2.1 (sg_160_25 (fun e => h2 (bad ?_)) (fun e f => h2 (bad ?_)) (fun e f g1 => ?_) (fun e f g1 => h2 (bad ?_)))
    · rw [in_lt (by omega) hk] at e
      refine Or.inr (Or.inr (Or.inl ?_))
      rw [rg_n hk]
      exact decide_eq_false (by omega)
    · rw [fa_lt, Int32.toInt_zero] at f
      exact Or.inr (Or.inr (Or.inr (rg_f (Or.inl f))))
    · rw [in_lt (by omega) hk] at e
      rw [fa_lt, Int32.toInt_zero] at f
      rw [fa_le, e1] at g1
      refine h1 k rfl k6 (by omega) ?_
      unfold ch_ok
      rw [decide_eq_true g, rg_n hk, rg_n hk, show decide ((0 : Int) ≤ (k : Int) ∧ (k : Int) ≤ 6) = true from decide_eq_true (by omega), show decide ((0 : Int) ≤ (k : Int) ∧ (k : Int) ≤ (iv_n y : Int)) = true from decide_eq_true (by omega), show rg x2 0 1 = true from decide_eq_true (by omega)]
      rfl
    · rw [fa_le, e1] at g1
      exact Or.inr (Or.inr (Or.inr (rg_f (Or.inr (by omega)))))
theorem sc_138 (C : ic y M) {x1 x2 x3 : Int32} (h : ∀ M', cq y M M' → Q (some (.long (an_138 y x1 x2 x3))) M') : px_T 0 138 0 [some (.ref 0), some (.int x1), some (.int x2), some (.int x3)] [] M Q := by
  unfold an_138 at h
  refine sg_138_0 (sc_153 (fun p hp p1 p2 g => sg_138_4 (fun _ => sc_160 C (fun k hk k6 kn g2 => sg_138_13 (fun _ => ?_) (fun q => absurd rfl q)) (fun g2 => sg_138_13 (fun q => absurd q (by decide)) (fun _ => ?_))) (fun q => absurd rfl q)) (fun g => sg_138_4 (fun q => absurd q (by decide)) (fun _ => ?_)))
  · subst hp hk
    rw [g, g2, if_pos (by decide), in_cl (by omega), in_cl (by omega)] at h
    refine sp_161 p1 (by omega) (sg_138_26 (sc_171 C k6 kn (fun M1 q1 => sg_138_29 (sc_172 k6 (sg_138_33 ?_)))))
    have hlt := ch_lt (c := 2 ^ (p - 1)) C.1.2.1 k6
    exact sc_173 (lN_abs _ hlt) hlt (p10 k6).1 (p10 k6).2 (sg_138_37 (h M1 q1))
  · have h9 := h M (cq_rf C)
    rw [g2, Bool.false_and, if_neg (by decide)] at h9
    exact h9
  · have h9 := h M (cq_rf C)
    rw [g, Bool.and_false, if_neg (by decide)] at h9
    exact h9
theorem sc_139 (C : ic y M) {x1 x2 : Int32} (h : ∀ M', cq y M M' → Q (some (.long (an_139 y x1 x2))) M') : px_T 0 139 0 [some (.ref 0), some (.int x1), some (.int x2)] [] M Q := by
  unfold an_139 at h
  refine sg_139_0 (sc_160 C (fun k hk k6 kn g2 => sg_139_6 (fun _ => ?_) (fun q => absurd rfl q)) (fun g2 => sg_139_6 (fun q => absurd q (by decide)) (fun _ => ?_)))
  · subst hk
    rw [g2, if_pos rfl, in_cl (by omega)] at h
    refine sc_171 (c := 32767) C k6 kn (fun M1 q1 => sg_139_21 (sc_172 k6 (sg_139_25 ?_)))
    have hlt := ch_lt (c := 32767) C.1.2.1 k6
    exact sc_173 (lN_abs _ hlt) hlt (p10 k6).1 (p10 k6).2 (sg_139_29 (h M1 q1))
  · have h9 := h M (cq_rf C)
    rw [g2, if_neg (by decide)] at h9
    exact h9
end C58
