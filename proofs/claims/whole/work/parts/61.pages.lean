/-! pages copied ahead of the stop -/
def pd (y : iv_Y) (p t : Nat) : Nat := if ws_db (ws_why (iv_rn y t) (iv_ev y t)) (iv_ev y t) ≠ 0 ∧ ws_dw (iv_ev y t) = p then ws_db (ws_why (iv_rn y t) (iv_ev y t)) (iv_ev y t) else 0
def pgf (y : iv_Y) (p : Nat) : Nat → Nat → Nat → Nat
  | 0, _, v => v
  | n + 1, t, v => pgf y p n (t + 1) (v ||| pd y p t)
def pgd (y : iv_Y) (p a z : Nat) : Nat := if (ws_al (iv_rn y z)).testBit p = true then pgf y p (z - a) a 0 else 0
def pgs (y : iv_Y) (a z : Nat) : Nat := sm (fun i => in_pc 15 (pgd y (i + 1) a z)) 15
def mk (a e z j : Nat) : Nat := min (a + j * e) z
def rv (y : iv_Y) (a e z : Nat) : Nat → Nat
  | 0 => 8 * pcA (iv_rn y a)
  | r + 1 => pgs y (mk a e z r) (mk a e z (r + 1))
def lr (a e z : Nat) : Nat := (z - a - 1) / e + 1
def lst (y : iv_Y) (a z e : Nat) : Nat := rv y a e z (lr a e z)
def alc (y : iv_Y) (a z e : Nat) : Nat := sm (rv y a e z) (lr a e z + 1)
def bp (y : iv_Y) (a z : Nat) : Nat → Nat
  | 0 => 1
  | n + 1 => if lst y a z (n + 2) < lst y a z (bp y a z n) ∨ (lst y a z (n + 2) = lst y a z (bp y a z n) ∧ alc y a z (n + 2) ≤ alc y a z (bp y a z n)) then n + 2 else bp y a z n
def cp (y : iv_Y) (x z : Int32) : Bool := tk y x && (tk y z && decide (x.toInt < z.toInt))
def an_122 (y : iv_Y) (x1 x2 x3 : Int32) : Int32 := if ((tk y x2 && rg x1 1 15) && (tk y x3 && decide (x2.toInt ≤ x3.toInt))) = true then nI (pgd y x1.toNatClampNeg x2.toNatClampNeg x3.toNatClampNeg) else -2
def an_123 (y : iv_Y) (x1 x2 x3 x4 : Int32) : Int32 := if ((cp y x1 x3 && rg x2 1 40) && decide (0 ≤ x4.toInt)) = true then (if x4.toNatClampNeg ≤ lr x1.toNatClampNeg x2.toNatClampNeg x3.toNatClampNeg then nI (rv y x1.toNatClampNeg x2.toNatClampNeg x3.toNatClampNeg x4.toNatClampNeg) else -1) else -2
def an_124 (y : iv_Y) (x1 x2 x3 : Int32) : Int32 := if (cp y x1 x3 && rg x2 1 40) = true then nI (alc y x1.toNatClampNeg x3.toNatClampNeg x2.toNatClampNeg) else -2
def an_125 (y : iv_Y) (x1 x2 : Int32) : Int32 := if cp y x1 x2 = true then nI (bp y x1.toNatClampNeg x2.toNatClampNeg 39) else -2
section P61
variable {M : px_Mem} {Q : px_Po} {y : iv_Y}
theorem or255 (v : Nat) (h : v < 256) : v ||| 255 = 255 := by
  apply Nat.eq_of_testBit_eq
  intro i
  rw [Nat.testBit_or, show (255 : Nat) = 2 ^ 8 - 1 from rfl, Nat.testBit_two_pow_sub_one]
  by_cases hi : i < 8
  · simp [hi]
  · rw [Nat.testBit_lt_two_pow (Nat.lt_of_lt_of_le h (Nat.pow_le_pow_right (n := 2) (i := 8) (by omega) (by omega)))]
    simp
theorem pd_lt (hy : iv_yok y) {p t : Nat} (ht : t < iv_n y) : pd y p t < 256 := by
  have hok := hy.2.2.2.2.2 t ht
  have hb : ws_db (ws_why (iv_rn y t) (iv_ev y t)) (iv_ev y t) < 256 := by
    unfold ws_db
    split
    · split
      · omega
      · split
        · rename_i h9
          have : (iv_ev y t).2.2.1 ≤ 7 := by unfold iv_ok at hok; omega
          exact Nat.lt_of_lt_of_le (Nat.pow_lt_pow_right (by omega) (show (iv_ev y t).2.2.1 < 8 by omega)) (by omega)
        · omega
    · omega
  unfold pd
  split
  · exact hb
  · omega
theorem sl_1 (hy : iv_yok y) {p t v : Nat} {f : Nat → Int32} (ht : t < iv_n y) (hf : f p = nI v) (hv : v < 256) : ws_sl (ws_why (iv_rn y t) (iv_ev y t)) (iv_ev y t) f p = nI (v ||| pd y p t) := by
  have h2 : ∀ k : Nat, 2 ^ k ≠ 0 := fun k => Nat.pos_iff_ne_zero.mp (Nat.two_pow_pos k)
  unfold ws_sl pd ws_db ws_dw
  by_cases hw : ws_why (iv_rn y t) (iv_ev y t) = 0
  · simp only [if_pos hw]
    by_cases h0 : (iv_ev y t).1 = 0
    · simp only [if_pos h0]
      by_cases hp : (iv_ev y t).2.2.1 = p
      · rw [hp, px_upd_self, if_pos ⟨by decide, rfl⟩, or255 v hv]
        rfl
      · rw [px_upd_ne (fun q => hp q.symm), if_neg (fun q => hp q.2), Nat.or_zero]
        exact hf
    · simp only [if_neg h0]
      by_cases h9 : (iv_ev y t).1 = 9
      · simp only [if_pos h9]
        by_cases hp : (iv_ev y t).2.1 = p
        · rw [hp, px_upd_self, if_pos ⟨h2 _, rfl⟩, hf, in_or]
        · rw [px_upd_ne (fun q => hp q.symm), if_neg (fun q => hp q.2), Nat.or_zero]
          exact hf
      · simp only [if_neg h9]
        rw [if_neg (fun q => q.1 rfl), Nat.or_zero]
        exact hf
  · simp only [if_neg hw]
    rw [if_neg (fun q => q.1 rfl), Nat.or_zero]
    exact hf
theorem sl_f (hy : iv_yok y) {p : Nat} : ∀ (n t v : Nat) (f : Nat → Int32), t + n ≤ iv_n y → f p = nI v → v < 256 → sl_go y n t f p = nI (pgf y p n t v) ∧ pgf y p n t v < 256
  | 0, t, v, f, _, hf, hv => ⟨hf, hv⟩
  | n + 1, t, v, f, ht, hf, hv => by
    have hb : v ||| pd y p t < 256 := Nat.or_lt_two_pow (n := 8) hv (pd_lt hy (by omega))
    exact sl_f hy n (t + 1) (v ||| pd y p t) _ (by omega) (sl_1 hy (by omega) hf hv) hb
theorem pgf_b (hy : iv_yok y) {p n t v : Nat} (h : t + n ≤ iv_n y) (hv : v < 256) : pgf y p n t v < 256 := (sl_f hy (p := p) n t v (fun _ => nI v) h rfl hv).2
theorem pgd_b (hy : iv_yok y) {p a z : Nat} (h : a ≤ z) (hz : z ≤ iv_n y) : pgd y p a z < 256 := by
  unfold pgd
  split
  · exact pgf_b hy (by omega) (by omega)
  · omega
theorem sm_b {f : Nat → Nat} {b : Nat} (h : ∀ i, f i ≤ b) : ∀ n, sm f n ≤ b * n
  | 0 => Nat.le_refl _
  | n + 1 => by
    have h1 := sm_b h n
    have h2 := h n
    rw [sm_s, Nat.mul_add]
    omega
theorem pc_b : ∀ (k n : Nat), in_pc k n ≤ k
  | k, n => by rw [pc_ct]; exact fb_ct_le _ _
theorem pgs_b {a z : Nat} : pgs y a z ≤ 225 := sm_b (b := 15) (fun i => pc_b _ _) 15
theorem rv_b {a e z r : Nat} : rv y a e z r ≤ 225 := by
  cases r with
  | zero =>
    have := pcA_le (iv_rn y a)
    show 8 * pcA (iv_rn y a) ≤ 225
    omega
  | succ r => exact pgs_b
theorem lr_lt {a e z j : Nat} (he : 1 ≤ e) (hz : a < z) : j < lr a e z ↔ a + j * e < z := by
  unfold lr
  have := Nat.le_div_iff_mul_le (x := j) (y := z - a - 1) (k := e) (by omega)
  omega
theorem lr_b {a e z : Nat} : lr a e z ≤ z - a - 1 + 1 := by
  unfold lr
  have := Nat.div_le_self (z - a - 1) e
  omega
/-! the class -/
theorem cq_32 {M1 : px_Mem} {t : Nat} (C : ic y M) (ht : t ≤ iv_n y) (hF : fl_at y t M) (h : ∀ a, a ≠ 32 → a ≠ 28 → M1.1 a = M.1 a) (h3 : M1.1 28 3 = M.1 28 3) (h2 : M1.2 = M.2) : cq y M M1 ∧ fl_at y t M1 := by
  obtain ⟨f1, f2, f3⟩ := hF
  have hF1 : fl_at y t M1 := ⟨by rw [h3]; exact f1, ws_C_fr f2 (fun a ha hb hc => h a (by omega) (by omega)), by rw [h 37 (by omega) (by omega)]; exact f3⟩
  refine ⟨⟨fun a ha => ⟨h a (by omega) (by omega), by rw [h2]⟩, ⟨t, ht, hF1⟩, ?_⟩, hF1⟩
  exact iv_shp_fr C.2.2.2.1 (by rw [h 38 (by omega) (by omega)]) (h 42 (by omega) (by omega)) (fun t _ => by rw [h2]) (ic_n C)
theorem sc_62 {t : Nat} (C : ic y M) (ht : t ≤ iv_n y) (hF : fl_at y t M) (h : ∀ M', cq y M M' → fl_at y t M' → (∀ p, p < 16 → M'.1 32 p = 0) → M'.1 28 = M.1 28 → Q none M') : px_T 0 62 0 [some (.ref 29)] [] M Q := by
  refine sp_62 ?_
  have k := cq_32 (M1 := px_aI M 32 (fa_fill (fun _ => 0) (M.1 32) 16)) C ht hF (fun a h1 h2 => by simp (disch := omega) only [me_II, me_Ii, me_Io, me_I2, me_L1, me_Li, me_LL, me_Lo, me_As, me_Ao, me_A2, me_Bs, me_Bo, me_B1]) (by simp (disch := omega) only [me_II, me_Ii, me_Io, me_I2, me_L1, me_Li, me_LL, me_Lo, me_As, me_Ao, me_A2, me_Bs, me_Bo, me_B1]) rfl
  refine h _ k.1 k.2 (fun p hp => ?_) (by simp (disch := omega) only [me_II, me_Ii, me_Io, me_I2, me_L1, me_Li, me_LL, me_Lo, me_As, me_Ao, me_A2, me_Bs, me_Bo, me_B1])
  simp (disch := omega) only [me_II, me_Ii, me_Io, me_I2, me_L1, me_Li, me_LL, me_Lo, me_As, me_Ao, me_A2, me_Bs, me_Bo, me_B1]
  rw [fa_fill_in hp]
theorem sc_11s {a z : Nat} (C : ic y M) (hF : fl_at y a M) (h0 : ∀ p, p < 16 → M.1 32 p = 0) (haz : a ≤ z) (hz : z ≤ iv_n y) (h : ∀ M', cq y M M' → fl_at y z M' → (∀ p, p < 16 → M'.1 32 p = nI (pgf y p (z - a) a 0)) → (∀ i, i ≠ 3 → M'.1 28 i = M.1 28 i) → Q (some (.ref 29)) M') : px_T 0 11 0 [some (.ref 28), some (.int (nI z))] [] M Q := by
  refine sp_11 C.1 C.2.1 hF (by omega) hz (fun M' k1 k2 k3 => h M' (cq_fl C k1 hz k2) k2 (fun p hp => ?_) k1.2)
  rw [k3 haz]
  exact (sl_f C.1 (z - a) a 0 _ (by omega) (h0 p hp) (by omega)).1
theorem sc_122 (C : ic y M) {x1 x2 x3 : Int32} (h : ∀ M', cq y M M' → Q (some (.int (an_122 y x1 x2 x3))) M') : px_T 0 122 0 [some (.ref 0), some (.int x1), some (.int x2), some (.int x3), none] [] M Q := by
  unfold an_122 at h
  have hn := ic_n C
  have bad : (rg x1 1 15 = false ∨ tk y x2 = false ∨ tk y x3 = false ∨ ¬ (x2.toInt ≤ x3.toInt)) → Q (some (.int (-2))) M := by
    intro hb
    have h9 := h M (cq_rf C)
    rw [if_neg] at h9
    · exact h9
    · rcases hb with q | q | q | q
      · rw [q]; simp
      · rw [q]; simp
      · rw [q]; simp
      · rw [decide_eq_false q]; simp
  refine sg_122_0 (sc_153 (fun p e1 p1 p2 g1 => sg_122_4 (fun _ => ?_) (fun q => absurd rfl q)) (fun g1 => sg_122_4 (fun q => absurd q (by decide)) (fun _ => bad (Or.inl g1))))
  refine sc_152 C (fun a e2 a1 g2 => sg_122_12 (fun _ => ?_) (fun q => absurd rfl q)) (fun g2 => sg_122_12 (fun q => absurd q (by decide)) (fun _ => bad (Or.inr (Or.inl g2))))
  refine sc_152 C (fun z e3 z1 g3 => sg_122_20 (fun _ c => ?_) (fun _ c => bad (Or.inr (Or.inr (Or.inr (fun q => c (by rw [fa_le]; exact q)))))) (fun q => absurd rfl q)) (fun g3 => sg_122_20 (fun q => absurd q (by decide)) (fun q => absurd q (by decide)) (fun _ => bad (Or.inr (Or.inr (Or.inl g3)))))
  rw [g1, g2, g3, decide_eq_true (by rw [fa_le] at c; exact c), if_pos (by decide)] at h
  subst e1 e2 e3
  simp (disch := omega) only [in_lt, in_le, in_eq, in_add, in_mul, in_sb, in_cl, in_bz, in_bo, in_mo, not_true_eq_false, not_false_eq_true, il_0, il_1, il_2, il_3, il_4, il_5, il_6, il_7, il_8, il_9, il_10, il_11, il_12, il_13, il_14, il_15, il_16, il_31] at c
  rw [in_cl (by omega), in_cl (by omega), in_cl (by omega)] at h
  refine sc_11 C a1 (fun M1 q1 F1 => sg_122_39 (Or.inl rfl) ?_)
  refine sc_62 (ic_cq C q1) a1 F1 (fun M2 q2 F2 h0 _ => sg_122_42 ?_)
  have q12 := cq_tr q1 q2
  refine sc_11s (ic_cq C q12) F2 h0 c z1 (fun M3 q3 F3 hs _ => sg_122_50 (Or.inl rfl) ?_)
  have h2 := h M3 (cq_tr q12 q3)
  unfold pgd at h2
  refine sw_63 (Or.inl rfl) F3.2.1 (iv_rnW C.1 z1) p1 p2 (sg_122_58 (Or.inl rfl) (fun c => ?_) (fun c => me_vin (by omega) (by omega)) (fun c => ?_))
  · rw [in_b0] at c
    rw [c, if_neg (by decide)] at h2
    exact h2
  · rw [in_b0, Bool.not_eq_false] at c
    rw [if_pos c] at h2
    rw [in_cl (by omega), hs p (by omega)]
    exact h2
theorem sc_159 (C : ic y M) {x1 x2 x3 : Int32} (h1 : ∀ a e z : Nat, x1 = nI a → x2 = nI e → x3 = nI z → a < z → z ≤ iv_n y → 1 ≤ e → e ≤ 40 → (cp y x1 x3 && rg x2 1 40) = true → Q (some (.int 0)) M) (h2 : (cp y x1 x3 && rg x2 1 40) = false → Q (some (.int 1)) M) : px_T 0 159 0 [some (.ref 0), some (.int x1), some (.int x2), some (.int x3)] [] M Q := by
  have e1 : (1 : Int32).toInt = 1 := rfl
  have e40 : (40 : Int32).toInt = 40 := rfl
  have hn := ic_n C
  have bad : (tk y x1 = false ∨ tk y x3 = false ∨ ¬ (x1.toInt < x3.toInt) ∨ rg x2 1 40 = false) → Q (some (.int 1)) M := by
    intro hb
    refine h2 ?_
    unfold cp
    rcases hb with q | q | q | q
    · rw [q]; simp
    · rw [q]; simp
    · rw [decide_eq_false q]; simp
    · rw [q]; simp
  refine sg_159_0 (sc_152 C (fun a ea a1 g1 => sg_159_5 (fun _ => ?_) (fun q => absurd rfl q)) (fun g1 => sg_159_5 (fun q => absurd q (by decide)) (fun _ => bad (Or.inl g1))))
  refine sc_152 C (fun z ez z1 g2 => ?_) (fun g2 => sg_159_13 (fun q => absurd q (by decide)) (fun q => absurd q (by decide)) (fun q => absurd q (by decide)) (fun q => absurd q (by decide)) (fun _ => bad (Or.inr (Or.inl g2))))
  refine sg_159_13 (fun _ c => bad (Or.inr (Or.inr (Or.inl ?_)))) (fun _ _ c => bad (Or.inr (Or.inr (Or.inr (rg_f (Or.inl ?_)))))) (fun _ b c d => ?_) (fun _ _ _ c => bad (Or.inr (Or.inr (Or.inr (rg_f (Or.inr ?_)))))) (fun q => absurd rfl q)
  · rw [fa_le] at c
    omega
  · rw [fa_lt, e1] at c
    exact c
  · have g3 : rg x2 1 40 = true := by
      rw [fa_lt, e1] at c
      rw [fa_le, e40] at d
      exact decide_eq_true (by omega)
    have g4 : decide (x1.toInt < x3.toInt) = true := by
      rw [fa_le] at b
      exact decide_eq_true (by omega)
    obtain ⟨e, ee, e2, e3⟩ := rg_of g3 (by omega) (by omega)
    refine h1 a e z ea ee ez ?_ z1 (by omega) (by omega) (by unfold cp; rw [g1, g2, g3, g4]; rfl)
    subst ea ez
    simp (disch := omega) only [in_lt, in_le, in_eq, in_add, in_mul, in_sb, in_cl, in_bz, in_bo, in_mo, not_true_eq_false, not_false_eq_true, il_0, il_1, il_2, il_3, il_4, il_5, il_6, il_7, il_8, il_9, il_10, il_11, il_12, il_13, il_14, il_15, il_16, il_31] at b
    omega
  · rw [fa_le, e40] at c
    omega
theorem sc_15 {a z : Nat} (C : ic y M) (hF : fl_at y z M) (haz : a ≤ z) (hz : z ≤ iv_n y) (hs : ∀ p, p < 16 → M.1 32 p = nI (pgf y p (z - a) a 0)) (h : Q (some (.int (nI (pgs y a z)))) M) : px_T 0 15 0 [some (.ref 28), none, none] [] M Q := by
  refine sg_15_0 ?_
  have hl : ∀ i, i ≤ 15 → px_T 0 15 4 [some (.ref 28), some (.int (nI (sm (fun i => in_pc 15 (pgd y (i + 1) a z)) i))), some (.int (nI (i + 1)))] [] M Q := by
    refine lp_dn ?_ (fun i hi ih => ?_)
    · refine sg_15_4 (fun c1 => ?_) (fun c1 => by exfalso; (try simp (disch := omega) only [in_lt, in_le, in_eq, in_add, in_mul, in_sb, in_cl, in_bz, in_bo, in_mo, not_true_eq_false, not_false_eq_true, il_0, il_1, il_2, il_3, il_4, il_5, il_6, il_7, il_8, il_9, il_10, il_11, il_12, il_13, il_14, il_15, il_16, il_31] at c1) <;> omega)
      exact h
    · refine sg_15_4 (fun c1 => by exfalso; (try simp (disch := omega) only [in_lt, in_le, in_eq, in_add, in_mul, in_sb, in_cl, in_bz, in_bo, in_mo, not_true_eq_false, not_false_eq_true, il_0, il_1, il_2, il_3, il_4, il_5, il_6, il_7, il_8, il_9, il_10, il_11, il_12, il_13, il_14, il_15, il_16, il_31] at c1) <;> omega) (fun c1 => ?_)
      refine sw_63 (Or.inl rfl) hF.2.1 (iv_rnW C.1 hz) (by omega) (by omega) (sg_15_18 (fun c => ?_) (fun c => me_vin (by omega) (by omega)) (fun c => ?_))
      · rw [in_b0] at c
        rw [sm_s, show pgd y (i + 1) a z = 0 by unfold pgd; rw [c, if_neg (by decide)], show in_pc 15 0 = 0 from rfl, Nat.add_zero] at ih
        rw [in_a1]
        exact ih
      · rw [in_b0, Bool.not_eq_false] at c
        have e1 : pgd y (i + 1) a z = pgf y (i + 1) (z - a) a 0 := by unfold pgd; rw [if_pos c]
        have hb := pgf_b C.1 (p := i + 1) (n := z - a) (t := a) (v := 0) (by omega) (by omega)
        rw [sm_s, e1] at ih
        rw [in_cl (by omega), hs _ (by omega)]
        refine sp_bc (by omega) (sg_15_34 ?_)
        rw [in_add, in_a1]
        exact ih
  exact hl 0 (by omega)
/-- behind j rounds -/
def pcy (y : iv_Y) (a e z r j : Nat) (M : px_Mem) : Prop := M.1 28 6 = nI (rv y a e z j) ∧ M.1 28 5 = nI (sm (rv y a e z) (j + 1)) ∧ M.1 28 4 = (if r ≤ j then nI (rv y a e z r) else -1)
theorem sc_14 (C : ic y M) {a e z r : Nat} (haz : a < z) (hz : z ≤ iv_n y) (he : 1 ≤ e) (he2 : e ≤ 40) (hr : r < 2 ^ 31) (h : ∀ M', cq y M M' → pcy y a e z r (lr a e z) M' → Q none M') : px_T 0 14 0 [some (.ref 28), some (.int (nI a)), some (.int (nI e)), some (.int (nI z)), some (.int (nI r)), none, none] [] M Q := by
  have hn := ic_n C
  have hL := lr_b (a := a) (e := e) (z := z)
  have h0e : mk a e z 0 = a := by unfold mk; omega
  have hlp : ∀ (n j : Nat) (N : px_Mem), j + n = lr a e z → cq y M N → fl_at y (mk a e z j) N → (∀ p, p < 16 → N.1 32 p = 0) → pcy y a e z r j N → px_T 0 14 56 [some (.ref 28), some (.int (nI a)), some (.int (nI e)), some (.int (nI z)), some (.int (nI r)), some (.int (nI (mk a e z j))), some (.int (nI (j + 1)))] [] N Q := by
    intro n
    induction n with
    | zero =>
      intro j N hj q F h0 P
      have e1 : j = lr a e z := by omega
      subst e1
      have e2 : mk a e z (lr a e z) = z := by
        have hnn : ¬ a + lr a e z * e < z := fun q => Nat.lt_irrefl _ ((lr_lt (j := lr a e z) he haz).mpr q)
        unfold mk
        exact Nat.min_eq_right (by omega)
      rw [e2]
      refine sg_14_56 (fun c1 => ?_) (fun c1 c2 => ?_) (fun c1 c2 => by exfalso; (try simp (disch := omega) only [in_lt, in_le, in_eq, in_add, in_mul, in_sb, in_cl, in_bz, in_bo, in_mo, not_true_eq_false, not_false_eq_true, il_0, il_1, il_2, il_3, il_4, il_5, il_6, il_7, il_8, il_9, il_10, il_11, il_12, il_13, il_14, il_15, il_16, il_31, il_70] at c1 c2) <;> omega)
      · exact h N q P
      · exact h N q P
    | succ n ih =>
      intro j N hj q F h0 P
      have hlt := (lr_lt (j := j) he haz).mp (by omega)
      have e2 : mk a e z j = a + j * e := by unfold mk; omega
      have e3 : mk a e z (j + 1) = min (mk a e z j + e) z := by
        rw [e2]
        unfold mk
        rw [Nat.add_mul, Nat.one_mul, Nat.add_assoc]
      have hm1 : mk a e z j < z := by omega
      have hm2 : mk a e z j ≤ mk a e z (j + 1) := by omega
      have hm3 : mk a e z (j + 1) ≤ z := by omega
      have e4 : (if nI z < nI (mk a e z j) + nI e then nI z else nI (mk a e z j) + nI e) = nI (mk a e z (j + 1)) := by
        rw [in_add, e3]
        by_cases hc : z < mk a e z j + e
        · rw [if_pos (by rw [in_lt (by omega) (by omega)]; exact hc)]
          congr 1
          omega
        · rw [if_neg (by rw [in_lt (by omega) (by omega)]; exact hc)]
          congr 1
          omega
      have C1 := ic_cq C q
      refine sg_14_56 (fun c1 => by exfalso; (try simp (disch := omega) only [in_lt, in_le, in_eq, in_add, in_mul, in_sb, in_cl, in_bz, in_bo, in_mo, not_true_eq_false, not_false_eq_true, il_0, il_1, il_2, il_3, il_4, il_5, il_6, il_7, il_8, il_9, il_10, il_11, il_12, il_13, il_14, il_15, il_16, il_31, il_70] at c1) <;> omega) (fun c1 c2 => by exfalso; (try simp (disch := omega) only [in_lt, in_le, in_eq, in_add, in_mul, in_sb, in_cl, in_bz, in_bo, in_mo, not_true_eq_false, not_false_eq_true, il_0, il_1, il_2, il_3, il_4, il_5, il_6, il_7, il_8, il_9, il_10, il_11, il_12, il_13, il_14, il_15, il_16, il_31, il_70] at c1 c2) <;> omega) (fun c1 c2 => ?_)
      rw [e4]
      refine sc_11s C1 F h0 hm2 (by omega) (fun M2 q2 F2 hs k2 => sg_14_85 (Or.inl rfl) ?_)
      have C2 := ic_cq C1 q2
      refine sc_15 C2 F2 hm2 (by omega) hs (sg_14_91 ?_)
      have k3 := cq_32 (M1 := px_wI M2 28 6 (nI (pgs y (mk a e z j) (mk a e z (j + 1))))) C2 (by omega) F2 (fun a h1 h2 => by simp (disch := omega) only [me_II, me_Ii, me_Io, me_I2, me_L1, me_Li, me_LL, me_Lo, me_As, me_Ao, me_A2, me_Bs, me_Bo, me_B1]) (by simp (disch := omega) only [me_II, me_Ii, me_Io, me_I2, me_L1, me_Li, me_LL, me_Lo, me_As, me_Ao, me_A2, me_Bs, me_Bo, me_B1]) rfl
      have C3 := ic_cq C2 k3.1
      refine sc_62 C3 (by omega) k3.2 (fun M4 q4 F4 h4 k4 => ?_)
      have C4 := ic_cq C3 q4
      have qq := cq_tr (cq_tr (cq_tr q q2) k3.1) q4
      have f6 : M4.1 28 6 = nI (rv y a e z (j + 1)) := by rw [k4]; simp (disch := omega) only [me_II, me_Ii, me_Io, me_I2, me_L1, me_Li, me_LL, me_Lo, me_As, me_Ao, me_A2, me_Bs, me_Bo, me_B1]; rfl
      have f5 : M4.1 28 5 = nI (sm (rv y a e z) (j + 1)) := by rw [k4]; simp (disch := omega) only [me_II, me_Ii, me_Io, me_I2, me_L1, me_Li, me_LL, me_Lo, me_As, me_Ao, me_A2, me_Bs, me_Bo, me_B1]; rw [k2 5 (by omega)]; exact P.2.1
      have f4 : M4.1 28 4 = (if r ≤ j then nI (rv y a e z r) else -1) := by rw [k4]; simp (disch := omega) only [me_II, me_Ii, me_Io, me_I2, me_L1, me_Li, me_LL, me_Lo, me_As, me_Ao, me_A2, me_Bs, me_Bo, me_B1]; rw [k2 4 (by omega)]; exact P.2.2
      refine sg_14_101 (fun c => ?_) (fun c => ?_)
      · simp (disch := omega) only [in_lt, in_le, in_eq, in_add, in_mul, in_sb, in_cl, in_bz, in_bo, in_mo, not_true_eq_false, not_false_eq_true, il_0, il_1, il_2, il_3, il_4, il_5, il_6, il_7, il_8, il_9, il_10, il_11, il_12, il_13, il_14, il_15, il_16, il_31] at c
        rw [f5, f6, in_add, in_a1]
        have k5 := cq_32 (M1 := px_wI (px_wI M4 28 5 (nI (sm (rv y a e z) (j + 1) + rv y a e z (j + 1)))) 28 4 (nI (rv y a e z (j + 1)))) C4 (by omega) F4 (fun a h1 h2 => by simp (disch := omega) only [me_II, me_Ii, me_Io, me_I2, me_L1, me_Li, me_LL, me_Lo, me_As, me_Ao, me_A2, me_Bs, me_Bo, me_B1]) (by simp (disch := omega) only [me_II, me_Ii, me_Io, me_I2, me_L1, me_Li, me_LL, me_Lo, me_As, me_Ao, me_A2, me_Bs, me_Bo, me_B1]) rfl
        refine ih (j + 1) _ (by omega) (cq_tr qq k5.1) k5.2 (fun p hp => by simp (disch := omega) only [me_II, me_Ii, me_Io, me_I2, me_L1, me_Li, me_LL, me_Lo, me_As, me_Ao, me_A2, me_Bs, me_Bo, me_B1]; exact h4 p hp) ⟨by simp (disch := omega) only [me_II, me_Ii, me_Io, me_I2, me_L1, me_Li, me_LL, me_Lo, me_As, me_Ao, me_A2, me_Bs, me_Bo, me_B1]; exact f6, by simp (disch := omega) only [me_II, me_Ii, me_Io, me_I2, me_L1, me_Li, me_LL, me_Lo, me_As, me_Ao, me_A2, me_Bs, me_Bo, me_B1]; rfl, ?_⟩
        simp (disch := omega) only [me_II, me_Ii, me_Io, me_I2, me_L1, me_Li, me_LL, me_Lo, me_As, me_Ao, me_A2, me_Bs, me_Bo, me_B1]
        rw [if_pos (by omega), c]
      · simp (disch := omega) only [in_lt, in_le, in_eq, in_add, in_mul, in_sb, in_cl, in_bz, in_bo, in_mo, not_true_eq_false, not_false_eq_true, il_0, il_1, il_2, il_3, il_4, il_5, il_6, il_7, il_8, il_9, il_10, il_11, il_12, il_13, il_14, il_15, il_16, il_31] at c
        rw [f5, f6, in_add, in_a1]
        have k5 := cq_32 (M1 := px_wI M4 28 5 (nI (sm (rv y a e z) (j + 1) + rv y a e z (j + 1)))) C4 (by omega) F4 (fun a h1 h2 => by simp (disch := omega) only [me_II, me_Ii, me_Io, me_I2, me_L1, me_Li, me_LL, me_Lo, me_As, me_Ao, me_A2, me_Bs, me_Bo, me_B1]) (by simp (disch := omega) only [me_II, me_Ii, me_Io, me_I2, me_L1, me_Li, me_LL, me_Lo, me_As, me_Ao, me_A2, me_Bs, me_Bo, me_B1]) rfl
        refine ih (j + 1) _ (by omega) (cq_tr qq k5.1) k5.2 (fun p hp => by simp (disch := omega) only [me_II, me_Ii, me_Io, me_I2, me_L1, me_Li, me_LL, me_Lo, me_As, me_Ao, me_A2, me_Bs, me_Bo, me_B1]; exact h4 p hp) ⟨by simp (disch := omega) only [me_II, me_Ii, me_Io, me_I2, me_L1, me_Li, me_LL, me_Lo, me_As, me_Ao, me_A2, me_Bs, me_Bo, me_B1]; exact f6, by simp (disch := omega) only [me_II, me_Ii, me_Io, me_I2, me_L1, me_Li, me_LL, me_Lo, me_As, me_Ao, me_A2, me_Bs, me_Bo, me_B1]; rfl, ?_⟩
        simp (disch := omega) only [me_II, me_Ii, me_Io, me_I2, me_L1, me_Li, me_LL, me_Lo, me_As, me_Ao, me_A2, me_Bs, me_Bo, me_B1]
        rw [f4]
        by_cases hc : r ≤ j
        · rw [if_pos hc, if_pos (by omega)]
        · rw [if_neg hc, if_neg (by omega)]
  refine sg_14_0 (sc_11 C (by omega) (fun M1 q1 F1 => sg_14_5 (Or.inl rfl) ?_))
  have C1 := ic_cq C q1
  refine sc_62 C1 (by omega) F1 (fun M2 q2 F2 h2 _ => sg_14_8 ?_)
  have C2 := ic_cq C1 q2
  refine sc_bc F2.2.1 (iv_rnW C.1 (by omega)) ?_
  refine sg_14_24 (fun c => ?_) (fun c => ?_)
  · simp (disch := omega) only [in_lt, in_le, in_eq, in_add, in_mul, in_sb, in_cl, in_bz, in_bo, in_mo, not_true_eq_false, not_false_eq_true, il_0, il_1, il_2, il_3, il_4, il_5, il_6, il_7, il_8, il_9, il_10, il_11, il_12, il_13, il_14, il_15, il_16, il_31] at c
    rw [il_8, in_mul]
    have k5 := cq_32 (M1 := px_wI (px_wI (px_wI M2 28 6 (nI (8 * pcA (iv_rn y a)))) 28 5 (nI (8 * pcA (iv_rn y a)))) 28 4 (nI (8 * pcA (iv_rn y a)))) C2 (by omega) F2 (fun a h1 h2 => by simp (disch := omega) only [me_II, me_Ii, me_Io, me_I2, me_L1, me_Li, me_LL, me_Lo, me_As, me_Ao, me_A2, me_Bs, me_Bo, me_B1]) (by simp (disch := omega) only [me_II, me_Ii, me_Io, me_I2, me_L1, me_Li, me_LL, me_Lo, me_As, me_Ao, me_A2, me_Bs, me_Bo, me_B1]) rfl
    have h9 := hlp (lr a e z) 0 _ (by omega) (cq_tr (cq_tr q1 q2) k5.1) (by rw [h0e]; exact k5.2) (fun p hp => by simp (disch := omega) only [me_II, me_Ii, me_Io, me_I2, me_L1, me_Li, me_LL, me_Lo, me_As, me_Ao, me_A2, me_Bs, me_Bo, me_B1]; exact h2 p hp) ⟨by simp (disch := omega) only [me_II, me_Ii, me_Io, me_I2, me_L1, me_Li, me_LL, me_Lo, me_As, me_Ao, me_A2, me_Bs, me_Bo, me_B1]; rfl, by simp (disch := omega) only [me_II, me_Ii, me_Io, me_I2, me_L1, me_Li, me_LL, me_Lo, me_As, me_Ao, me_A2, me_Bs, me_Bo, me_B1]; show _ = nI (0 + 8 * pcA (iv_rn y a)); rw [Nat.zero_add], by simp (disch := omega) only [me_II, me_Ii, me_Io, me_I2, me_L1, me_Li, me_LL, me_Lo, me_As, me_Ao, me_A2, me_Bs, me_Bo, me_B1]; rw [if_pos (by omega), c]; rfl⟩
    rw [h0e] at h9
    exact h9
  · simp (disch := omega) only [in_lt, in_le, in_eq, in_add, in_mul, in_sb, in_cl, in_bz, in_bo, in_mo, not_true_eq_false, not_false_eq_true, il_0, il_1, il_2, il_3, il_4, il_5, il_6, il_7, il_8, il_9, il_10, il_11, il_12, il_13, il_14, il_15, il_16, il_31] at c
    rw [il_8, in_mul]
    have k5 := cq_32 (M1 := px_wI (px_wI (px_wI M2 28 6 (nI (8 * pcA (iv_rn y a)))) 28 5 (nI (8 * pcA (iv_rn y a)))) 28 4 (-1)) C2 (by omega) F2 (fun a h1 h2 => by simp (disch := omega) only [me_II, me_Ii, me_Io, me_I2, me_L1, me_Li, me_LL, me_Lo, me_As, me_Ao, me_A2, me_Bs, me_Bo, me_B1]) (by simp (disch := omega) only [me_II, me_Ii, me_Io, me_I2, me_L1, me_Li, me_LL, me_Lo, me_As, me_Ao, me_A2, me_Bs, me_Bo, me_B1]) rfl
    have h9 := hlp (lr a e z) 0 _ (by omega) (cq_tr (cq_tr q1 q2) k5.1) (by rw [h0e]; exact k5.2) (fun p hp => by simp (disch := omega) only [me_II, me_Ii, me_Io, me_I2, me_L1, me_Li, me_LL, me_Lo, me_As, me_Ao, me_A2, me_Bs, me_Bo, me_B1]; exact h2 p hp) ⟨by simp (disch := omega) only [me_II, me_Ii, me_Io, me_I2, me_L1, me_Li, me_LL, me_Lo, me_As, me_Ao, me_A2, me_Bs, me_Bo, me_B1]; rfl, by simp (disch := omega) only [me_II, me_Ii, me_Io, me_I2, me_L1, me_Li, me_LL, me_Lo, me_As, me_Ao, me_A2, me_Bs, me_Bo, me_B1]; show _ = nI (0 + 8 * pcA (iv_rn y a)); rw [Nat.zero_add], by simp (disch := omega) only [me_II, me_Ii, me_Io, me_I2, me_L1, me_Li, me_LL, me_Lo, me_As, me_Ao, me_A2, me_Bs, me_Bo, me_B1]; rw [if_neg (by omega)]⟩
    rw [h0e] at h9
    exact h9
theorem sc_123 (C : ic y M) {x1 x2 x3 x4 : Int32} (h : ∀ M', cq y M M' → Q (some (.int (an_123 y x1 x2 x3 x4))) M') : px_T 0 123 0 [some (.ref 0), some (.int x1), some (.int x2), some (.int x3), some (.int x4)] [] M Q := by
  unfold an_123 at h
  have hn := ic_n C
  have bad : ((cp y x1 x3 && rg x2 1 40) = false ∨ ¬ (0 ≤ x4.toInt)) → Q (some (.int (-2))) M := by
    intro hb
    have h9 := h M (cq_rf C)
    rw [if_neg] at h9
    · exact h9
    · rcases hb with q | q
      · rw [q]; simp
      · rw [decide_eq_false q]; simp
  refine sg_123_0 (sc_159 C (fun a e z ea ee ez haz hz he he2 g => sg_123_7 (fun _ c => ?_) (fun _ c => bad (Or.inr (fun q => c (by rw [fa_le]; exact q)))) (fun q => absurd rfl q)) (fun g => sg_123_7 (fun q => absurd q (by decide)) (fun q => absurd q (by decide)) (fun _ => bad (Or.inl g))))
  rw [g, decide_eq_true (by rw [fa_le] at c; exact c), if_pos (by decide)] at h
  rcases in_cases x4 with q | ⟨r, hr, er⟩
  · rw [fa_le] at c
    rw [fa_lt] at q
    omega
  · subst ea ee ez er
    rw [in_cl (by omega), in_cl (by omega), in_cl (by omega), in_cl (by omega)] at h
    refine sc_14 C haz hz he he2 hr (fun M2 q2 P => sg_123_30 ?_)
    rw [P.2.2]
    exact h M2 q2
theorem sc_124 (C : ic y M) {x1 x2 x3 : Int32} (h : ∀ M', cq y M M' → Q (some (.int (an_124 y x1 x2 x3))) M') : px_T 0 124 0 [some (.ref 0), some (.int x1), some (.int x2), some (.int x3)] [] M Q := by
  unfold an_124 at h
  have hn := ic_n C
  refine sg_124_0 (sc_159 C (fun a e z ea ee ez haz hz he he2 g => sg_124_7 (fun _ => ?_) (fun q => absurd rfl q)) (fun g => sg_124_7 (fun q => absurd q (by decide)) (fun _ => ?_)))
  · rw [g, if_pos rfl] at h
    subst ea ee ez
    rw [in_cl (by omega), in_cl (by omega), in_cl (by omega)] at h
    refine sc_14 (r := 0) C haz hz he he2 (by omega) (fun M2 q2 P => sg_124_24 ?_)
    rw [P.2.1]
    exact h M2 q2
  · have h9 := h M (cq_rf C)
    rw [g] at h9
    exact h9
theorem lst_b {a z e : Nat} : lst y a z e ≤ 225 := rv_b
theorem al_b {a z e : Nat} (hz : z ≤ 70) : alc y a z e ≤ 225 * 72 := by
  have h1 := sm_b (f := rv y a e z) (b := 225) (fun i => rv_b) (lr a e z + 1)
  have hL := lr_b (a := a) (e := e) (z := z)
  unfold alc
  exact Nat.le_trans h1 (Nat.mul_le_mul_left _ (by omega))
theorem bpn_b {a z : Nat} : ∀ n, 1 ≤ bp y a z n ∧ bp y a z n ≤ n + 1
  | 0 => ⟨by show 1 ≤ 1; omega, by show 1 ≤ 1; omega⟩
  | n + 1 => by
    have := bpn_b (a := a) (z := z) n
    unfold bp
    split
    · omega
    · omega
theorem bp_s (y : iv_Y) (a z n : Nat) : bp y a z (n + 1) = if lst y a z (n + 2) < lst y a z (bp y a z n) ∨ (lst y a z (n + 2) = lst y a z (bp y a z n) ∧ alc y a z (n + 2) ≤ alc y a z (bp y a z n)) then n + 2 else bp y a z n := rfl
theorem sc_125 (C : ic y M) {x1 x2 : Int32} (h : ∀ M', cq y M M' → Q (some (.int (an_125 y x1 x2))) M') : px_T 0 125 0 [some (.ref 0), some (.int x1), some (.int x2), none, none, none, none, none] [] M Q := by
  unfold an_125 at h
  have hn := ic_n C
  have h1 : rg (1 : Int32) 1 40 = true := by decide
  refine sg_125_0 (sc_159 C (fun a e z ea ee ez haz hz he he2 g => sg_125_7 (fun _ => ?_) (fun q => absurd rfl q)) (fun g => sg_125_7 (fun q => absurd q (by decide)) (fun _ => ?_)))
  · rw [h1, Bool.and_true] at g
    rw [g, if_pos rfl] at h
    subst ea ez
    rw [in_cl (by omega), in_cl (by omega)] at h
    have hl : ∀ (n i : Nat) (N : px_Mem) (d7 : Option Value), i + n = 39 → cq y M N → px_T 0 125 24 [some (.ref 0), some (.int (nI a)), some (.int (nI z)), some (.int (nI (bp y a z i))), some (.int (nI (lst y a z (bp y a z i)))), some (.int (nI (alc y a z (bp y a z i)))), some (.int (nI (i + 2))), d7] [] N Q := by
      intro n
      induction n with
      | zero =>
        intro i N d7 hi q
        have e1 : i = 39 := by omega
        subst e1
        refine sg_125_24 (fun c1 => ?_) (fun c1 => by exfalso; (try simp (disch := omega) only [in_lt, in_le, in_eq, in_add, in_mul, in_sb, in_cl, in_bz, in_bo, in_mo, not_true_eq_false, not_false_eq_true, il_0, il_1, il_2, il_3, il_4, il_5, il_6, il_7, il_8, il_9, il_10, il_11, il_12, il_13, il_14, il_15, il_16, il_31, il_40] at c1) <;> omega)
        exact h N q
      | succ n ih =>
        intro i N d7 hi q
        have hb := bpn_b (y := y) (a := a) (z := z) i
        have l1 := lst_b (y := y) (a := a) (z := z) (e := i + 2)
        have l2 := lst_b (y := y) (a := a) (z := z) (e := bp y a z i)
        have a1 := al_b (y := y) (a := a) (z := z) (e := i + 2) (by omega)
        have a2 := al_b (y := y) (a := a) (z := z) (e := bp y a z i) (by omega)
        refine sg_125_24 (fun c1 => by exfalso; (try simp (disch := omega) only [in_lt, in_le, in_eq, in_add, in_mul, in_sb, in_cl, in_bz, in_bo, in_mo, not_true_eq_false, not_false_eq_true, il_0, il_1, il_2, il_3, il_4, il_5, il_6, il_7, il_8, il_9, il_10, il_11, il_12, il_13, il_14, il_15, il_16, il_31, il_40] at c1) <;> omega) (fun c1 => ?_)
        refine sc_14 (r := 0) (ic_cq C q) haz hz (by omega) (by omega) (by omega) (fun M2 q2 P => ?_)
        have P6 : M2.1 28 6 = nI (lst y a z (i + 2)) := P.1
        have P5 : M2.1 28 5 = nI (alc y a z (i + 2)) := P.2.1
        have qq := cq_tr q q2
        have yes : (lst y a z (i + 2) < lst y a z (bp y a z i) ∨ (lst y a z (i + 2) = lst y a z (bp y a z i) ∧ alc y a z (i + 2) ≤ alc y a z (bp y a z i))) → ∀ d7, px_T 0 125 24 [some (.ref 0), some (.int (nI a)), some (.int (nI z)), some (.int (nI (i + 2))), some (.int (nI (lst y a z (i + 2)))), some (.int (nI (alc y a z (i + 2)))), some (.int (nI (i + 2) + 1)), d7] [] M2 Q := by
          intro hc d7
          have e1 : bp y a z (i + 1) = i + 2 := by rw [bp_s, if_pos hc]
          have h9 := ih (i + 1) M2 d7 (by omega) qq
          rw [e1] at h9
          rw [in_a1]
          exact h9
        have no : ¬ (lst y a z (i + 2) < lst y a z (bp y a z i) ∨ (lst y a z (i + 2) = lst y a z (bp y a z i) ∧ alc y a z (i + 2) ≤ alc y a z (bp y a z i))) → ∀ d7, px_T 0 125 24 [some (.ref 0), some (.int (nI a)), some (.int (nI z)), some (.int (nI (bp y a z i))), some (.int (nI (lst y a z (bp y a z i)))), some (.int (nI (alc y a z (bp y a z i)))), some (.int (nI (i + 2) + 1)), d7] [] M2 Q := by
          intro hc d7
          have e1 : bp y a z (i + 1) = bp y a z i := by rw [bp_s, if_neg hc]
          have h9 := ih (i + 1) M2 d7 (by omega) qq
          rw [e1] at h9
          rw [in_a1]
          exact h9
        refine sg_125_43 (fun c d => ?_) (fun c d => ?_) (fun b c d e => ?_) (fun b c d e => ?_) (fun b c d e => ?_) (fun b c d e => ?_) (fun b c d => ?_) (fun b c d => ?_)
        · simp (disch := omega) only [in_lt, in_le, in_eq, in_add, in_mul, in_sb, in_cl, in_bz, in_bo, in_mo, not_true_eq_false, not_false_eq_true, il_0, il_1, il_2, il_3, il_4, il_5, il_6, il_7, il_8, il_9, il_10, il_11, il_12, il_13, il_14, il_15, il_16, il_31] at d
          omega
        · rw [P6, in_lt (by omega) (by omega)] at c
          rw [P6, P5]
          exact yes (Or.inl c) _
        · simp (disch := omega) only [in_lt, in_le, in_eq, in_add, in_mul, in_sb, in_cl, in_bz, in_bo, in_mo, not_true_eq_false, not_false_eq_true, il_0, il_1, il_2, il_3, il_4, il_5, il_6, il_7, il_8, il_9, il_10, il_11, il_12, il_13, il_14, il_15, il_16, il_31] at e
          omega
        · rw [P6, in_lt (by omega) (by omega)] at b
          rw [P6, in_eq (by omega) (by omega)] at c
          rw [P5, in_lt (by omega) (by omega)] at d
          exact no (by omega) _
        · simp (disch := omega) only [in_lt, in_le, in_eq, in_add, in_mul, in_sb, in_cl, in_bz, in_bo, in_mo, not_true_eq_false, not_false_eq_true, il_0, il_1, il_2, il_3, il_4, il_5, il_6, il_7, il_8, il_9, il_10, il_11, il_12, il_13, il_14, il_15, il_16, il_31] at e
          omega
        · rw [P6, in_lt (by omega) (by omega)] at b
          rw [P6, in_eq (by omega) (by omega)] at c
          rw [P5, in_lt (by omega) (by omega)] at d
          rw [P6, P5]
          exact yes (by omega) _
        · simp (disch := omega) only [in_lt, in_le, in_eq, in_add, in_mul, in_sb, in_cl, in_bz, in_bo, in_mo, not_true_eq_false, not_false_eq_true, il_0, il_1, il_2, il_3, il_4, il_5, il_6, il_7, il_8, il_9, il_10, il_11, il_12, il_13, il_14, il_15, il_16, il_31] at d
          omega
        · rw [P6, in_lt (by omega) (by omega)] at b
          rw [P6, in_eq (by omega) (by omega)] at c
          exact no (by omega) _
    -- the first pace
    refine sg_125_24 (fun c => absurd c (by decide)) (fun _ => ?_)
    refine sc_14 (e := 1) (r := 0) C haz hz (by omega) (by omega) (by omega) (fun M2 q2 P => ?_)
    have P6 : M2.1 28 6 = nI (lst y a z 1) := P.1
    have P5 : M2.1 28 5 = nI (alc y a z 1) := P.2.1
    have h9 : ∀ d7, px_T 0 125 24 [some (.ref 0), some (.int (nI a)), some (.int (nI z)), some (.int 1), some (.int (M2.1 28 6)), some (.int (M2.1 28 5)), some (.int (1 + 1)), d7] [] M2 Q := by
      intro d7
      rw [P6, P5]
      exact hl 39 0 M2 d7 (by omega) q2
    exact sg_125_43 (fun c d => h9 _) (fun c d => absurd rfl d) (fun b c d e => h9 _) (fun b c d e => absurd rfl e) (fun b c d e => h9 _) (fun b c d e => absurd rfl e) (fun b c d => h9 _) (fun b c d => absurd rfl d)
  · rw [h1, Bool.and_true] at g
    have h9 := h M (cq_rf C)
    rw [g] at h9
    exact h9
end P61
