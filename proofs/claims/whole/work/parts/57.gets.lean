/-! two that may exit -/
def gt_1 (y : iv_Y) (a : Nat) (x : Bool) : ws_S := if x = true then ws_st (iv_lw y) (iv_rn y (iv_n y)) (2, a, 0, 0) else iv_rn y (iv_n y)
def gt_2 (y : iv_Y) (a b : Nat) (x z : Bool) : ws_S := if z = true then ws_st (iv_lw y) (gt_1 y a x) (2, b, 0, 0) else gt_1 y a x
def gv (y : iv_Y) (a b : Nat) (x z w : Bool) : Int32 := if (if w = true then z else x) = true then (if (ws_al (iv_rn y (iv_n y))).testBit (if w = true then b else a) = true then 2 else 0) else nI (3 * vn_un (gt_2 y a b x z) (if w = true then b else a))
def pr_ok (y : iv_Y) (x1 x2 : Int32) : Bool := decide (iv_ln y ≠ 0) && (rg x1 2 15 && (rg x2 2 15 && decide (x1 ≠ x2)))
def an_137 (y : iv_Y) (x1 x2 x3 x4 : Int32) : Int32 := if (pr_ok y x1 x2 && (rg x3 0 1 && rg x4 0 1)) = true then gv y x1.toNatClampNeg x2.toNatClampNeg (decide (x3 = 1)) (decide (x4 = 1)) false else -2
def rs (y : iv_Y) (a b : Nat) (k : Nat) : Bool := decide (¬ gv y a b (k.testBit 0) (k.testBit 1) false < gv y a b (!k.testBit 0) (k.testBit 1) false) && decide (¬ gv y a b (k.testBit 0) (k.testBit 1) true < gv y a b (k.testBit 0) (!k.testBit 1) true)
def an_136 (y : iv_Y) (x1 x2 : Int32) : Int32 := if pr_ok y x1 x2 = true then nI (bs (rs y x1.toNatClampNeg x2.toNatClampNeg) 4) else -2
theorem in_b1 (b : Bool) : in_b b = 1 ↔ b = true := in_bo b
theorem in_bn (b : Bool) : 1 - in_b b = in_b (!b) := by cases b <;> rfl
theorem in_bk {k : Nat} (hk : k < 4) : nI k &&& 1 = in_b (k.testBit 0) ∧ nI k >>> ((1 : Int32) &&& 31) = in_b (k.testBit 1) := by
  rcases (show k = 0 ∨ k = 1 ∨ k = 2 ∨ k = 3 by omega) with rfl | rfl | rfl | rfl <;> exact ⟨by decide, by decide⟩
theorem rs_1 {y : iv_Y} {a b k : Nat} (c : gv y a b (k.testBit 0) (k.testBit 1) false < gv y a b (!k.testBit 0) (k.testBit 1) false) : rs y a b k = false := by
  unfold rs
  rw [Bool.and_eq_false_iff]
  exact Or.inl (decide_eq_false (fun q => q c))
theorem rs_2 {y : iv_Y} {a b k : Nat} (c : gv y a b (k.testBit 0) (k.testBit 1) true < gv y a b (k.testBit 0) (!k.testBit 1) true) : rs y a b k = false := by
  unfold rs
  rw [Bool.and_eq_false_iff]
  exact Or.inr (decide_eq_false (fun q => q c))
theorem rs_3 {y : iv_Y} {a b k : Nat} (c : ¬ gv y a b (k.testBit 0) (k.testBit 1) false < gv y a b (!k.testBit 0) (k.testBit 1) false) (d : ¬ gv y a b (k.testBit 0) (k.testBit 1) true < gv y a b (k.testBit 0) (!k.testBit 1) true) : rs y a b k = true := by
  unfold rs
  rw [Bool.and_eq_true]
  exact ⟨decide_eq_true c, decide_eq_true d⟩
section G57
variable {M M1 M2 : px_Mem} {Q : px_Po} {y : iv_Y}
theorem sp_1 {v w : Nat} (hw : w < 4) (hv : v < 64) (h : Q (some (.int (nI (v * 2 ^ (4 * w))))) M) : px_T 0 1 0 [some (.int (nI v)), some (.int (nI w))] [] M Q := by
  refine sg_1_0 ?_
  have e : nI v <<< (nI (4 * w) &&& 31) = nI (v * 2 ^ (4 * w)) := in_shl (by omega) (by
    have h1 : 2 ^ (4 * w) ≤ 2 ^ 12 := Nat.pow_le_pow_right (by omega) (by omega)
    calc v * 2 ^ (4 * w) ≤ 64 * 2 ^ 12 := Nat.mul_le_mul (by omega) h1
      _ < 2 ^ 32 := by decide)
  rw [il_4, in_mul, e]
  exact h
theorem or_add {a b k : Nat} (h : a < 2 ^ k) : a ||| b * 2 ^ k = a + b * 2 ^ k := by
  have := Nat.two_pow_add_eq_or_of_lt h b
  rw [Nat.or_comm, Nat.mul_comm b, ← this, Nat.add_comm]
theorem sp_0 {e : ws_E} (he : iv_ok e) (h : Q (some (.int (nI (iv_pk e)))) M) : px_T 0 0 0 [some (.int (nI e.1)), some (.int (nI e.2.1)), some (.int (nI e.2.2.1)), some (.int (nI e.2.2.2))] [] M Q := by
  have hb := iv_okb he
  refine sg_0_0 (sp_1 (w := 1) (by omega) (by omega) (sg_0_6 (sp_1 (w := 2) (by omega) (by omega) (sg_0_12 (sp_1 (w := 3) (by omega) (by omega) (sg_0_18 ?_))))))
  rw [in_or, in_or, in_or]
  have e1 : e.1 ||| e.2.1 * 2 ^ (4 * 1) = e.1 + e.2.1 * 2 ^ (4 * 1) := or_add (by omega)
  have e2 : (e.1 + e.2.1 * 2 ^ (4 * 1)) ||| e.2.2.1 * 2 ^ (4 * 2) = (e.1 + e.2.1 * 2 ^ (4 * 1)) + e.2.2.1 * 2 ^ (4 * 2) := or_add (by omega)
  have e3 : (e.1 + e.2.1 * 2 ^ (4 * 1) + e.2.2.1 * 2 ^ (4 * 2)) ||| e.2.2.2 * 2 ^ (4 * 3) = (e.1 + e.2.1 * 2 ^ (4 * 1) + e.2.2.1 * 2 ^ (4 * 2)) + e.2.2.2 * 2 ^ (4 * 3) := or_add (by omega)
  rw [e1, e2, e3, show e.1 + e.2.1 * 2 ^ (4 * 1) + e.2.2.1 * 2 ^ (4 * 2) + e.2.2.2 * 2 ^ (4 * 3) = iv_pk e by unfold iv_pk; omega]
  exact h
theorem ok_x {a : Nat} (h1 : 1 ≤ a) (h2 : a ≤ 15) : iv_ok (2, a, 0, 0) := by
  refine ⟨by show (2 : Nat) ≤ 9; omega, h1, h2, Or.inr (Or.inl ⟨Or.inr rfl, rfl, rfl⟩)⟩
theorem gt_1W (hy : iv_yok y) {a : Nat} (h1 : 1 ≤ a) (h2 : a ≤ 15) (x : Bool) : ws_W (gt_1 y a x) ∧ ws_T (gt_1 y a x) ∧ ws_md (gt_1 y a x) ≤ 140 := by
  have hW := iv_rnW hy (Nat.le_refl (iv_n y))
  have hT := iv_rnT hy (Nat.le_refl (iv_n y))
  have hm := iv_rnm hy (Nat.le_refl (iv_n y))
  unfold gt_1
  split
  · refine ⟨ws_W_st hW (ok_x h1 h2), ws_T_st hT hW hy.1 (ok_x h1 h2), ?_⟩
    unfold ws_st
    split
    · exact hm
    · exact hm
  · exact ⟨hW, hT, hm⟩
theorem gt_2W (hy : iv_yok y) {a b : Nat} (h1 : 1 ≤ a) (h2 : a ≤ 15) (h3 : 1 ≤ b) (h4 : b ≤ 15) (x z : Bool) : ws_W (gt_2 y a b x z) ∧ ws_T (gt_2 y a b x z) := by
  obtain ⟨hW, hT, hm⟩ := gt_1W hy h1 h2 x
  unfold gt_2
  split
  · exact ⟨ws_W_st hW (ok_x h3 h4), ws_T_st hT hW hy.1 (ok_x h3 h4)⟩
  · exact ⟨hW, hT⟩
theorem gt_al {a b : Nat} (hab : b ≠ a) (x : Bool) : (ws_al (gt_1 y a x)).testBit b = (ws_al (iv_rn y (iv_n y))).testBit b := by
  unfold gt_1
  split
  · unfold ws_st
    split
    · show (ws_al (iv_rn y (iv_n y)) ^^^ 2 ^ a).testBit b = _
      rw [fb_bit_flip, decide_eq_false hab, Bool.xor_false]
    · rfl
  · rfl
theorem vn_un_le (s : ws_S) (q : Nat) : vn_un s q ≤ 15 := fb_ct_le _ _
theorem sc_170 (C : ic y M) {a b : Nat} (a1 : 2 ≤ a) (a2 : a ≤ 15) (b1 : 2 ≤ b) (b2 : b ≤ 15) {x z w : Bool} (h : ∀ M', cq y M M' → Q (some (.int (gv y a b x z w))) M') : px_T 0 170 0 [some (.ref 0), some (.int (nI a)), some (.int (nI b)), some (.int (in_b x)), some (.int (in_b z)), some (.int (in_b w)), none, none] [] M Q := by
  have hn := ic_n C
  have hm := iv_rnm C.1 (Nat.le_refl (iv_n y))
  have hW := iv_rnW C.1 (Nat.le_refl (iv_n y))
  refine sg_170_0 (sp_53 (Or.inl rfl) C.2.1 (sg_170_15 (sc_11 C (Nat.le_refl _) (fun M1 q1 hF => sg_170_18 (Or.inl rfl) (sp_61 hF.2.1 (fun M2 k2 hC2 => ?_) (by omega))))))
  have q2 := cq_t C q1 k2
  have C2 := ic_cq C q2
  -- who asks
  have ask : ∀ me : Nat, me = (if w = true then b else a) → px_T 0 63 0 [some (.ref 47), some (.int (nI me))] [] M2 (fun r M1 => px_T 0 170 42 [some (.ref 0), some (.int (nI a)), some (.int (nI b)), some (.int (in_b x)), some (.int (in_b z)), some (.int (in_b w)), some (.int (nI me)), none] (r.toList ++ []) M1 Q) := by
    intro me hme
    have m1 : 2 ≤ me := by rw [hme]; split <;> omega
    have m2 : me ≤ 15 := by rw [hme]; split <;> omega
    refine sw_63 (Or.inr rfl) hC2 hW (by omega) m2 ?_
    have lived : ∀ (N : px_Mem), cq y M N → (if w = true then z else x) = true → ∀ v : Int32, (v = if (ws_al (iv_rn y (iv_n y))).testBit me = true then 2 else 0) → Q (some (.int v)) N := by
      intro N q hx v hv
      have h9 := h N q
      unfold gv at h9
      rw [if_pos hx, ← hme, ← hv] at h9
      exact h9
    have count : ∀ (N : px_Mem) (d1 d2 : Option Value), cq y M N → ws_C (gt_2 y a b x z) 47 N → (if w = true then z else x) = false → px_T 0 67 0 [some (.ref 47), some (.int (nI me)), none, none] [] N (fun r M1 => px_T 0 170 135 [some (.ref 0), d1, d2, some (.int (in_b x)), some (.int (in_b z)), some (.int (in_b w)), some (.int (nI me)), some (.int (in_b ((ws_al (iv_rn y (iv_n y))).testBit me)))] (r.toList ++ [.int 3]) M1 Q) := by
      intro N d1 d2 q hC hx
      obtain ⟨gW, gT⟩ := gt_2W C.1 (by omega) a2 (by omega) b2 x z
      refine sw_67 (Or.inr rfl) hC gW (by omega) m2 (sg_170_135 ?_)
      have h9 := h N q
      unfold gv at h9
      rw [if_neg (by rw [hx]; decide), ← hme] at h9
      rw [il_3, in_mul]
      exact h9
    have f0 : in_b w = 0 ↔ w = false := in_b0 w
    have f3 : in_b x = 1 ↔ x = true := in_b1 x
    have f4 : in_b z = 1 ↔ z = true := in_b1 z
    have fl := in_b0 ((ws_al (iv_rn y (iv_n y))).testBit me)
    -- behind both
    have end98 : ∀ (N : px_Mem) (d1 d2 : Option Value) (v : Int32), cq y M N → ws_C (gt_2 y a b x z) 47 N → px_T 0 170 98 [some (.ref 0), d1, d2, some (.int (in_b x)), some (.int (in_b z)), some (.int (in_b w)), some (.int (nI me)), some (.int (in_b ((ws_al (iv_rn y (iv_n y))).testBit me)))] [.int v] N Q := by
      intro N d1 d2 v q hC
      refine sg_170_98 (fun c d e => lived N q (by rw [f0] at c; rw [f3] at d; rw [c, if_neg (by decide)]; exact d) _ (by rw [fl] at e; rw [e, if_neg (by decide)])) (fun c d e => lived N q (by rw [f0] at c; rw [f3] at d; rw [c, if_neg (by decide)]; exact d) _ (by rw [fl, Bool.not_eq_false] at e; rw [e, if_pos rfl])) (fun c d => count N d1 d2 q hC (by rw [f0] at c; rw [f3, Bool.not_eq_true] at d; rw [c, if_neg (by decide)]; exact d)) (fun c d e => lived N q (by rw [f0, Bool.not_eq_false] at c; rw [f4] at d; rw [c, if_pos rfl]; exact d) _ (by rw [fl] at e; rw [e, if_neg (by decide)])) (fun c d e => lived N q (by rw [f0, Bool.not_eq_false] at c; rw [f4] at d; rw [c, if_pos rfl]; exact d) _ (by rw [fl, Bool.not_eq_false] at e; rw [e, if_pos rfl])) (fun c d => count N d1 d2 q hC (by rw [f0, Bool.not_eq_false] at c; rw [f4, Bool.not_eq_true] at d; rw [c, if_pos rfl]; exact d))
    -- the second one exits
    have second : ∀ (N : px_Mem) (d1 : Option Value), cq y M N → ws_C (gt_1 y a x) 47 N → z = true → px_T 0 0 0 [some (.int 2), some (.int (nI b)), some (.int 0), some (.int 0)] [] N (fun r M1 => px_T 0 170 88 [some (.ref 0), d1, some (.int (nI b)), some (.int (in_b x)), some (.int (in_b z)), some (.int (in_b w)), some (.int (nI me)), some (.int (in_b ((ws_al (iv_rn y (iv_n y))).testBit me)))] (r.toList ++ [.ref 47]) M1 Q) := by
      intro N d1 q hC hz
      have CN := ic_cq C q
      obtain ⟨gW, gT, gm⟩ := gt_1W C.1 (by omega) a2 x
      refine sp_0 (e := (2, b, 0, 0)) (ok_x (by omega) b2) (sg_170_88 ?_)
      rw [CN.2.1.2.1]
      refine sc_73 CN hC gW gm CN.1.1 (ok_x (by omega) b2) (fun M3 q3 hC3 => end98 M3 _ _ _ (cq_tr q q3) ?_)
      unfold gt_2
      rw [if_pos hz]
      exact hC3
    refine sg_170_42 (fun c => ?_) (fun c d => ?_) (fun c _ _ d => absurd d c) (fun c _ _ d => absurd d c) (fun c d e _ => ?_) (fun _ d _ e => absurd e d) (fun _ d _ e => absurd e d) (fun c d e _ => ?_)
    · rw [f3] at c
      refine sp_0 (e := (2, a, 0, 0)) (ok_x (by omega) a2) (sg_170_60 ?_)
      rw [C2.2.1.2.1]
      refine sc_73 C2 hC2 hW hm C2.1.1 (ok_x (by omega) a2) (fun M3 q3 hC3 => ?_)
      have hC4 : ws_C (gt_1 y a x) 47 M3 := by
        unfold gt_1
        rw [if_pos c]
        exact hC3
      have q4 := cq_tr q2 q3
      have g2 : ¬ in_b z = 1 → ws_C (gt_2 y a b x z) 47 M3 := by
        intro d
        rw [f4] at d
        unfold gt_2
        rw [if_neg d]
        exact hC4
      refine sg_170_70 (fun d => second M3 _ q4 hC4 (f4.mp d)) (fun d e f g => lived M3 q4 (by rw [f0] at e; rw [e, if_neg (by decide)]; exact c) _ (by rw [fl] at g; rw [g, if_neg (by decide)])) (fun d e f g => lived M3 q4 (by rw [f0] at e; rw [e, if_neg (by decide)]; exact c) _ (by rw [fl, Bool.not_eq_false] at g; rw [g, if_pos rfl])) (fun d e f => absurd (f3.mpr c) f) (fun d e f => absurd f d) (fun d e f => absurd f d) (fun d e f => count M3 _ _ q4 (g2 d) (by rw [f0, Bool.not_eq_false] at e; rw [f4, Bool.not_eq_true] at d; rw [e, if_pos rfl]; exact d))
    · refine second M2 _ q2 ?_ (f4.mp d)
      rw [f3] at c
      unfold gt_1
      rw [if_neg c]
      exact hC2
    · refine count M2 _ _ q2 ?_ ?_
      · rw [f3] at c
        rw [f4] at d
        unfold gt_2 gt_1
        rw [if_neg d, if_neg c]
        exact hC2
      · rw [f0] at e
        rw [f3, Bool.not_eq_true] at c
        rw [e, if_neg (by decide)]
        exact c
    · refine count M2 _ _ q2 ?_ ?_
      · rw [f3] at c
        rw [f4] at d
        unfold gt_2 gt_1
        rw [if_neg d, if_neg c]
        exact hC2
      · rw [f0, Bool.not_eq_false] at e
        rw [f4, Bool.not_eq_true] at d
        rw [e, if_pos rfl]
        exact d
  refine sg_170_21 (fun c => ?_) (fun c => ?_)
  · rw [in_b0] at c
    exact ask a (by rw [c, if_neg (by decide)])
  · rw [in_b0, Bool.not_eq_false] at c
    exact ask b (by rw [c, if_pos rfl])
theorem sc_158 {x1 x2 : Int32} (h1 : ∀ a b, x1 = nI a → x2 = nI b → 2 ≤ a → a ≤ 15 → 2 ≤ b → b ≤ 15 → (rg x1 2 15 && (rg x2 2 15 && decide (x1 ≠ x2))) = true → Q (some (.int 0)) M) (h2 : (rg x1 2 15 && (rg x2 2 15 && decide (x1 ≠ x2))) = false → Q (some (.int 1)) M) : px_T 0 158 0 [some (.int x1), some (.int x2)] [] M Q := by
  have e2 : (2 : Int32).toInt = 2 := rfl
  have up : ∀ x : Int32, ¬ x < 2 → rg x 1 15 = rg x 2 15 := by
    intro x c
    rw [fa_lt, e2] at c
    unfold rg
    exact decide_eq_decide.mpr (by omega)
  refine sg_158_0 (fun c => h2 ?_) (fun c => sc_153 (fun a ha a1 a2 g => sg_158_9 (fun _ d => h2 ?_) (fun _ d => sc_153 (fun b hb b1 b2 g2 => sg_158_21 (fun _ e => h2 ?_) (fun _ e => ?_) (fun q => absurd rfl q)) (fun g2 => sg_158_21 (fun q => absurd q (by decide)) (fun q => absurd q (by decide)) (fun _ => h2 ?_))) (fun q => absurd rfl q)) (fun g => sg_158_9 (fun q => absurd q (by decide)) (fun q => absurd q (by decide)) (fun _ => h2 ?_)))
  · rw [fa_lt, e2] at c
    rw [rg_f (x := x1) (Or.inl c), Bool.false_and]
  · rw [fa_lt, e2] at d
    rw [rg_f (x := x2) (Or.inl d), Bool.false_and, Bool.and_false]
  · rw [decide_eq_false (fun q => q e), Bool.and_false, Bool.and_false]
  · have ca := c
    have da := d
    rw [fa_lt, e2] at ca da
    rw [ha, nI_toInt (by omega)] at ca
    rw [hb, nI_toInt (by omega)] at da
    rw [up x1 c] at g
    rw [up x2 d] at g2
    exact h1 a b ha hb (by omega) a2 (by omega) b2 (by rw [g, g2, decide_eq_true e]; rfl)
  · rw [up x2 d] at g2
    rw [g2, Bool.false_and, Bool.and_false]
  · rw [up x1 c] at g
    rw [g, Bool.false_and]
theorem bit_01 {x : Int32} (h : rg x 0 1 = true) : x = in_b (decide (x = 1)) := by
  obtain ⟨n, rfl, n1, n2⟩ := rg_of h (by omega) (by omega)
  rcases (show n = 0 ∨ n = 1 by omega) with rfl | rfl <;> decide
theorem sc_137 (C : ic y M) {x1 x2 x3 x4 : Int32} (h : ∀ M', cq y M M' → Q (some (.int (an_137 y x1 x2 x3 x4))) M') : px_T 0 137 0 [some (.ref 0), some (.int x1), some (.int x2), some (.int x3), some (.int x4)] [] M Q := by
  unfold an_137 pr_ok at h
  have e1 : (1 : Int32).toInt = 1 := rfl
  have bad : (decide (iv_ln y ≠ 0) = false ∨ (rg x1 2 15 && (rg x2 2 15 && decide (x1 ≠ x2))) = false ∨ rg x3 0 1 = false ∨ rg x4 0 1 = false) → Q (some (.int (-2))) M := by
    intro hb
    have h9 := h M (cq_rf C)
    rw [if_neg] at h9
    · exact h9
    · rcases hb with q | q | q | q <;> rw [q] <;> simp
  refine sg_137_0 (sc_158 (fun a b ha hb a1 a2 b1 b2 g => ?_) (fun g => sg_137_5 (fun q => absurd q (by decide)) (fun q => absurd q (by decide)) (fun q => absurd q (by decide)) (fun q => absurd q (by decide)) (fun q => absurd q (by decide)) (fun _ => bad (Or.inr (Or.inl g)))))
  refine sg_137_5 (fun _ c => bad ?_) (fun _ _ c => bad ?_) (fun _ _ _ c => bad ?_) (fun _ _ _ _ c => bad ?_) (fun _ c d e f => ?_) (fun q => absurd rfl q)
  · rw [fa_lt, Int32.toInt_zero] at c
    exact Or.inr (Or.inr (Or.inl (rg_f (Or.inl c))))
  · rw [fa_lt, e1] at c
    exact Or.inr (Or.inr (Or.inl (rg_f (Or.inr c))))
  · rw [fa_lt, Int32.toInt_zero] at c
    exact Or.inr (Or.inr (Or.inr (rg_f (Or.inl c))))
  · rw [fa_lt, e1] at c
    exact Or.inr (Or.inr (Or.inr (rg_f (Or.inr c))))
  · rw [fa_lt, Int32.toInt_zero] at c e
    rw [fa_lt, e1] at d f
    have g3 : rg x3 0 1 = true := decide_eq_true (by omega)
    have g4 : rg x4 0 1 = true := decide_eq_true (by omega)
    refine sc_151 C (fun g5 => sg_137_32 (fun _ => ?_) (fun q => absurd rfl q)) (fun g5 => sg_137_32 (fun q => absurd q (by decide)) (fun _ => bad (Or.inl (decide_eq_false (fun q => q g5)))))
    rw [decide_eq_true g5, g, g3, g4, if_pos (by decide)] at h
    subst ha hb
    rw [in_cl (by omega), in_cl (by omega)] at h
    have t3 := bit_01 g3
    have t4 := bit_01 g4
    generalize decide (x3 = 1) = X at h t3
    generalize decide (x4 = 1) = Z at h t4
    subst t3 t4
    exact sc_170 (w := false) C a1 a2 b1 b2 (fun M1 q1 => sg_137_48 (h M1 q1))
theorem sc_136 (C : ic y M) {x1 x2 : Int32} (h : ∀ M', cq y M M' → Q (some (.int (an_136 y x1 x2))) M') : px_T 0 136 0 [some (.ref 0), some (.int x1), some (.int x2), none, none, none, none, none, none] [] M Q := by
  unfold an_136 pr_ok at h
  have bad : (decide (iv_ln y ≠ 0) = false ∨ (rg x1 2 15 && (rg x2 2 15 && decide (x1 ≠ x2))) = false) → Q (some (.int (-2))) M := by
    intro hb
    have h9 := h M (cq_rf C)
    rw [if_neg] at h9
    · exact h9
    · rcases hb with q | q <;> rw [q] <;> simp
  refine sg_136_0 (sc_158 (fun a b ha hb a1 a2 b1 b2 g => ?_) (fun g => sg_136_5 (fun q => absurd q (by decide)) (fun _ => bad (Or.inr g))))
  refine sg_136_5 (fun _ => sc_151 C (fun g5 => sg_136_12 (fun _ => ?_) (fun q => absurd rfl q)) (fun g5 => sg_136_12 (fun q => absurd q (by decide)) (fun _ => bad (Or.inl (decide_eq_false (fun q => q g5)))))) (fun q => absurd rfl q)
  rw [decide_eq_true g5, g, if_pos (by decide)] at h
  subst ha hb
  rw [in_cl (by omega), in_cl (by omega)] at h
  have hl : ∀ (n k : Nat) (N : px_Mem) (d5 d6 d7 d8 : Option Value), k + n = 4 → cq y M N → px_T 0 136 23 [some (.ref 0), some (.int (nI a)), some (.int (nI b)), some (.int (nI (bs (rs y a b) k))), some (.int (nI k)), d5, d6, d7, d8] [] N Q := by
    intro n
    induction n with
    | zero =>
      intro k N d5 d6 d7 d8 hk q
      have e1 : k = 4 := by omega
      subst e1
      refine sg_136_23 (fun c1 => ?_) (fun c1 => by exfalso; (try simp (disch := omega) only [in_lt, in_le, in_eq, in_add, in_mul, in_sb, in_cl, in_bz, in_bo, in_mo, not_true_eq_false, not_false_eq_true, il_0, il_1, il_2, il_3, il_4, il_5, il_6, il_7, il_8, il_9, il_10, il_11, il_12, il_13, il_14, il_15, il_16, il_31] at c1) <;> omega)
      exact h N q
    | succ n ih =>
      intro k N d5 d6 d7 d8 hk q
      obtain ⟨kb, kc⟩ := in_bk (k := k) (by omega)
      refine sg_136_23 (fun c1 => by exfalso; (try simp (disch := omega) only [in_lt, in_le, in_eq, in_add, in_mul, in_sb, in_cl, in_bz, in_bo, in_mo, not_true_eq_false, not_false_eq_true, il_0, il_1, il_2, il_3, il_4, il_5, il_6, il_7, il_8, il_9, il_10, il_11, il_12, il_13, il_14, il_15, il_16, il_31] at c1) <;> omega) (fun c1 => ?_)
      rw [kb, kc]
      refine sc_170 (w := false) (ic_cq C q) a1 a2 b1 b2 (fun M2 q2 => sg_136_52 ?_)
      rw [in_bn]
      refine sc_170 (w := false) (ic_cq C (cq_tr q q2)) a1 a2 b1 b2 (fun M3 q3 => ?_)
      have q23 := cq_tr q (cq_tr q2 q3)
      have nxt : ∀ (v7 : Bool), v7 = decide (¬ gv y a b (k.testBit 0) (k.testBit 1) false < gv y a b (!k.testBit 0) (k.testBit 1) false) → px_T 0 170 0 [some (.ref 0), some (.int (nI a)), some (.int (nI b)), some (.int (in_b (k.testBit 0))), some (.int (in_b (k.testBit 1))), some (.int 1), none, none] [] M3 (fun r M1 => px_T 0 136 86 [some (.ref 0), some (.int (nI a)), some (.int (nI b)), some (.int (nI (bs (rs y a b) k))), some (.int (nI k)), some (.int (in_b (k.testBit 0))), some (.int (in_b (k.testBit 1))), some (.int (in_b v7)), d8] (r.toList ++ []) M1 Q) := by
        intro v7 h7
        refine sc_170 (w := true) (ic_cq C q23) a1 a2 b1 b2 (fun M4 q4 => sg_136_86 ?_)
        rw [in_bn]
        refine sc_170 (w := true) (ic_cq C (cq_tr q23 q4)) a1 a2 b1 b2 (fun M5 q5 => ?_)
        have q6 := cq_tr q23 (cq_tr q4 q5)
        have ih2 := fun d5 d6 d7 d8 => ih (k + 1) M5 d5 d6 d7 d8 (by omega) q6
        refine sg_136_99 (fun c d => ?_) (fun c d => ?_) (fun c d => ?_) (fun c d => ?_)
        · rw [bs_n (rs_2 c)] at ih2
          rw [in_a1]
          exact ih2 _ _ _ _
        · rw [bs_n (rs_2 c)] at ih2
          rw [in_a1]
          exact ih2 _ _ _ _
        · rw [in_b0, h7] at d
          rw [bs_n (rs_1 (Decidable.not_not.mp (of_decide_eq_false d)))] at ih2
          rw [in_a1]
          exact ih2 _ _ _ _
        · rw [in_b0, Bool.not_eq_false, h7] at d
          rw [bs_y (rs_3 (of_decide_eq_true d) c)] at ih2
          rw [in_one (by omega), in_or, in_a1]
          exact ih2 _ _ _ _
      refine sg_136_65 (fun c => nxt false (decide_eq_false (fun q => q c)).symm) (fun c => nxt true (decide_eq_true c).symm)
  exact hl 4 0 M _ _ _ _ rfl (cq_rf C)
/-! the reference -/
theorem sr_311 (R : ir y M) {x1 x2 : Int32} (h : Q (some (.int (in_b (pr_ok y x1 x2)))) M) : px_T 0 311 0 [some (.ref 56), some (.int x1), some (.int x2)] [] M Q := by
  unfold pr_ok at h
  refine sg_311_0 (sr_180 R (sg_311_4 (fun c => ?_) (fun c => sr_175i (a := 2) (b := 15) (by omega) (by omega) (sg_311_18 (fun d => ?_) (fun d => sr_175i (a := 2) (b := 15) (by omega) (by omega) (sg_311_32 (fun e => ?_) (fun e f => ?_) (fun e f => ?_)))))))
  · rw [in_b0] at c
    rw [c, Bool.false_and] at h
    exact h
  · rw [in_b0] at d
    have d2 : rg x1 2 15 = false := d
    rw [d2, Bool.false_and, Bool.and_false] at h
    exact h
  · rw [in_b0] at e
    have d2 : rg x2 2 15 = false := e
    rw [d2, Bool.false_and, Bool.and_false, Bool.and_false] at h
    exact h
  · rw [show decide (x1 ≠ x2) = false from decide_eq_false (fun q => q f), Bool.and_false, Bool.and_false, Bool.and_false] at h
    exact h
  · rw [in_b0, Bool.not_eq_false] at c d e
    have d2 : rg x1 2 15 = true := d
    have e2 : rg x2 2 15 = true := e
    rw [c, d2, e2, decide_eq_true f] at h
    exact h
theorem why_x {s : ws_S} {p : Nat} (hp : p ≠ 1) : ws_why s (2, p, 0, 0) = if (ws_al s).testBit p = true then 0 else 1 := by
  cases hb : (ws_al s).testBit p <;> simp [ws_why, hb, hp]
theorem sr_310 (R : ir y M) {a b : Nat} (a1 : 2 ≤ a) (a2 : a ≤ 15) (b1 : 2 ≤ b) (b2 : b ≤ 15) (hab : a ≠ b) {x z w : Bool} (h : ∀ M', rq M M' → Q (some (.int (gv y a b x z w))) M') : px_T 0 310 0 [some (.ref 56), some (.int (nI a)), some (.int (nI b)), some (.int (in_b x)), some (.int (in_b z)), some (.int (in_b w)), none, none, none] [] M Q := by
  have hn := iv_yn R.1
  have f0 : in_b w = 0 ↔ w = false := in_b0 w
  have f3 : in_b x = 1 ↔ x = true := in_b1 x
  have f4 : in_b z = 1 ↔ z = true := in_b1 z
  obtain ⟨gW, gT⟩ := gt_2W R.1 (by omega) a2 (by omega) b2 x z
  -- behind the run: n' events laid, the last state, why at the place asked
  have fin : ∀ (n' sec : Nat) (N : px_Mem), n' ≤ 72 → sec < 72 → rq M N → N.1 56 20 = nI n' → rt_at (gt_2 y a b x z) n' N → (x = true → N.1 73 (iv_n y) = nI (if (ws_al (iv_rn y (iv_n y))).testBit a = true then 0 else 1)) → (z = true → N.1 73 sec = nI (if (ws_al (iv_rn y (iv_n y))).testBit b = true then 0 else 1)) → px_T 0 310 41 [some (.ref 56), some (.int (nI a)), some (.int (nI b)), some (.int (in_b x)), some (.int (in_b z)), some (.int (in_b w)), some (.int (nI sec)), none, none] [] N Q := by
    intro n' sec N h1 h2 q hN hA hx hz
    have RN := ir_rq R q
    have h9 := h N q
    unfold gv at h9
    have under : ∀ (me : Nat) (d3 d4 d6 d7 d8 : Option Value), me = (if w = true then b else a) → (if w = true then z else x) = false → px_T 0 237 0 [some (.ref 56), some (.int (nI me)), some (.int (N.1 56 20)), none, none] [] N (fun r M1 => px_T 0 310 119 [some (.ref 56), some (.int (nI a)), some (.int (nI b)), d3, d4, some (.int (in_b w)), d6, d7, d8] (r.toList ++ [.int 3]) M1 Q) := by
      intro me d3 d4 d6 d7 d8 hme hq
      have m1 : 2 ≤ me := by rw [hme]; split <;> omega
      have m2 : me ≤ 15 := by rw [hme]; split <;> omega
      rw [hN]
      refine sr_237 hA gW gT h1 (by omega) m2 (sg_310_119 ?_)
      rw [if_neg (by rw [hq]; decide), ← hme] at h9
      rw [il_3, in_mul]
      exact h9
    have seen : ∀ (me p : Nat), me = (if w = true then b else a) → (if w = true then z else x) = true → N.1 73 p = nI (if (ws_al (iv_rn y (iv_n y))).testBit me = true then 0 else 1) → (N.1 73 p = 0 → Q (some (.int 2)) N) ∧ (¬ N.1 73 p = 0 → Q (some (.int 0)) N) := by
      intro me p hme hq hp
      rw [if_pos hq, ← hme] at h9
      cases hb : (ws_al (iv_rn y (iv_n y))).testBit me with
      | true =>
        rw [hb, if_pos rfl] at hp h9
        exact ⟨fun _ => h9, fun c => absurd hp c⟩
      | false =>
        rw [hb, if_neg (by decide)] at hp h9
        exact ⟨fun c => by rw [hp] at c; exact absurd c (by decide), fun _ => h9⟩
    cases hw : w with
    | false =>
      rw [hw] at under seen
      refine sg_310_41 (fun _ c _ => ?_) (fun _ _ q => absurd rfl q) (fun _ _ q => absurd rfl q) (fun _ _ q => absurd rfl q) (fun _ c _ => ?_) (fun _ _ q => absurd rfl q) (fun _ _ q => absurd rfl q) (fun q => absurd rfl q) (fun q => absurd rfl q) (fun q => absurd rfl q) (fun q => absurd rfl q) (fun q => absurd rfl q) (fun q => absurd rfl q) (fun q => absurd rfl q)
      · rw [f3] at c
        have S := seen a (iv_n y) rfl c (hx c)
        refine sr_181 RN (sg_310_72 (fun q => absurd q (by decide)) (fun q => absurd q (by decide)) (fun _ => me_vin (by omega) (by omega)) (fun _ d => ?_) (fun _ d => ?_))
        · rw [in_cl (by omega)] at d
          exact S.1 d
        · rw [in_cl (by omega)] at d
          exact S.2 d
      · rw [f3, Bool.not_eq_true] at c
        exact sr_181 RN (sg_310_72 (fun _ _ => under a _ _ _ _ _ rfl c) (fun _ q => absurd rfl q) (fun q => absurd rfl q) (fun q => absurd rfl q) (fun q => absurd rfl q))
    | true =>
      rw [hw] at under seen
      refine sg_310_41 (fun q => absurd q (by decide)) (fun q => absurd q (by decide)) (fun q => absurd q (by decide)) (fun q => absurd q (by decide)) (fun q => absurd q (by decide)) (fun q => absurd q (by decide)) (fun q => absurd q (by decide)) (fun _ _ q => absurd q (by decide)) (fun _ _ _ => me_vin h2 (by omega)) (fun _ c _ d => ?_) (fun _ c _ d => ?_) (fun _ _ q => absurd q (by decide)) (fun _ _ _ q => absurd q (by decide)) (fun _ c _ _ => ?_)
      · rw [f4] at c
        rw [in_cl (by omega)] at d
        exact (seen b sec rfl c (hz c)).1 d
      · rw [f4] at c
        rw [in_cl (by omega)] at d
        exact (seen b sec rfl c (hz c)).2 d
      · rw [f4, Bool.not_eq_true] at c
        exact under b _ _ _ _ _ rfl c
  refine sg_310_0 (sr_209 R (fun M1 k1 L1 => ?_))
  have hok : ∀ e, e < iv_n y → iv_ok (iv_ev y e) := fun e he => R.1.2.2.2.2.2 e he
  refine sg_310_4 (fun c => ?_) (fun c d => ?_) (fun c d => ?_)
  · rw [f3] at c
    subst c
    refine sr_208 (E := (2, a, 0, 0)) L1 (by omega) (fun M2 k2 L2 => ?_)
    have ev1 : ∀ e, e < iv_n y + 1 → iv_ok ((fun i => if i = iv_n y then ((2, a, 0, 0) : ws_E) else iv_ev y i) e) := by
      intro e he
      (try dsimp only)
      split
      · exact ok_x (by omega) a2
      · exact hok e (by omega)
    have r0 : ws_run (iv_lw y) (fun i => if i = iv_n y then ((2, a, 0, 0) : ws_E) else iv_ev y i) (fun i => if i = iv_n y then false else (fun _ => false) i) (iv_n y) = iv_rn y (iv_n y) := ws_run_cong (fun t ht => ⟨by rw [if_neg (by omega)], fun _ => by rw [if_neg (by omega)]⟩)
    have r1 : ws_run (iv_lw y) (fun i => if i = iv_n y then ((2, a, 0, 0) : ws_E) else iv_ev y i) (fun i => if i = iv_n y then false else (fun _ => false) i) (iv_n y + 1) = gt_1 y a true := by
      rw [ws_run_s (by rw [if_pos rfl]), r0]
      show ws_st (iv_lw y) (iv_rn y (iv_n y)) (if iv_n y = iv_n y then ((2, a, 0, 0) : ws_E) else iv_ev y (iv_n y)) = gt_1 y a true
      rw [if_pos rfl]
      exact (if_pos rfl).symm
    refine sg_310_17 (fun d => ?_) (fun d => ?_)
    · rw [f4] at d
      subst d
      have hm2 := L2.1
      refine sr_208 (E := (2, b, 0, 0)) L2 (by omega) (fun M3 k3 L3 => sg_310_37 ?_)
      rw [hm2]
      refine sr_223 L3 (by omega) R.1.1 (fun e he => ?_) (fun M4 k4 A4 => ?_)
      · (try dsimp only)
        split
        · exact ok_x (by omega) b2
        · exact ev1 e (by omega)
      · have q0 : rq M M4 := rq_tr (rq_l k1) (rq_tr (rq_l k2) (rq_tr (rq_l k3) (rq_g k4)))
        have hr : ∀ t, t ≤ iv_n y + 1 → ws_run (iv_lw y) (fun i => if i = iv_n y + 1 then ((2, b, 0, 0) : ws_E) else (fun i => if i = iv_n y then ((2, a, 0, 0) : ws_E) else iv_ev y i) i) (fun i => if i = iv_n y + 1 then false else (fun i => if i = iv_n y then false else (fun _ => false) i) i) t = ws_run (iv_lw y) (fun i => if i = iv_n y then ((2, a, 0, 0) : ws_E) else iv_ev y i) (fun i => if i = iv_n y then false else (fun _ => false) i) t := fun t ht => ws_run_cong (fun u hu => ⟨by rw [if_neg (by omega)], fun _ => by rw [if_neg (by omega)]⟩)
        refine fin (iv_n y + 1 + 1) (iv_n y + 1) M4 (by omega) (by omega) q0 (rf_L_gq L3 k4).1 ?_ (fun _ => ?_) (fun _ => ?_)
        · have A := A4.1 (iv_n y + 1 + 1) (Nat.le_refl _)
          rw [ws_run_s (by rw [if_pos rfl]), hr _ (Nat.le_refl _), r1] at A
          have e : gt_2 y a b true true = ws_st (iv_lw y) (gt_1 y a true) (if iv_n y + 1 = iv_n y + 1 then ((2, b, 0, 0) : ws_E) else (fun i => if i = iv_n y then ((2, a, 0, 0) : ws_E) else iv_ev y i) (iv_n y + 1)) := by
            rw [if_pos rfl]
            exact if_pos rfl
          rw [e]
          exact A
        · have A := (A4.2.1 (iv_n y) (by omega)).1
          rw [hr _ (by omega), r0] at A
          simp only [ite_self, Bool.false_eq_true, if_false] at A
          rw [if_neg (show ¬ iv_n y = iv_n y + 1 by omega), if_pos trivial, why_x (by omega)] at A
          exact A
        · have A := (A4.2.1 (iv_n y + 1) (by omega)).1
          rw [hr _ (by omega), r1] at A
          simp only [ite_self, Bool.false_eq_true, if_false] at A
          rw [if_pos trivial, why_x (by omega), gt_al (fun q => hab q.symm)] at A
          exact A
    · rw [f4, Bool.not_eq_true] at d
      subst d
      have hm2 := L2.1
      rw [hm2]
      refine sr_223 L2 (by omega) R.1.1 ev1 (fun M4 k4 A4 => ?_)
      have q0 : rq M M4 := rq_tr (rq_l k1) (rq_tr (rq_l k2) (rq_g k4))
      refine fin (iv_n y + 1) (iv_n y + 1) M4 (by omega) (by omega) q0 (rf_L_gq L2 k4).1 ?_ (fun _ => ?_) (fun q => absurd q (by decide))
      · have A := A4.1 (iv_n y + 1) (Nat.le_refl _)
        rw [r1] at A
        exact A
      · have A := (A4.2.1 (iv_n y) (by omega)).1
        rw [r0] at A
        simp only [ite_self, Bool.false_eq_true, if_false] at A
        rw [if_pos trivial, why_x (by omega)] at A
        exact A
  · rw [f3, Bool.not_eq_true] at c
    rw [f4] at d
    subst c d
    have hm1 := L1.1
    refine sr_208 (E := (2, b, 0, 0)) L1 (by omega) (fun M2 k2 L2 => sg_310_37 ?_)
    rw [hm1]
    have r0 : ws_run (iv_lw y) (fun i => if i = iv_n y then ((2, b, 0, 0) : ws_E) else iv_ev y i) (fun i => if i = iv_n y then false else (fun _ => false) i) (iv_n y) = iv_rn y (iv_n y) := ws_run_cong (fun t ht => ⟨by rw [if_neg (by omega)], fun _ => by rw [if_neg (by omega)]⟩)
    refine sr_223 L2 (by omega) R.1.1 (fun e he => ?_) (fun M4 k4 A4 => ?_)
    · (try dsimp only)
      split
      · exact ok_x (by omega) b2
      · exact hok e (by omega)
    · have q0 : rq M M4 := rq_tr (rq_l k1) (rq_tr (rq_l k2) (rq_g k4))
      refine fin (iv_n y + 1) (iv_n y) M4 (by omega) (by omega) q0 (rf_L_gq L2 k4).1 ?_ (fun q => absurd q (by decide)) (fun _ => ?_)
      · have A := A4.1 (iv_n y + 1) (Nat.le_refl _)
        rw [ws_run_s (by rw [if_pos rfl]), r0] at A
        have e : gt_2 y a b false true = ws_st (iv_lw y) (iv_rn y (iv_n y)) (if iv_n y = iv_n y then ((2, b, 0, 0) : ws_E) else iv_ev y (iv_n y)) := by
          rw [if_pos rfl]
          exact if_pos rfl
        rw [e]
        exact A
      · have A := (A4.2.1 (iv_n y) (by omega)).1
        rw [r0] at A
        simp only [ite_self, Bool.false_eq_true, if_false] at A
        rw [if_pos trivial, why_x (by omega)] at A
        exact A
  · rw [f3, Bool.not_eq_true] at c
    rw [f4, Bool.not_eq_true] at d
    subst c d
    have hm1 := L1.1
    rw [hm1]
    refine sr_223 L1 (by omega) R.1.1 hok (fun M4 k4 A4 => ?_)
    exact fin (iv_n y) (iv_n y) M4 (by omega) (by omega) (rq_tr (rq_l k1) (rq_g k4)) (rf_L_gq L1 k4).1 (A4.1 _ (Nat.le_refl _)) (fun q => absurd q (by decide)) (fun q => absurd q (by decide))
theorem pr_of {x1 x2 : Int32} (h : pr_ok y x1 x2 = true) : ∃ a b, x1 = nI a ∧ x2 = nI b ∧ 2 ≤ a ∧ a ≤ 15 ∧ 2 ≤ b ∧ b ≤ 15 ∧ a ≠ b := by
  unfold pr_ok at h
  rw [Bool.and_eq_true, Bool.and_eq_true, Bool.and_eq_true] at h
  obtain ⟨_, h2, h3, h4⟩ := h
  obtain ⟨a, rfl, a1, a2⟩ := rg_of h2 (by omega) (by omega)
  obtain ⟨b, rfl, b1, b2⟩ := rg_of h3 (by omega) (by omega)
  exact ⟨a, b, rfl, rfl, by omega, by omega, by omega, by omega, fun q => of_decide_eq_true h4 (by rw [q])⟩
theorem sr_313 (R : ir y M) {x1 x2 x3 x4 : Int32} (h : ∀ M', rq M M' → Q (some (.int (an_137 y x1 x2 x3 x4))) M') : px_T 0 313 0 [some (.ref 56), some (.int x1), some (.int x2), some (.int x3), some (.int x4)] [] M Q := by
  unfold an_137 at h
  have bad : (pr_ok y x1 x2 = false ∨ rg x3 0 1 = false ∨ rg x4 0 1 = false) → Q (some (.int (-2))) M := by
    intro hb
    have h9 := h M rq_rf
    rw [if_neg] at h9
    · exact h9
    · rcases hb with q | q | q <;> rw [q] <;> simp
  refine sg_313_0 (sr_311 R (sg_313_6 (fun c => bad (Or.inl ((in_b0 _).mp c))) (fun c => sr_175i (a := 0) (b := 1) (by omega) (by omega) (sg_313_16 (fun d => bad (Or.inr (Or.inl ((in_b0 _).mp d)))) (fun d => sr_175i (a := 0) (b := 1) (by omega) (by omega) (sg_313_27 (fun e => bad (Or.inr (Or.inr ((in_b0 _).mp e)))) (fun e => ?_)))))))
  rw [in_b0, Bool.not_eq_false] at c d e
  have g3 : rg x3 0 1 = true := d
  have g4 : rg x4 0 1 = true := e
  rw [c, g3, g4, if_pos (by decide)] at h
  obtain ⟨a, b, rfl, rfl, a1, a2, b1, b2, hab⟩ := pr_of c
  rw [in_cl (by omega), in_cl (by omega)] at h
  have t3 := bit_01 g3
  have t4 := bit_01 g4
  generalize decide (x3 = 1) = X at h t3
  generalize decide (x4 = 1) = Z at h t4
  subst t3 t4
  exact sr_310 (w := false) R a1 a2 b1 b2 hab (fun M1 q1 => sg_313_40 (h M1 q1))
theorem sr_312 (R : ir y M) {x1 x2 : Int32} (h : ∀ M', rq M M' → Q (some (.int (an_136 y x1 x2))) M') : px_T 0 312 0 [some (.ref 56), some (.int x1), some (.int x2), none, none, none, none, none] [] M Q := by
  unfold an_136 at h
  refine sg_312_0 (sr_311 R (sg_312_6 (fun c => ?_) (fun c => ?_)))
  · rw [in_b0] at c
    rw [c, if_neg (by decide)] at h
    exact h M rq_rf
  rw [in_b0, Bool.not_eq_false] at c
  rw [c, if_pos rfl] at h
  obtain ⟨a, b, rfl, rfl, a1, a2, b1, b2, hab⟩ := pr_of c
  rw [in_cl (by omega), in_cl (by omega)] at h
  have hl : ∀ (n k : Nat) (N : px_Mem) (d5 d6 d7 : Option Value), k + n = 4 → rq M N → px_T 0 312 17 [some (.ref 56), some (.int (nI a)), some (.int (nI b)), some (.int (nI (bs (rs y a b) k))), some (.int (nI k)), d5, d6, d7] [] N Q := by
    intro n
    induction n with
    | zero =>
      intro k N d5 d6 d7 hk q
      have e1 : k = 4 := by omega
      subst e1
      refine sg_312_17 (fun c1 => ?_) (fun c1 => by exfalso; (try simp (disch := omega) only [in_lt, in_le, in_eq, in_add, in_mul, in_sb, in_cl, in_bz, in_bo, in_mo, not_true_eq_false, not_false_eq_true, il_0, il_1, il_2, il_3, il_4, il_5, il_6, il_7, il_8, il_9, il_10, il_11, il_12, il_13, il_14, il_15, il_16, il_31] at c1) <;> omega)
      exact h N q
    | succ n ih =>
      intro k N d5 d6 d7 hk q
      obtain ⟨kb, kc⟩ := in_bk (k := k) (by omega)
      refine sg_312_17 (fun c1 => by exfalso; (try simp (disch := omega) only [in_lt, in_le, in_eq, in_add, in_mul, in_sb, in_cl, in_bz, in_bo, in_mo, not_true_eq_false, not_false_eq_true, il_0, il_1, il_2, il_3, il_4, il_5, il_6, il_7, il_8, il_9, il_10, il_11, il_12, il_13, il_14, il_15, il_16, il_31] at c1) <;> omega) (fun c1 => ?_)
      rw [kb, kc]
      refine sr_310 (w := false) (ir_rq R q) a1 a2 b1 b2 hab (fun M2 q2 => sg_312_46 ?_)
      rw [in_bn]
      refine sr_310 (w := false) (ir_rq R (rq_tr q q2)) a1 a2 b1 b2 hab (fun M3 q3 => ?_)
      have q23 := rq_tr q (rq_tr q2 q3)
      refine sg_312_59 (fun c => ?_) (fun c => ?_)
      · have ih2 := fun d5 d6 d7 => ih (k + 1) M3 d5 d6 d7 (by omega) q23
        rw [bs_n (rs_1 c)] at ih2
        rw [il_0, in_or, in_a1, Nat.or_zero]
        exact ih2 _ _ _
      · refine sr_310 (w := true) (ir_rq R q23) a1 a2 b1 b2 hab (fun M4 q4 => sg_312_73 ?_)
        rw [in_bn]
        refine sr_310 (w := true) (ir_rq R (rq_tr q23 q4)) a1 a2 b1 b2 hab (fun M5 q5 => ?_)
        have q6 := rq_tr q23 (rq_tr q4 q5)
        have ih2 := fun d5 d6 d7 => ih (k + 1) M5 d5 d6 d7 (by omega) q6
        refine sg_312_86 (fun d => ?_) (fun d => ?_)
        · rw [bs_n (rs_2 d)] at ih2
          rw [il_0, in_or, in_a1, Nat.or_zero]
          exact ih2 _ _ _
        · rw [bs_y (rs_3 c d)] at ih2
          rw [in_one (by omega), in_or, in_a1]
          exact ih2 _ _ _
  exact hl 4 0 M _ _ _ rfl rq_rf
end G57
