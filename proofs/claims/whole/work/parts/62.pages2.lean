/-! pages: the reference -/
section P62
variable {M : px_Mem} {Q : px_Po} {y : iv_Y}
theorem sr_279 (hy : iv_yok y) (A : ra y M) {p a z : Nat} (haz : a ≤ z) (hz : z ≤ iv_n y) (h1 : 1 ≤ p) (h2 : p ≤ 15) (h : Q (some (.int (nI (pgd y p a z)))) M) : px_T 0 279 0 [some (.ref 56), some (.int (nI p)), some (.int (nI a)), some (.int (nI z)), none, none] [] M Q := by
  have hn := iv_yn hy
  refine sg_279_0 ?_
  have hl : ∀ (n t v : Nat), t + n = z → pgf y p (z - a) a 0 = pgf y p n t v → px_T 0 279 6 [some (.ref 56), some (.int (nI p)), some (.int (nI a)), some (.int (nI z)), some (.int (nI v)), some (.int (nI t))] [] M Q := by
    intro n
    induction n with
    | zero =>
      intro t v ht hv
      have e1 : t = z := by omega
      subst e1
      refine sg_279_6 (fun c1 => ?_) (fun c1 => by exfalso; (try simp (disch := omega) only [in_lt, in_le, in_eq, in_add, in_mul, in_sb, in_cl, in_bz, in_bo, in_mo, not_true_eq_false, not_false_eq_true, il_0, il_1, il_2, il_3, il_4, il_5, il_6, il_7, il_8, il_9, il_10, il_11, il_12, il_13, il_14, il_15, il_16, il_31] at c1) <;> omega) (fun c1 c2 => by exfalso; (try simp (disch := omega) only [in_lt, in_le, in_eq, in_add, in_mul, in_sb, in_cl, in_bz, in_bo, in_mo, not_true_eq_false, not_false_eq_true, il_0, il_1, il_2, il_3, il_4, il_5, il_6, il_7, il_8, il_9, il_10, il_11, il_12, il_13, il_14, il_15, il_16, il_31] at c1 c2) <;> omega) (fun c1 c2 c3 => by exfalso; (try simp (disch := omega) only [in_lt, in_le, in_eq, in_add, in_mul, in_sb, in_cl, in_bz, in_bo, in_mo, not_true_eq_false, not_false_eq_true, il_0, il_1, il_2, il_3, il_4, il_5, il_6, il_7, il_8, il_9, il_10, il_11, il_12, il_13, il_14, il_15, il_16, il_31] at c1 c2 c3) <;> omega) (fun c1 c2 c3 => by exfalso; (try simp (disch := omega) only [in_lt, in_le, in_eq, in_add, in_mul, in_sb, in_cl, in_bz, in_bo, in_mo, not_true_eq_false, not_false_eq_true, il_0, il_1, il_2, il_3, il_4, il_5, il_6, il_7, il_8, il_9, il_10, il_11, il_12, il_13, il_14, il_15, il_16, il_31] at c1 c2 c3) <;> omega)
      refine sr_227 (A.1 t hz) (iv_rnW hy hz).1.1 (by omega) (by omega) (sg_279_61 (fun c => ?_) (fun c => ?_))
      · rw [in_b0] at c
        have e2 : pgd y p a t = 0 := by
          unfold pgd
          rw [if_neg]
          unfold iv_rn
          rw [c]
          decide
        rw [e2] at h
        exact h
      · rw [in_b0, Bool.not_eq_false] at c
        have e2 : pgd y p a t = v := by
          unfold pgd
          rw [if_pos]
          · exact hv
          · exact c
        rw [e2] at h
        exact h
    | succ n ih =>
      intro t v ht hv
      have hok := hy.2.2.2.2.2 t (by omega)
      have hb := iv_okb hok
      obtain ⟨_, r2, r3⟩ := A.2.1 t (by omega)
      rw [if_neg (show ¬ (false = true) by decide)] at r2
      have r2' : M.1 74 t = nI (ws_db (ws_why (iv_rn y t) (iv_ev y t)) (iv_ev y t)) := r2
      have r3' : ws_why (iv_rn y t) (iv_ev y t) = 0 → M.1 75 t = nI (ws_dw (iv_ev y t)) := r3 rfl
      have hdw : ws_dw (iv_ev y t) ≤ 15 := by unfold ws_dw; split <;> omega
      have hdb : ws_db (ws_why (iv_rn y t) (iv_ev y t)) (iv_ev y t) < 2 ^ 31 := by
        have h9 := pd_lt hy (p := ws_dw (iv_ev y t)) (t := t) (by omega)
        unfold pd at h9
        by_cases hd : ws_db (ws_why (iv_rn y t) (iv_ev y t)) (iv_ev y t) = 0
        · omega
        · rw [if_pos ⟨hd, rfl⟩] at h9
          omega
      have hw0 : ¬ ws_db (ws_why (iv_rn y t) (iv_ev y t)) (iv_ev y t) = 0 → ws_why (iv_rn y t) (iv_ev y t) = 0 := by
        intro hd
        unfold ws_db at hd
        split at hd
        · assumption
        · exact absurd rfl hd
      have no : pd y p t = 0 → px_T 0 279 6 [some (.ref 56), some (.int (nI p)), some (.int (nI a)), some (.int (nI z)), some (.int (nI v ||| 0)), some (.int (nI t + 1))] [] M Q := by
        intro hd
        rw [Int32.or_zero, in_a1]
        refine ih (t + 1) v (by omega) ?_
        rw [hv]
        show pgf y p n (t + 1) (v ||| pd y p t) = _
        rw [hd, Nat.or_zero]
      refine sg_279_6 (fun c => ?_) (fun c => me_vin (by omega) (by omega)) (fun c d => ?_) (fun c d e => ?_) (fun c d e => ?_)
      · simp (disch := omega) only [in_lt, in_le, in_eq, in_add, in_mul, in_sb, in_cl, in_bz, in_bo, in_mo, not_true_eq_false, not_false_eq_true, il_0, il_1, il_2, il_3, il_4, il_5, il_6, il_7, il_8, il_9, il_10, il_11, il_12, il_13, il_14, il_15, il_16, il_31] at c
        omega
      · rw [in_cl (by omega), r2'] at d
        rw [show (0 : Int32) = nI 0 from rfl, in_eq hdb (by omega)] at d
        refine no ?_
        unfold pd
        rw [if_neg (fun q => q.1 d)]
      · rw [in_cl (by omega), r2'] at d
        rw [show (0 : Int32) = nI 0 from rfl, in_eq hdb (by omega)] at d
        rw [in_cl (by omega), r3' (hw0 d), in_eq (by omega) (by omega)] at e
        rw [in_cl (by omega), r2', in_or, in_a1]
        refine ih (t + 1) _ (by omega) ?_
        rw [hv]
        show pgf y p n (t + 1) (v ||| pd y p t) = _
        unfold pd
        rw [if_pos ⟨d, e⟩]
      · rw [in_cl (by omega), r2'] at d
        rw [show (0 : Int32) = nI 0 from rfl, in_eq hdb (by omega)] at d
        rw [in_cl (by omega), r3' (hw0 d), in_eq (by omega) (by omega)] at e
        refine no ?_
        unfold pd
        rw [if_neg (fun q => e q.2)]
  exact hl (z - a) a 0 (by omega) rfl
theorem sr_280 (R : ir y M) {x1 x2 x3 : Int32} (h : ∀ M', rq M M' → Q (some (.int (an_122 y x1 x2 x3))) M') : px_T 0 280 0 [some (.ref 56), some (.int x1), some (.int x2), some (.int x3)] [] M Q := by
  unfold an_122 at h
  have hn := iv_yn R.1
  have bad : ∀ M1, rq M M1 → ((tk y x2 && rg x1 1 15) = false ∨ tk y x3 = false ∨ ¬ (x2.toInt ≤ x3.toInt)) → Q (some (.int (-2))) M1 := by
    intro M1 q1 hb
    have h9 := h M1 q1
    rw [if_neg] at h9
    · exact h9
    · rcases hb with q | q | q
      · rw [q]; simp
      · rw [q]; simp
      · rw [decide_eq_false q]; simp
  refine sg_280_0 (sr_226 R (fun M1 a p q1 _ A e2 e1 a1 p1 p2 g1 => sg_280_6 (fun q => absurd q (by decide)) (fun _ => ?_)) (fun M1 q1 g1 => sg_280_6 (fun _ => bad M1 q1 (Or.inl g1)) (fun q => absurd rfl q)))
  refine sr_183 (ir_rq R q1) (sg_280_15 (fun c => bad M1 q1 (Or.inr (Or.inl ((in_b0 _).mp c)))) (fun c d => bad M1 q1 (Or.inr (Or.inr ?_))) (fun c d => ?_))
  · rw [fa_lt] at d
    omega
  · rw [in_b0, Bool.not_eq_false] at c
    rw [fa_lt] at d
    have h9 := h M1 q1
    rw [g1, c, decide_eq_true (by omega), if_pos (by decide)] at h9
    obtain ⟨z, e3, z1, _⟩ := tk_of hn c
    subst e1 e2 e3
    rw [in_cl (by omega), in_cl (by omega), in_cl (by omega)] at h9
    rw [nI_toInt (by omega), nI_toInt (by omega)] at d
    exact sr_279 R.1 A (by omega) z1 p1 p2 (sg_280_30 h9)
theorem sr_281 (hy : iv_yok y) (A : ra y M) {a z : Nat} (haz : a ≤ z) (hz : z ≤ iv_n y) (h : Q (some (.int (nI (pgs y a z)))) M) : px_T 0 281 0 [some (.ref 56), some (.int (nI a)), some (.int (nI z)), none, none] [] M Q := by
  refine sg_281_0 ?_
  have hl : ∀ i, i ≤ 15 → px_T 0 281 5 [some (.ref 56), some (.int (nI a)), some (.int (nI z)), some (.int (nI (sm (fun i => in_pc 15 (pgd y (i + 1) a z)) i))), some (.int (nI (i + 1)))] [] M Q := by
    refine lp_dn ?_ (fun i hi ih => ?_)
    · refine sg_281_5 (fun c1 => ?_) (fun c1 => by exfalso; (try simp (disch := omega) only [in_lt, in_le, in_eq, in_add, in_mul, in_sb, in_cl, in_bz, in_bo, in_mo, not_true_eq_false, not_false_eq_true, il_0, il_1, il_2, il_3, il_4, il_5, il_6, il_7, il_8, il_9, il_10, il_11, il_12, il_13, il_14, il_15, il_16, il_31] at c1) <;> omega)
      exact h
    · refine sg_281_5 (fun c1 => by exfalso; (try simp (disch := omega) only [in_lt, in_le, in_eq, in_add, in_mul, in_sb, in_cl, in_bz, in_bo, in_mo, not_true_eq_false, not_false_eq_true, il_0, il_1, il_2, il_3, il_4, il_5, il_6, il_7, il_8, il_9, il_10, il_11, il_12, il_13, il_14, il_15, il_16, il_31] at c1) <;> omega) (fun c1 => ?_)
      have hb := pgd_b hy (p := i + 1) haz hz
      refine sr_279 hy A haz hz (by omega) (by omega) (sg_281_21 (sr_176 (by omega) (sg_281_24 ?_)))
      rw [sm_s] at ih
      have e1 : in_pc 16 (pgd y (i + 1) a z) = in_pc 15 (pgd y (i + 1) a z) := by
        rw [pc_ct, pc_ct]
        exact ct_n (Nat.testBit_lt_two_pow (by omega))
      rw [e1, in_add, in_a1]
      exact ih
  exact hl 0 (by omega)
theorem lr_v {a e z : Nat} (haz : a < z) (hz : z ≤ 70) (he : 1 ≤ e) (he2 : e ≤ 40) : (nI z - nI a - 1) / nI e + 1 = nI (lr a e z) := by
  rw [in_sb (by omega), in_s1 (by omega), pk_div (by omega) (by omega) (by omega), in_a1]
  rfl
theorem sr_282 {a e z : Nat} (haz : a < z) (hz : z ≤ 70) (he : 1 ≤ e) (he2 : e ≤ 40) (h : Q (some (.int (nI (lr a e z)))) M) : px_T 0 282 0 [some (.ref 56), some (.int (nI a)), some (.int (nI e)), some (.int (nI z))] [] M Q := by
  refine sg_282_0 (fun c => ?_) ?_
  · simp (disch := omega) only [in_lt, in_le, in_eq, in_add, in_mul, in_sb, in_cl, in_bz, in_bo, in_mo, not_true_eq_false, not_false_eq_true, il_0, il_1, il_2, il_3, il_4, il_5, il_6, il_7, il_8, il_9, il_10, il_11, il_12, il_13, il_14, il_15, il_16, il_31] at c
    omega
  · rw [lr_v haz hz he he2]
    exact h
theorem sr_283 (hy : iv_yok y) (A : ra y M) {a e z r : Nat} (haz : a < z) (hz : z ≤ iv_n y) (he : 1 ≤ e) (he2 : e ≤ 40) (hr : r ≤ lr a e z) (h : Q (some (.int (nI (rv y a e z r)))) M) : px_T 0 283 0 [some (.ref 56), some (.int (nI a)), some (.int (nI e)), some (.int (nI z)), some (.int (nI r))] [] M Q := by
  have hn := iv_yn hy
  have hL := lr_b (a := a) (e := e) (z := z)
  refine sg_283_0 (fun c => ?_) (fun c => ?_)
  · simp (disch := omega) only [in_lt, in_le, in_eq, in_add, in_mul, in_sb, in_cl, in_bz, in_bo, in_mo, not_true_eq_false, not_false_eq_true, il_0, il_1, il_2, il_3, il_4, il_5, il_6, il_7, il_8, il_9, il_10, il_11, il_12, il_13, il_14, il_15, il_16, il_31] at c
    subst c
    have hW := iv_rnW hy (t := a) (by omega)
    refine sr_230 (A.1 a (by omega)) hW.1.1 (by omega) (sg_283_12 ?_)
    have e1 : in_pc 16 (ws_al (iv_rn y a)) = pcA (iv_rn y a) := pc_al hW.1.2.2.1
    unfold iv_rn at e1
    rw [e1, il_8, in_mul]
    exact h
  · simp (disch := omega) only [in_lt, in_le, in_eq, in_add, in_mul, in_sb, in_cl, in_bz, in_bo, in_mo, not_true_eq_false, not_false_eq_true, il_0, il_1, il_2, il_3, il_4, il_5, il_6, il_7, il_8, il_9, il_10, il_11, il_12, il_13, il_14, il_15, il_16, il_31] at c
    obtain ⟨k, rfl⟩ : ∃ k, r = k + 1 := ⟨r - 1, by omega⟩
    have hk : a + k * e < z := (lr_lt he haz).mp (by omega)
    have hke : k * e < 2 ^ 20 := by omega
    have e1 : nI a + (nI (k + 1) - 1) * nI e = nI (mk a e z k) := by
      rw [in_s1 (by omega), in_mul, in_add, show k + 1 - 1 = k by omega]
      unfold mk
      rw [Nat.min_eq_left (by omega)]
    rw [e1]
    refine sr_282 haz (by omega) he he2 (sg_283_32 (fun d => ?_) (fun d => ?_))
    · simp (disch := omega) only [in_lt, in_le, in_eq, in_add, in_mul, in_sb, in_cl, in_bz, in_bo, in_mo, not_true_eq_false, not_false_eq_true, il_0, il_1, il_2, il_3, il_4, il_5, il_6, il_7, il_8, il_9, il_10, il_11, il_12, il_13, il_14, il_15, il_16, il_31] at d
      have e2 : mk a e z (k + 1) = z := by
        have hnn : ¬ a + (k + 1) * e < z := fun q => by
          have := (lr_lt he haz).mpr q
          omega
        unfold mk
        exact Nat.min_eq_right (by omega)
      have h9 : Q (some (.int (nI (pgs y (mk a e z k) (mk a e z (k + 1)))))) M := h
      rw [e2] at h9
      refine sr_281 hy A ?_ hz (sg_283_48 h9)
      unfold mk
      omega
    · simp (disch := omega) only [in_lt, in_le, in_eq, in_add, in_mul, in_sb, in_cl, in_bz, in_bo, in_mo, not_true_eq_false, not_false_eq_true, il_0, il_1, il_2, il_3, il_4, il_5, il_6, il_7, il_8, il_9, il_10, il_11, il_12, il_13, il_14, il_15, il_16, il_31] at d
      have hk2 : a + (k + 1) * e < z := (lr_lt he haz).mp (by omega)
      have e2 : nI a + nI (k + 1) * nI e = nI (mk a e z (k + 1)) := by
        rw [in_mul, in_add]
        unfold mk
        rw [Nat.min_eq_left (by omega)]
      have e3 : (k + 1) * e = k * e + e := by rw [Nat.add_mul, Nat.one_mul]
      rw [e2]
      refine sr_281 hy A ?_ ?_ (sg_283_48 h)
      · unfold mk
        omega
      · unfold mk
        omega
theorem sr_284 (hy : iv_yok y) (A : ra y M) {a e z : Nat} (haz : a < z) (hz : z ≤ iv_n y) (he : 1 ≤ e) (he2 : e ≤ 40) (h : Q (some (.int (nI (alc y a z e)))) M) : px_T 0 284 0 [some (.ref 56), some (.int (nI a)), some (.int (nI e)), some (.int (nI z)), none, none] [] M Q := by
  have hn := iv_yn hy
  have hL := lr_b (a := a) (e := e) (z := z)
  refine sg_284_0 ?_
  have hl : ∀ i, i ≤ lr a e z + 1 → px_T 0 284 6 [some (.ref 56), some (.int (nI a)), some (.int (nI e)), some (.int (nI z)), some (.int (nI (sm (rv y a e z) i))), some (.int (nI i))] [] M Q := by
    refine lp_dn ?_ (fun i hi ih => ?_)
    · refine sg_284_6 (sr_282 haz (by omega) he he2 (sg_284_15 (fun c => h) (fun c => ?_)))
      simp (disch := omega) only [in_lt, in_le, in_eq, in_add, in_mul, in_sb, in_cl, in_bz, in_bo, in_mo, not_true_eq_false, not_false_eq_true, il_0, il_1, il_2, il_3, il_4, il_5, il_6, il_7, il_8, il_9, il_10, il_11, il_12, il_13, il_14, il_15, il_16, il_31] at c
      omega
    · refine sg_284_6 (sr_282 haz (by omega) he he2 (sg_284_15 (fun c => ?_) (fun c => ?_)))
      · simp (disch := omega) only [in_lt, in_le, in_eq, in_add, in_mul, in_sb, in_cl, in_bz, in_bo, in_mo, not_true_eq_false, not_false_eq_true, il_0, il_1, il_2, il_3, il_4, il_5, il_6, il_7, il_8, il_9, il_10, il_11, il_12, il_13, il_14, il_15, il_16, il_31] at c
        omega
      · refine sr_283 hy A haz hz he he2 (by omega) (sg_284_29 ?_)
        rw [sm_s] at ih
        rw [in_add, in_a1]
        exact ih
  exact hl 0 (by omega)
theorem sr_285 (R : ir y M) {x1 x2 : Int32} (h1 : ∀ M' (a z : Nat), rq M M' → ra y M' → x1 = nI a → x2 = nI z → a < z → z ≤ iv_n y → cp y x1 x2 = true → Q (some (.int 1)) M') (h2 : ∀ M', rq M M' → cp y x1 x2 = false → Q (some (.int 0)) M') : px_T 0 285 0 [some (.ref 56), some (.int x1), some (.int x2)] [] M Q := by
  have hn := iv_yn R.1
  have bad : ∀ M1, rq M M1 → (tk y x1 = false ∨ tk y x2 = false ∨ ¬ (x1.toInt < x2.toInt)) → Q (some (.int 0)) M1 := by
    intro M1 q1 hb
    refine h2 M1 q1 ?_
    unfold cp
    rcases hb with q | q | q
    · rw [q]; simp
    · rw [q]; simp
    · rw [decide_eq_false q]; simp
  refine sg_285_0 (sr_225 R (fun M1 a q1 _ A e1 a1 g1 => sg_285_5 (fun q => absurd q (by decide)) (fun _ => ?_)) (fun M1 q1 g1 => sg_285_5 (fun _ => bad M1 q1 (Or.inl g1)) (fun q => absurd rfl q)))
  refine sr_183 (ir_rq R q1) (sg_285_14 (fun c => bad M1 q1 (Or.inr (Or.inl ((in_b0 _).mp c)))) (fun c d => bad M1 q1 (Or.inr (Or.inr ?_))) (fun c d => ?_))
  · rw [fa_le] at d
    omega
  · rw [in_b0, Bool.not_eq_false] at c
    rw [fa_le] at d
    obtain ⟨z, e3, z1, _⟩ := tk_of hn c
    have d2 : x1.toInt < x2.toInt := by omega
    refine h1 M1 a z q1 A e1 e3 ?_ z1 (by unfold cp; rw [g1, c, decide_eq_true d2]; rfl)
    subst e1 e3
    rw [nI_toInt (by omega), nI_toInt (by omega)] at d2
    omega
theorem sr_286 (R : ir y M) {x1 x2 x3 x4 : Int32} (h : ∀ M', rq M M' → Q (some (.int (an_123 y x1 x2 x3 x4))) M') : px_T 0 286 0 [some (.ref 56), some (.int x1), some (.int x2), some (.int x3), some (.int x4)] [] M Q := by
  unfold an_123 at h
  have hn := iv_yn R.1
  have bad : ∀ M1, rq M M1 → (cp y x1 x3 = false ∨ rg x2 1 40 = false ∨ ¬ (0 ≤ x4.toInt)) → Q (some (.int (-2))) M1 := by
    intro M1 q1 hb
    have h9 := h M1 q1
    rw [if_neg] at h9
    · exact h9
    · rcases hb with q | q | q
      · rw [q]; simp
      · rw [q]; simp
      · rw [decide_eq_false q]; simp
  refine sg_286_0 (sr_285 R (fun M1 a z q1 A ea ez haz hz g1 => sg_286_6 (fun q => absurd q (by decide)) (fun _ => ?_)) (fun M1 q1 g1 => sg_286_6 (fun _ => bad M1 q1 (Or.inl g1)) (fun q => absurd rfl q)))
  refine sr_175i (a := 1) (b := 40) (by omega) (by omega) (sg_286_18 (fun c => bad M1 q1 (Or.inr (Or.inl ((in_b0 _).mp c)))) (fun c d => ?_) (fun c d => bad M1 q1 (Or.inr (Or.inr (fun q => d (by rw [fa_le]; exact q))))))
  rw [in_b0, Bool.not_eq_false] at c
  have g2 : rg x2 1 40 = true := c
  have h9 := h M1 q1
  rw [g1, g2, decide_eq_true (by rw [fa_le] at d; exact d), if_pos (by decide)] at h9
  obtain ⟨e, ee, e2, e3⟩ := rg_of g2 (by omega) (by omega)
  rcases in_cases x4 with q | ⟨r, hr, er⟩
  · rw [fa_le] at d
    rw [fa_lt] at q
    omega
  · subst ea ee ez er
    have hL := lr_b (a := a) (e := e) (z := z)
    rw [in_cl (by omega), in_cl (by omega), in_cl (by omega), in_cl (by omega)] at h9
    refine sr_282 haz (by omega) (by omega) (by omega) (sg_286_38 (fun f => ?_) (fun f => ?_))
    · rw [in_le (by omega) (by omega)] at f
      rw [if_pos f] at h9
      exact sr_283 R.1 A haz hz (by omega) (by omega) f (sg_286_54 h9)
    · rw [in_le (by omega) (by omega)] at f
      rw [if_neg f] at h9
      exact h9
theorem sr_287 (R : ir y M) {x1 x2 x3 : Int32} (h : ∀ M', rq M M' → Q (some (.int (an_124 y x1 x2 x3))) M') : px_T 0 287 0 [some (.ref 56), some (.int x1), some (.int x2), some (.int x3)] [] M Q := by
  unfold an_124 at h
  have hn := iv_yn R.1
  have bad : ∀ M1, rq M M1 → (cp y x1 x3 = false ∨ rg x2 1 40 = false) → Q (some (.int (-2))) M1 := by
    intro M1 q1 hb
    have h9 := h M1 q1
    rw [if_neg] at h9
    · exact h9
    · rcases hb with q | q
      · rw [q]; simp
      · rw [q]; simp
  refine sg_287_0 (sr_285 R (fun M1 a z q1 A ea ez haz hz g1 => sg_287_6 (fun q => absurd q (by decide)) (fun _ => ?_)) (fun M1 q1 g1 => sg_287_6 (fun _ => bad M1 q1 (Or.inl g1)) (fun q => absurd rfl q)))
  refine sr_175i (a := 1) (b := 40) (by omega) (by omega) (sg_287_18 (fun c => bad M1 q1 (Or.inr ((in_b0 _).mp c))) (fun c => ?_))
  rw [in_b0, Bool.not_eq_false] at c
  have g2 : rg x2 1 40 = true := c
  have h9 := h M1 q1
  rw [g1, g2, if_pos (by decide)] at h9
  obtain ⟨e, ee, e2, e3⟩ := rg_of g2 (by omega) (by omega)
  subst ea ee ez
  rw [in_cl (by omega), in_cl (by omega), in_cl (by omega)] at h9
  exact sr_284 R.1 A haz hz (by omega) (by omega) (sg_287_28 h9)
theorem sb_lt {a b : Nat} (ha : a < 2 ^ 30) (hb : b < 2 ^ 30) : ((nI a - nI b < 0) ↔ a < b) ∧ ((nI a - nI b = 0) ↔ a = b) := by
  have e : (nI a - nI b).toInt = (a : Int) - (b : Int) := by
    rw [Int32.toInt_sub, nI_toInt (by omega), nI_toInt (by omega), Int.bmod_eq_of_le (by omega) (by omega)]
  refine ⟨?_, ?_⟩
  · rw [fa_lt, e, Int32.toInt_zero]
    omega
  · rw [← Int32.toInt_inj, e, Int32.toInt_zero]
    omega
theorem sr_288 (R : ir y M) {x1 x2 : Int32} (h : ∀ M', rq M M' → Q (some (.int (an_125 y x1 x2))) M') : px_T 0 288 0 [some (.ref 56), some (.int x1), some (.int x2), none, none, none] [] M Q := by
  unfold an_125 at h
  have hn := iv_yn R.1
  refine sg_288_0 (sr_285 R (fun M1 a z q1 A ea ez haz hz g1 => sg_288_6 (fun q => absurd q (by decide)) (fun _ => ?_)) (fun M1 q1 g1 => sg_288_6 (fun _ => ?_) (fun q => absurd rfl q)))
  · have h9 := h M1 q1
    rw [g1, if_pos rfl] at h9
    subst ea ez
    rw [in_cl (by omega), in_cl (by omega)] at h9
    have hl : ∀ (n i : Nat) (d5 : Option Value), i + n = 39 → px_T 0 288 17 [some (.ref 56), some (.int (nI a)), some (.int (nI z)), some (.int (nI (bp y a z i))), some (.int (nI (i + 2))), d5] [] M1 Q := by
      intro n
      induction n with
      | zero =>
        intro i d5 hi
        have e1 : i = 39 := by omega
        subst e1
        refine sg_288_17 (fun c1 => ?_) (fun c1 => by exfalso; (try simp (disch := omega) only [in_lt, in_le, in_eq, in_add, in_mul, in_sb, in_cl, in_bz, in_bo, in_mo, not_true_eq_false, not_false_eq_true, il_0, il_1, il_2, il_3, il_4, il_5, il_6, il_7, il_8, il_9, il_10, il_11, il_12, il_13, il_14, il_15, il_16, il_31, il_40] at c1) <;> omega)
        exact h9
      | succ n ih =>
        intro i d5 hi
        have hb := bpn_b (y := y) (a := a) (z := z) i
        have l1 := lst_b (y := y) (a := a) (z := z) (e := i + 2)
        have l2 := lst_b (y := y) (a := a) (z := z) (e := bp y a z i)
        have a1 := al_b (y := y) (a := a) (z := z) (e := i + 2) (by omega)
        have a2 := al_b (y := y) (a := a) (z := z) (e := bp y a z i) (by omega)
        have yes : (lst y a z (i + 2) < lst y a z (bp y a z i) ∨ (lst y a z (i + 2) = lst y a z (bp y a z i) ∧ alc y a z (i + 2) ≤ alc y a z (bp y a z i))) → ∀ d5, px_T 0 288 17 [some (.ref 56), some (.int (nI a)), some (.int (nI z)), some (.int (nI (i + 2))), some (.int (nI (i + 2) + 1)), d5] [] M1 Q := by
          intro hc d5
          have e1 : bp y a z (i + 1) = i + 2 := by rw [bp_s, if_pos hc]
          have h9 := ih (i + 1) d5 (by omega)
          rw [e1] at h9
          rw [in_a1]
          exact h9
        have no : ¬ (lst y a z (i + 2) < lst y a z (bp y a z i) ∨ (lst y a z (i + 2) = lst y a z (bp y a z i) ∧ alc y a z (i + 2) ≤ alc y a z (bp y a z i))) → ∀ d5, px_T 0 288 17 [some (.ref 56), some (.int (nI a)), some (.int (nI z)), some (.int (nI (bp y a z i))), some (.int (nI (i + 2) + 1)), d5] [] M1 Q := by
          intro hc d5
          have e1 : bp y a z (i + 1) = bp y a z i := by rw [bp_s, if_neg hc]
          have h9 := ih (i + 1) d5 (by omega)
          rw [e1] at h9
          rw [in_a1]
          exact h9
        refine sg_288_17 (fun c1 => by exfalso; (try simp (disch := omega) only [in_lt, in_le, in_eq, in_add, in_mul, in_sb, in_cl, in_bz, in_bo, in_mo, not_true_eq_false, not_false_eq_true, il_0, il_1, il_2, il_3, il_4, il_5, il_6, il_7, il_8, il_9, il_10, il_11, il_12, il_13, il_14, il_15, il_16, il_31, il_40] at c1) <;> omega) (fun c1 => ?_)
        refine sr_282 haz (by omega) (by omega) (by omega) (sg_288_37 ?_)
        refine sr_283 R.1 A haz hz (by omega) (by omega) (Nat.le_refl _) (sg_288_40 ?_)
        refine sr_282 haz (by omega) (by omega) (by omega) (sg_288_51 ?_)
        refine sr_283 R.1 A haz hz (by omega) (by omega) (Nat.le_refl _) ?_
        have sb := sb_lt (a := lst y a z (i + 2)) (b := lst y a z (bp y a z i)) (by omega) (by omega)
        refine sg_288_54 (fun c => ?_) (fun c d => ?_) (fun c d => ?_)
        · exact yes (Or.inl (sb.1.mp c)) _
        · have c2 := fun q => c (sb.1.mpr q)
          have d2 := sb.2.mp d
          refine sr_284 R.1 A haz hz (by omega) (by omega) (sg_288_75 (sr_284 R.1 A haz hz (by omega) (by omega) (sg_288_82 (fun f => ?_) (fun f => ?_))))
          · rw [in_lt (by omega) (by omega)] at f
            exact no (by omega) _
          · rw [in_lt (by omega) (by omega)] at f
            exact yes (by omega) _
        · have c2 : ¬ _ := fun q => c (sb.1.mpr q)
          have d2 : ¬ _ := fun q => d (sb.2.mpr q)
          exact no (by omega) _
    exact hl 39 0 _ (by omega)
  · have h9 := h M1 q1
    rw [g1] at h9
    exact h9
end P62
