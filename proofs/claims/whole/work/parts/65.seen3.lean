/-! seen: the reference -/
section S65
variable {M : px_Mem} {Q : px_Po} {y : iv_Y} {law : Nat}
theorem sr_289v (hy : iv_yok y) (hl : law ≤ 3) {x1 : Int32} (hx : x1 = -1 ∨ ∃ e, e < iv_n y ∧ x1 = nI e) (L : rf_L (iv_n y) law (iv_ev y) (fun _ => false) M) (h : ∀ M', rq M M' → (∀ i, 40 ≤ i → M'.1 56 i = M.1 56 i) → rf_L (iv_n y) law (iv_ev y) (fun _ => false) M' → rf_A (iv_n y) law (iv_ev y) (tr_k x1) M' → Q none M') : px_T 0 289 0 [some (.ref 56), some (.int x1)] [] M Q := by
  have hn := iv_yn hy
  rcases hx with rfl | ⟨e, he, rfl⟩
  · refine sg_289_0 (fun _ => ?_) (fun c => absurd rfl c) (fun c => absurd rfl c)
    refine sr_223 L (by omega) hl (fun e he => hy.2.2.2.2.2 e he) (fun M1 k1 A1 => ?_)
    exact sg_289_16 (fun _ => h M1 (rq_g k1) (fun i hi => k1.2.2 i (by omega) (by omega) (by omega)) (rf_L_gq L k1) (rf_A_cong A1 (fun e he => (tr_km (by omega)).symm))) (fun c => absurd rfl c) (fun c => absurd rfl c)
  · have hnm : ¬ nI e = -1 := in_nm (by omega)
    refine sg_289_0 (fun c => absurd c hnm) (fun _ => me_vin (by omega) (by omega)) (fun _ => ?_)
    rw [in_cl (by omega)]
    have L1 : rf_L (iv_n y) law (iv_ev y) (tr_k (nI e)) (px_wI M 67 e (vp_nar .boolean 1)) := by
      obtain ⟨l1, l2, l3⟩ := L
      refine ⟨?_, ?_, fun i hi => ?_⟩
      · simp (disch := omega) only [me_II, me_Ii, me_Io, me_I2, me_L1, me_Li, me_LL, me_Lo, me_As, me_Ao, me_A2, me_Bs, me_Bo, me_B1]; exact l1
      · simp (disch := omega) only [me_II, me_Ii, me_Io, me_I2, me_L1, me_Li, me_LL, me_Lo, me_As, me_Ao, me_A2, me_Bs, me_Bo, me_B1]; exact l2
      · obtain ⟨a1, a2, a3, a4, a5⟩ := l3 i hi
        refine ⟨?_, ?_, ?_, ?_, ?_⟩
        · simp (disch := omega) only [me_II, me_Ii, me_Io, me_I2, me_L1, me_Li, me_LL, me_Lo, me_As, me_Ao, me_A2, me_Bs, me_Bo, me_B1]; exact a1
        · simp (disch := omega) only [me_II, me_Ii, me_Io, me_I2, me_L1, me_Li, me_LL, me_Lo, me_As, me_Ao, me_A2, me_Bs, me_Bo, me_B1]; exact a2
        · simp (disch := omega) only [me_II, me_Ii, me_Io, me_I2, me_L1, me_Li, me_LL, me_Lo, me_As, me_Ao, me_A2, me_Bs, me_Bo, me_B1]; exact a3
        · simp (disch := omega) only [me_II, me_Ii, me_Io, me_I2, me_L1, me_Li, me_LL, me_Lo, me_As, me_Ao, me_A2, me_Bs, me_Bo, me_B1]; exact a4
        · rw [tr_kn (by omega) (by omega)]
          by_cases hie : i = e
          · subst hie
            rw [me_II, decide_eq_true rfl]
            rfl
          · rw [me_Ii hie, decide_eq_false hie]
            exact a5
    refine sr_223 L1 (by omega) hl (fun e he => hy.2.2.2.2.2 e he) (fun M1 k1 A1 => ?_)
    refine sg_289_16 (fun c => absurd c hnm) (fun _ => me_vin (by omega) (by omega)) (fun _ => ?_)
    rw [in_cl (by omega)]
    have L2 := rf_L_gq L1 k1
    refine h _ (rq_I (rq_tr (rq_I rq_rf (by omega) (by omega)) (rq_g k1)) (by omega) (by omega)) (fun i hi => by rw [me_Io (by omega), k1.2.2 i (by omega) (by omega) (by omega), me_Io (by omega)]) ?_ ?_
    · obtain ⟨l1, l2, l3⟩ := L2
      refine ⟨?_, ?_, fun i hi => ?_⟩
      · simp (disch := omega) only [me_II, me_Ii, me_Io, me_I2, me_L1, me_Li, me_LL, me_Lo, me_As, me_Ao, me_A2, me_Bs, me_Bo, me_B1]; exact l1
      · simp (disch := omega) only [me_II, me_Ii, me_Io, me_I2, me_L1, me_Li, me_LL, me_Lo, me_As, me_Ao, me_A2, me_Bs, me_Bo, me_B1]; exact l2
      · obtain ⟨a1, a2, a3, a4, a5⟩ := l3 i hi
        refine ⟨?_, ?_, ?_, ?_, ?_⟩
        · simp (disch := omega) only [me_II, me_Ii, me_Io, me_I2, me_L1, me_Li, me_LL, me_Lo, me_As, me_Ao, me_A2, me_Bs, me_Bo, me_B1]; exact a1
        · simp (disch := omega) only [me_II, me_Ii, me_Io, me_I2, me_L1, me_Li, me_LL, me_Lo, me_As, me_Ao, me_A2, me_Bs, me_Bo, me_B1]; exact a2
        · simp (disch := omega) only [me_II, me_Ii, me_Io, me_I2, me_L1, me_Li, me_LL, me_Lo, me_As, me_Ao, me_A2, me_Bs, me_Bo, me_B1]; exact a3
        · simp (disch := omega) only [me_II, me_Ii, me_Io, me_I2, me_L1, me_Li, me_LL, me_Lo, me_As, me_Ao, me_A2, me_Bs, me_Bo, me_B1]; exact a4
        · rw [tr_kn (by omega) (by omega)] at a5
          by_cases hie : i = e
          · subst hie
            rw [me_II]
            rfl
          · rw [me_Ii hie, a5, decide_eq_false hie]
    · refine ⟨fun t ht => rt_at_fr (A1.1 t ht) (fun a h1 h2 => by simp (disch := omega) only [me_II, me_Ii, me_Io, me_I2, me_L1, me_Li, me_LL, me_Lo, me_As, me_Ao, me_A2, me_Bs, me_Bo, me_B1]), fun i hi => re_at_fr (A1.2.1 i hi) (fun a h1 h2 => by rw [me_Io (by omega)]), fun x hx => ?_⟩
      rw [me_Io (by omega)]
      exact A1.2.2 x hx
theorem sr_183L (R : ir y M) {x : Int64} (h : Q (some (.int (in_b (decide (iv_ln y ≠ 0) && decide (0 ≤ x.toInt ∧ x.toInt ≤ iv_n y))))) M) : px_T 0 183 0 [some (.ref 56), some (.long x), none] [] M Q := by
  have hn := iv_yn R.1
  refine sg_183_0 (sr_180 R ?_)
  refine sg_183_4 (fun c => ?_) (fun c => ?_)
  · rw [in_b0] at c
    rw [c] at h
    exact h
  · rw [in_b0, Bool.not_eq_false] at c
    refine sr_181 R ?_
    refine sg_183_13 ?_
    rw [nI_l (by omega)]
    refine sr_175 ?_
    have e : decide ((0 : Int64) ≤ x ∧ x ≤ lN (iv_n y)) = decide (0 ≤ x.toInt ∧ x.toInt ≤ iv_n y) := by
      refine decide_eq_decide.mpr ?_
      rw [fa_le64, fa_le64, lN_toInt (by omega)]
      exact Iff.rfl
    rw [e]
    rw [c, Bool.true_and] at h
    refine sg_183_17 (fun d => ?_) (fun d => ?_)
    · rw [in_b0] at d
      rw [d] at h
      exact h
    · rw [in_b0, Bool.not_eq_false] at d
      rw [d] at h
      exact h
theorem sr_184L {x : Int64} (h : Q (some (.int (in_b (decide (1 ≤ x.toInt ∧ x.toInt ≤ 15))))) M) : px_T 0 184 0 [some (.long x), none] [] M Q := by
  refine sg_184_0 (sr_175 (sg_184_8 (in_b01 _) ?_))
  have e : decide ((1 : Int64) ≤ x ∧ x ≤ 15) = decide (1 ≤ x.toInt ∧ x.toInt ≤ 15) := by
    refine decide_eq_decide.mpr ?_
    rw [fa_le64, fa_le64]
    exact Iff.rfl
  rw [e]
  exact h
theorem sr_293 {k i n : Nat} {f : Nat → Int64} (hk : k < 4) (hi : i < 60) (hf : ∀ i, i < 60 → M.2 90 (60 * k + i) = f i) (h : Q (some (.long (f i))) M) : px_T 0 293 0 [some (.ref 56), some (.int (nI k)), some (.int (nI i))] [] M Q := by
  have e : (60 : Int32) * nI k + nI i = nI (60 * k + i) := by rw [il_60, in_mul, in_add]
  refine sg_293_0 (by rw [e]; exact me_vin (by omega) (by omega)) ?_
  rw [e, in_cl (by omega), hf i hi]
  exact h
theorem sr_295 (hy : iv_yok y) {sk : Nat → Bool} (A : rf_A (iv_n y) law (iv_ev y) sk M) {k n : Nat} {f : Nat → Int64} (hk : k < 4) (hn60 : n ≤ 60) (h88 : M.1 88 k = nI n) (hf : ∀ i, i < 60 → M.2 90 (60 * k + i) = f i) (hok : sn_ok y n f = true) (h : Q (some (.int (in_b (sn_v y law sk n f)))) M) : px_T 0 295 0 [some (.ref 56), some (.int (nI k)), none] [] M Q := by
  have hn := iv_yn hy
  unfold sn_ok at hok
  rw [Bool.and_eq_true] at hok
  have h3 := of_decide_eq_true hok.1
  have hal := alB_t.mp hok.2
  refine sg_295_0 ?_
  have hl : ∀ (j m : Nat), m + j = n / 3 → alB (fun i => sn_h y law sk (sn_t f i)) m = true → px_T 0 295 2 [some (.ref 56), some (.int (nI k)), some (.int (nI (3 * m)))] [] M Q := by
    intro j
    induction j with
    | zero =>
      intro m hm ha
      have e1 : m = n / 3 := by omega
      subst e1
      have hle : M.1 88 (nI k).toNatClampNeg ≤ nI (3 * (n / 3)) := by rw [in_cl (by omega), h88, in_le (by omega) (by omega)]; omega
      refine sg_295_2 (me_vin (by omega) (by omega)) (fun _ => ?_) (fun c => absurd hle c)
      have ha2 : sn_v y law sk n f = true := ha
      rw [ha2] at h
      exact h
    | succ j ih =>
      intro m hm ha
      have hd := hal m (by omega)
      unfold sn_d at hd
      rw [Bool.and_eq_true, Bool.and_eq_true] at hd
      have d1 := of_decide_eq_true hd.1
      have d2 := of_decide_eq_true hd.2.1
      have d3 := of_decide_eq_true hd.2.2
      have hle : ¬ M.1 88 (nI k).toNatClampNeg ≤ nI (3 * m) := by rw [in_cl (by omega), h88, in_le (by omega) (by omega)]; omega
      refine sg_295_2 (me_vin (by omega) (by omega)) (fun c => absurd c hle) (fun _ => ?_)
      rw [in_a1]
      refine sr_293 (n := n) hk (by omega) hf (sg_295_21 (sr_293 (n := n) hk (by omega) hf (sg_295_28 ?_)))
      rw [l_nI (x := f (3 * m)) (b := 70) (by omega) (by omega) (by omega), l_nI (x := f (3 * m + 1)) (b := 15) (by omega) (by omega) (by omega)]
      refine sr_228 (A.1 _ (by omega)) (trW hy (by omega)).1.1 (by omega) (by omega) (sg_295_32 ?_)
      rw [show nI (3 * m) + 2 = nI (3 * m + 2) by rw [il_2, in_add]]
      refine sr_293 (n := n) hk (by omega) hf ?_
      have e5 : sn_h y law sk (sn_t f m) = decide (vl_pa (ws_run law (iv_ev y) sk (f (3 * m)).toInt.toNat) (f (3 * m + 1)).toInt.toNat = (f (3 * m + 2)).toInt32) := rfl
      have e6 : ∀ v : Int32, v.toInt64 = f (3 * m + 2) ↔ v = (f (3 * m + 2)).toInt32 := by
        intro v
        have h7 := l_i32 (x := f (3 * m + 2)) d3.1 d3.2 (by omega) (by omega)
        rw [← Int64.toInt_inj, ← Int32.toInt_inj, Int32.toInt_toInt64, h7]
      refine sg_295_41 (fun c => ?_) (fun c => ?_)
      · rw [lg_cmp_eq, e6] at c
        rw [show nI (3 * m) + 3 = nI (3 * (m + 1)) by rw [il_3, in_add]; rfl]
        refine ih (m + 1) (by omega) ?_
        rw [alB_s, ha, e5, decide_eq_true c]
        rfl
      · rw [lg_cmp_eq, e6] at c
        have e7 : sn_v y law sk n f = false := alB_f (show m < n / 3 by omega) (by rw [e5]; exact decide_eq_false c)
        rw [e7] at h
        exact h
  exact hl (n / 3) 0 (by omega) rfl
theorem sr_294 (R : ir y M) {x : Int32} {b : Bool} {n : Nat} {f : Nat → Int64} (hw : rg x 0 3 = true → rwr x.toNatClampNeg b n f M) (h : ∀ M', rq M M' → (sn_l y b n f x = 0 → ∃ k, x = nI k ∧ k < 4 ∧ n ≤ 60 ∧ M.1 88 k = nI n ∧ (∀ i, i < 60 → M.2 90 (60 * k + i) = f i) ∧ sn_ok y n f = true ∧ rl y M') → Q (some (.int (sn_l y b n f x))) M') : px_T 0 294 0 [some (.ref 56), some (.int x), none] [] M Q := by
  have hny := iv_yn R.1
  have bad : (rg x 0 3 = false ∨ decide (iv_ln y ≠ 0) = false) → Q (some (.int (-2))) M := by
    intro hb
    have e : sn_l y b n f x = -2 := by
      unfold sn_l
      rw [if_neg]
      rcases hb with q | q
      · rw [q]; simp
      · rw [q]; simp
    have h9 := h M rq_rf
    rw [e] at h9
    exact h9 (fun q => absurd q (by decide))
  refine sg_294_0 (sr_327 (sg_294_4 (fun c => bad (Or.inl ((in_b0 _).mp c))) (fun c => sr_180 R (sg_294_11 (fun d => bad (Or.inr ((in_b0 _).mp d))) (fun d => ?_) (fun d e => ?_) (fun d e g => ?_) (fun d e g => ?_)))))
  · rw [in_b0, Bool.not_eq_false] at c
    obtain ⟨k, ek, k1, k2⟩ := rg_of c (by omega) (by omega)
    subst ek
    exact me_vin (by omega) (by omega)
  all_goals rw [in_b0, Bool.not_eq_false] at c d
  all_goals
    have el : sn_l y b n f x = if b = true then (if sn_ok y n f = true then 0 else -2) else -6 := by
      unfold sn_l
      rw [c, d, if_pos (by decide)]
  all_goals rw [el] at h
  all_goals obtain ⟨n60, hw3⟩ := hw c
  all_goals obtain ⟨k, ek, k1, k2⟩ := rg_of c (by omega) (by omega)
  all_goals subst ek
  all_goals rw [in_cl (by omega)] at hw3 e
  · rcases hw3 with ⟨b0, w0⟩ | ⟨b1, w1, w2⟩
    · rw [b0, if_neg (by decide)] at h
      exact h M rq_rf (fun q => absurd q (by decide))
    · rw [w1] at e
      exact absurd e (in_nm (by omega))
  · rcases hw3 with ⟨b0, w0⟩ | ⟨b1, w1, w2⟩
    · exact absurd w0 e
    · rw [b1, if_pos rfl] at h
      rw [in_cl (by omega), w1, show nI n - nI n / 3 * 3 = nI (n % 3) from pk_rem (d := 3) (by omega) (by omega) (by omega)] at g
      simp (disch := omega) only [in_lt, in_le, in_eq, in_add, in_mul, in_sb, in_cl, in_bz, in_bo, in_mo, not_true_eq_false, not_false_eq_true, il_0, il_1, il_2, il_3, il_4, il_5, il_6, il_7, il_8, il_9, il_10, il_11, il_12, il_13, il_14, il_15, il_16, il_31] at g
      have hl : ∀ (j m : Nat), m + j = n / 3 → alB (sn_d y f) m = true → px_T 0 294 46 [some (.ref 56), some (.int (nI k)), some (.int (nI (3 * m)))] [] M Q := by
        intro j
        induction j with
        | zero =>
          intro m hm ha
          have e1 : m = n / 3 := by omega
          subst e1
          have hle : M.1 88 (nI k).toNatClampNeg ≤ nI (3 * (n / 3)) := by rw [in_cl (by omega), w1, in_le (by omega) (by omega)]; omega
          refine sg_294_46 (me_vin (by omega) (by omega)) (fun _ => ?_) (fun c => absurd hle c)
          have hok : sn_ok y n f = true := by unfold sn_ok; rw [decide_eq_true g, ha]; rfl
          rw [if_pos hok] at h
          refine sr_209 R (fun M1 k1 L1 => sg_294_116 (h M1 (rq_l k1) (fun _ => ⟨k, rfl, by omega, n60, w1, w2, hok, L1⟩)))
        | succ j ih =>
          intro m hm ha
          have hle : ¬ M.1 88 (nI k).toNatClampNeg ≤ nI (3 * m) := by rw [in_cl (by omega), w1, in_le (by omega) (by omega)]; omega
          have bad2 : sn_d y f m = false → Q (some (.int (-2))) M := by
            intro hb
            have hok : sn_ok y n f = false := by unfold sn_ok; rw [alB_f (show m < n / 3 by omega) hb, Bool.and_false]
            have h9 := h M rq_rf
            rw [if_neg (by rw [hok]; decide)] at h9
            exact h9 (fun q => absurd q (by decide))
          refine sg_294_46 (me_vin (by omega) (by omega)) (fun c => absurd c hle) (fun _ => ?_)
          refine sr_293 (n := n) (by omega) (by omega) w2 (sg_294_63 (sr_183L R (sg_294_66 (fun c => bad2 ?_) (fun c1 => ?_))))
          · rw [in_b0, d, Bool.true_and] at c
            unfold sn_d
            rw [c]
            rfl
          · rw [in_b0, Bool.not_eq_false, d, Bool.true_and] at c1
            rw [in_a1]
            refine sr_293 (n := n) (by omega) (by omega) w2 (sg_294_77 (sr_184L (sg_294_80 (fun c => bad2 ?_) (fun c2 => ?_))))
            · rw [in_b0] at c
              unfold sn_d
              rw [c, Bool.false_and, Bool.and_false]
            · rw [in_b0, Bool.not_eq_false] at c2
              rw [show nI (3 * m) + 2 = nI (3 * m + 2) by rw [il_2, in_add]]
              have e9 : decide ((-1 : Int64) ≤ f (3 * m + 2) ∧ f (3 * m + 2) ≤ 15) = decide (-1 ≤ (f (3 * m + 2)).toInt ∧ (f (3 * m + 2)).toInt ≤ 15) := by
                refine decide_eq_decide.mpr ?_
                rw [fa_le64, fa_le64]
                exact Iff.rfl
              refine sr_293 (n := n) (by omega) (by omega) w2 (sg_294_91 (sr_175 (sg_294_100 (fun c => bad2 ?_) (fun c3 => ?_))))
              · rw [e9, in_b0] at c
                unfold sn_d
                rw [c, Bool.and_false, Bool.and_false]
              · rw [e9, in_b0, Bool.not_eq_false] at c3
                rw [show nI (3 * m) + 3 = nI (3 * (m + 1)) by rw [il_3, in_add]; rfl]
                refine ih (m + 1) (by omega) ?_
                rw [alB_s, ha]
                unfold sn_d
                rw [c1, c2, c3]
                rfl
      exact hl (n / 3) 0 (by omega) rfl
  · rcases hw3 with ⟨b0, w0⟩ | ⟨b1, w1, w2⟩
    · exact absurd w0 e
    · rw [b1, if_pos rfl] at h
      rw [in_cl (by omega), w1, show nI n - nI n / 3 * 3 = nI (n % 3) from pk_rem (d := 3) (by omega) (by omega) (by omega)] at g
      simp (disch := omega) only [in_lt, in_le, in_eq, in_add, in_mul, in_sb, in_cl, in_bz, in_bo, in_mo, not_true_eq_false, not_false_eq_true, il_0, il_1, il_2, il_3, il_4, il_5, il_6, il_7, il_8, il_9, il_10, il_11, il_12, il_13, il_14, il_15, il_16, il_31] at g
      have hok : sn_ok y n f = false := by unfold sn_ok; rw [decide_eq_false g]; rfl
      have h9 := h M rq_rf
      rw [if_neg (by rw [hok]; decide)] at h9
      exact h9 (fun q => absurd q (by decide))
theorem ft_no {f : Nat → Bool} : ∀ {n t : Nat}, (∀ i, i < n → f (t + i) = false) → vl_ft f n t = -1
  | 0, t, _ => rfl
  | n + 1, t, h => by
    have h0 := h 0 (by omega)
    rw [Nat.add_zero] at h0
    show (if f t = true then nI t else vl_ft f n (t + 1)) = -1
    rw [h0, if_neg (by decide)]
    exact ft_no (fun i hi => by rw [show t + 1 + i = t + (i + 1) by omega]; exact h (i + 1) (by omega))
theorem ft_old {f : Nat → Bool} : ∀ {n t : Nat}, (∃ i, i < n ∧ f (t + i) = true) → vl_ft f (n + 1) t = vl_ft f n t
  | 0, t, h => by obtain ⟨i, hi, _⟩ := h; omega
  | n + 1, t, h => by
    show (if f t = true then nI t else vl_ft f (n + 1) (t + 1)) = (if f t = true then nI t else vl_ft f n (t + 1))
    by_cases c : f t = true
    · rw [if_pos c, if_pos c]
    · rw [if_neg c, if_neg c]
      refine ft_old ?_
      obtain ⟨i, hi, hf⟩ := h
      cases i with
      | zero => exact absurd hf c
      | succ i => exact ⟨i, by omega, by rw [show t + 1 + i = t + (i + 1) by omega]; exact hf⟩
theorem ft_new {f : Nat → Bool} : ∀ {n t : Nat}, (∀ i, i < n → f (t + i) = false) → f (t + n) = true → vl_ft f (n + 1) t = nI (t + n)
  | 0, t, _, h => by
    show (if f t = true then nI t else -1) = nI (t + 0)
    rw [if_pos (show f t = true from h), Nat.add_zero]
  | n + 1, t, h, h2 => by
    have h0 := h 0 (by omega)
    rw [Nat.add_zero] at h0
    show (if f t = true then nI t else vl_ft f (n + 1) (t + 1)) = _
    rw [h0, if_neg (by decide), ft_new (n := n) (t := t + 1) (fun i hi => by rw [show t + 1 + i = t + (i + 1) by omega]; exact h (i + 1) (by omega)) (by rw [show t + 1 + n = t + (n + 1) by omega]; exact h2)]
    congr 1
    omega
theorem ft_nn {f : Nat → Bool} {n : Nat} (h : f n = false) : vl_ft f (n + 1) 0 = vl_ft f n 0 := by
  by_cases c : ∃ i, i < n ∧ f (0 + i) = true
  · exact ft_old c
  · have h1 : ∀ i, i < n → f (0 + i) = false := fun i hi => by
      cases e : f (0 + i) with
      | false => rfl
      | true => exact absurd ⟨i, hi, e⟩ c
    rw [ft_no h1]
    refine ft_no (fun i hi => ?_)
    by_cases e : i = n
    · rw [e, Nat.zero_add]; exact h
    · exact h1 i (by omega)
theorem rf_L_F {n : Nat} {ev : Nat → ws_E} {lf : Nat → Bool} {i : Nat} {x : Int32} (L : rf_L n law ev lf M) (hi : 22 ≤ i) : rf_L n law ev lf (px_wI M 56 i x) := by
  obtain ⟨l1, l2, l3⟩ := L
  refine ⟨?_, ?_, ?_⟩
  · rw [me_Ii (by omega)]; exact l1
  · rw [me_Ii (by omega)]; exact l2
  · simp (disch := omega) only [me_Io]
    exact l3
theorem sr_296 (R : ir y M) {x : Int32} {b : Bool} {n : Nat} {f : Nat → Int64} (hw : rg x 0 3 = true → rwr x.toNatClampNeg b n f M) (h : ∀ M', rq M M' → (sn_l y b n f x = 0 → M'.1 56 47 = nI (fb_ct (fun e => sn_v y (iv_lw y) (tr_k (nI e)) n f) (iv_td y)) ∧ M'.1 56 48 = vl_ft (fun e => sn_v y (iv_lw y) (tr_k (nI e)) n f) (iv_td y) 0 ∧ M'.1 56 49 = in_b (sn_v y (iv_lw y) (tr_k (-1)) n f)) → Q (some (.int (sn_l y b n f x))) M') : px_T 0 296 0 [some (.ref 56), some (.int x), none, none] [] M Q := by
  have hny := iv_yn R.1
  refine sg_296_0 (sr_294 R hw (fun M1 q1 hk => ?_))
  have hsl : sn_l y b n f x = 0 ∨ sn_l y b n f x = -2 ∨ sn_l y b n f x = -6 := by
    unfold sn_l
    split
    · split
      · split
        · exact Or.inl rfl
        · exact Or.inr (Or.inl rfl)
      · exact Or.inr (Or.inr rfl)
    · exact Or.inr (Or.inl rfl)
  refine sg_296_5 (fun c => ?_) (fun c => ?_)
  · have e0 : sn_l y b n f x = 0 := by
      rcases hsl with e | e | e
      · exact e
      · rw [e] at c; exact absurd c (by decide)
      · rw [e] at c; exact absurd c (by decide)
    obtain ⟨k, ek, k4, n60, w1, w2, hok, L1⟩ := hk e0
    subst ek
    have pn : ∀ i, (fun e => sn_v y (iv_lw y) (tr_k (nI e)) n f) i = sn_v y (iv_lw y) (tr_k (nI i)) n f := fun _ => rfl
    generalize hp : (fun e => sn_v y (iv_lw y) (tr_k (nI e)) n f) = p at h pn
    have hl : ∀ (j e : Nat) (N : px_Mem), e + j = iv_td y → rq M N → rl y N → N.1 56 47 = nI (fb_ct p e) → N.1 56 48 = vl_ft p e 0 → px_T 0 296 24 [some (.ref 56), some (.int (nI k)), some (.int (sn_l y b n f (nI k))), some (.int (nI e))] [] N Q := by
      intro j
      induction j with
      | zero =>
        intro e N he q L f47 f48
        have R1 := ir_rq R q
        have f2 : N.1 57 2 = nI (iv_td y) := R1.2.2.2.1
        have hb := R1.1.2.2.1
        have e1 : e = iv_td y := by omega
        subst e1
        refine sg_296_24 (fun c1 => ?_) (fun c1 => by exfalso; (try simp (disch := omega) only [in_lt, in_le, in_eq, in_add, in_mul, in_sb, in_cl, in_bz, in_bo, in_mo, not_true_eq_false, not_false_eq_true, il_0, il_1, il_2, il_3, il_4, il_5, il_6, il_7, il_8, il_9, il_10, il_11, il_12, il_13, il_14, il_15, il_16, il_31, f2] at c1) <;> omega)
        refine sr_289v R.1 R.1.1 (Or.inl rfl) L (fun M2 q2 v2 L2 A2 => sg_296_83 ?_)
        have qq := rq_tr q q2
        refine sr_295 R.1 A2 k4 n60 (by rw [qq.1 88 (by omega) (by omega)]; exact w1) (by rw [qq.2.1 90 (by omega)]; exact w2) hok ?_
        have g47 : M2.1 56 47 = nI (fb_ct p (iv_td y)) := by rw [v2 47 (by omega)]; exact f47
        have g48 : M2.1 56 48 = vl_ft p (iv_td y) 0 := by rw [v2 48 (by omega)]; exact f48
        refine sg_296_89 (fun d => ?_) (fun d => ?_)
        · rw [in_b0] at d
          have h9 := h (px_wI M2 56 49 0) (rq_F qq (by omega)) (fun _ => ⟨by rw [me_Ii (by omega)]; exact g47, by rw [me_Ii (by omega)]; exact g48, by rw [me_II, d]; rfl⟩)
          rw [e0] at h9
          exact h9
        · rw [in_b0, Bool.not_eq_false] at d
          have h9 := h (px_wI M2 56 49 1) (rq_F qq (by omega)) (fun _ => ⟨by rw [me_Ii (by omega)]; exact g47, by rw [me_Ii (by omega)]; exact g48, by rw [me_II, d]; rfl⟩)
          rw [e0] at h9
          exact h9
      | succ j ih =>
        intro e N he q L f47 f48
        have R1 := ir_rq R q
        have f2 : N.1 57 2 = nI (iv_td y) := R1.2.2.2.1
        have hb := R1.1.2.2.1
        have hen : e < iv_n y := by unfold iv_n; omega
        refine sg_296_24 (fun c1 => by exfalso; (try simp (disch := omega) only [in_lt, in_le, in_eq, in_add, in_mul, in_sb, in_cl, in_bz, in_bo, in_mo, not_true_eq_false, not_false_eq_true, il_0, il_1, il_2, il_3, il_4, il_5, il_6, il_7, il_8, il_9, il_10, il_11, il_12, il_13, il_14, il_15, il_16, il_31, f2] at c1) <;> omega) (fun c1 => ?_)
        refine sr_289v R.1 R.1.1 (Or.inr ⟨e, hen, rfl⟩) L (fun M2 q2 v2 L2 A2 => sg_296_39 ?_)
        have qq := rq_tr q q2
        refine sr_295 R.1 A2 k4 n60 (by rw [qq.1 88 (by omega) (by omega)]; exact w1) (by rw [qq.2.1 90 (by omega)]; exact w2) hok ?_
        have g47 : M2.1 56 47 = nI (fb_ct p e) := by rw [v2 47 (by omega)]; exact f47
        have g48 : M2.1 56 48 = vl_ft p e 0 := by rw [v2 48 (by omega)]; exact f48
        have hct := fb_ct_le p e
        rw [← pn e]
        refine sg_296_44 (fun d => ?_) (fun d g => ?_) (fun d g => ?_)
        · rw [in_b0] at d
          rw [in_a1]
          refine ih (e + 1) M2 (by omega) qq L2 ?_ ?_
          · rw [ct_n d]; exact g47
          · rw [ft_nn d]; exact g48
        · rw [in_b0, Bool.not_eq_false] at d
          rw [g47, show (0 : Int32) = nI 0 from rfl, in_eq (by omega) (by omega)] at g
          rw [g47, in_a1, in_a1]
          refine ih (e + 1) _ (by omega) (rq_F (rq_F qq (by omega)) (by omega)) (rf_L_F (rf_L_F L2 (by omega)) (by omega)) ?_ ?_
          · rw [me_II, ct_y d]
          · rw [me_Ii (by omega), me_II, ft_new (fun i hi => by rw [Nat.zero_add]; exact fb_ct_zero.mp g i hi) (by rw [Nat.zero_add]; exact d), Nat.zero_add]
        · rw [in_b0, Bool.not_eq_false] at d
          rw [g47, show (0 : Int32) = nI 0 from rfl, in_eq (by omega) (by omega)] at g
          rw [g47, in_a1, in_a1]
          refine ih (e + 1) _ (by omega) (rq_F qq (by omega)) (rf_L_F L2 (by omega)) ?_ ?_
          · rw [me_II, ct_y d]
          · obtain ⟨i, hi, hpi⟩ := fb_ct_pos.mp (Nat.pos_of_ne_zero g)
            rw [me_Ii (by omega), ft_old ⟨i, hi, by rw [Nat.zero_add]; exact hpi⟩]
            exact g48
    refine hl (iv_td y) 0 _ (by omega) (rq_F (rq_F q1 (by omega)) (by omega)) (rf_L_F (rf_L_F L1 (by omega)) (by omega)) ?_ ?_
    · rw [me_Ii (by omega), me_II]; rfl
    · rw [me_II]; rfl
  · refine h M1 q1 (fun q => ?_)
    rw [q] at c
    exact absurd (by decide) c
theorem sn_l3 {b : Bool} {n : Nat} {f : Nat → Int64} {x : Int32} : (0 ≤ sn_l y b n f x) ↔ sn_l y b n f x = 0 := by
  unfold sn_l
  split
  · split
    · split
      · decide
      · decide
    · decide
  · decide
theorem sr_297 (R : ir y M) {x : Int32} {b : Bool} {n : Nat} {f : Nat → Int64} (hw : rg x 0 3 = true → rwr x.toNatClampNeg b n f M) (h : ∀ M', rq M M' → Q (some (.int (an_128 y b n f x))) M') : px_T 0 297 0 [some (.ref 56), some (.int x), none] [] M Q := by
  unfold an_128 at h
  refine sg_297_0 (sr_296 R hw (fun M1 q1 hv => sg_297_5 (fun c => ?_) (fun c => ?_)))
  · have c2 := sn_l3.mp c
    rw [if_pos c2] at h
    rw [(hv c2).1]
    exact h M1 q1
  · rw [if_neg (fun q => c (sn_l3.mpr q))] at h
    exact h M1 q1
theorem sr_298 (R : ir y M) {x : Int32} {b : Bool} {n : Nat} {f : Nat → Int64} (hw : rg x 0 3 = true → rwr x.toNatClampNeg b n f M) (h : ∀ M', rq M M' → Q (some (.int (an_129 y b n f x))) M') : px_T 0 298 0 [some (.ref 56), some (.int x), none] [] M Q := by
  unfold an_129 at h
  refine sg_298_0 (sr_296 R hw (fun M1 q1 hv => sg_298_5 (fun c => ?_) (fun c => ?_)))
  · have c2 := sn_l3.mp c
    rw [if_pos c2] at h
    rw [(hv c2).2.1]
    exact h M1 q1
  · rw [if_neg (fun q => c (sn_l3.mpr q))] at h
    exact h M1 q1
theorem sr_299 (R : ir y M) {x : Int32} {b : Bool} {n : Nat} {f : Nat → Int64} (hw : rg x 0 3 = true → rwr x.toNatClampNeg b n f M) (h : ∀ M', rq M M' → Q (some (.int (an_130 y b n f x))) M') : px_T 0 299 0 [some (.ref 56), some (.int x), none] [] M Q := by
  unfold an_130 at h
  refine sg_299_0 (sr_296 R hw (fun M1 q1 hv => sg_299_5 (fun c => ?_) (fun c => ?_)))
  · have c2 := sn_l3.mp c
    rw [if_pos c2] at h
    rw [(hv c2).2.2]
    exact h M1 q1
  · rw [if_neg (fun q => c (sn_l3.mpr q))] at h
    exact h M1 q1
theorem rf_L_21 {n l2 : Nat} {ev : Nat → ws_E} {lf : Nat → Bool} (L : rf_L n law ev lf M) : rf_L n l2 ev lf (px_wI M 56 21 (nI l2)) := by
  obtain ⟨l1, _, l3⟩ := L
  refine ⟨?_, ?_, ?_⟩
  · rw [me_Ii (by omega)]; exact l1
  · rw [me_II]
  · simp (disch := omega) only [me_Io]
    exact l3
theorem sr_300 (R : ir y M) {x : Int32} {b : Bool} {n : Nat} {f : Nat → Int64} (hw : rg x 0 3 = true → rwr x.toNatClampNeg b n f M) (h : ∀ M', rq M M' → Q (some (.int (an_131 y b n f x))) M') : px_T 0 300 0 [some (.ref 56), some (.int x), none, none] [] M Q := by
  unfold an_131 at h
  have hny := iv_yn R.1
  refine sg_300_0 (sr_294 R hw (fun M1 q1 hv => sg_300_5 (fun c => ?_) (fun c => ?_)))
  · have c2 := sn_l3.mp c
    rw [if_pos c2] at h
    obtain ⟨k, ek, k4, n60, w1, w2, hok, L1⟩ := hv c2
    subst ek
    have hl : ∀ (j l : Nat) (N : px_Mem), l + j = 4 → rq M N → rf_L (iv_n y) l (iv_ev y) (fun _ => false) N → px_T 0 300 19 [some (.ref 56), some (.int (nI k)), some (.int (sn_l y b n f (nI k))), some (.int (nI (bs (fun l => sn_v y l (tr_k (-1)) n f) l)))] [] N Q := by
      intro j
      induction j with
      | zero =>
        intro l N hl q L
        have f21 : N.1 56 21 = nI l := L.2.1
        have e1 : l = 4 := by omega
        subst e1
        refine sg_300_19 (fun c1 => ?_) (fun c1 => by exfalso; (try simp (disch := omega) only [in_lt, in_le, in_eq, in_add, in_mul, in_sb, in_cl, in_bz, in_bo, in_mo, not_true_eq_false, not_false_eq_true, il_0, il_1, il_2, il_3, il_4, il_5, il_6, il_7, il_8, il_9, il_10, il_11, il_12, il_13, il_14, il_15, il_16, il_31, f21] at c1) <;> omega)
        exact h N q
      | succ j ih =>
        intro l N hl q L
        have f21 : N.1 56 21 = nI l := L.2.1
        refine sg_300_19 (fun c1 => by exfalso; (try simp (disch := omega) only [in_lt, in_le, in_eq, in_add, in_mul, in_sb, in_cl, in_bz, in_bo, in_mo, not_true_eq_false, not_false_eq_true, il_0, il_1, il_2, il_3, il_4, il_5, il_6, il_7, il_8, il_9, il_10, il_11, il_12, il_13, il_14, il_15, il_16, il_31, f21] at c1) <;> omega) (fun c1 => ?_)
        refine sr_223 L (by omega) (by omega) (fun e he => R.1.2.2.2.2.2 e he) (fun M2 k2 A2 => sg_300_31 ?_)
        have L2 := rf_L_gq L k2
        have g21 : M2.1 56 21 = nI l := L2.2.1
        have qq := rq_tr q (rq_g k2)
        have A3 : rf_A (iv_n y) l (iv_ev y) (tr_k (-1)) M2 := rf_A_cong A2 (fun e he => (tr_km (by omega)).symm)
        refine sr_295 R.1 A3 k4 n60 (by rw [qq.1 88 (by omega) (by omega)]; exact w1) (by rw [qq.2.1 90 (by omega)]; exact w2) hok ?_
        refine sg_300_37 (fun d => ?_) (fun d => ?_)
        · rw [in_b0] at d
          rw [g21, in_a1, Int32.or_zero]
          have h9 := ih (l + 1) _ (by omega) (rq_F (x := nI (l + 1)) qq (show 20 ≤ 21 by omega)) (rf_L_21 L2)
          rw [bs_n (f := fun l => sn_v y l (tr_k (-1)) n f) (n := l) d] at h9
          exact h9
        · rw [in_b0, Bool.not_eq_false] at d
          rw [g21, in_a1, in_one (by omega), in_or]
          have h9 := ih (l + 1) _ (by omega) (rq_F (x := nI (l + 1)) qq (show 20 ≤ 21 by omega)) (rf_L_21 L2)
          rw [bs_y (f := fun l => sn_v y l (tr_k (-1)) n f) (n := l) d] at h9
          exact h9
    exact hl 4 0 _ (by omega) (rq_F q1 (by omega)) (rf_L_21 L1)
  · rw [if_neg (fun q => c (sn_l3.mpr q))] at h
    exact h M1 q1
/-! the pairs -/
theorem PR_row {k k' : Nat} {ca ra : px_Lo} {x : Int32} (v : iv_Y → Bool → Nat → (Nat → Int64) → Int32) (hc : ∀ (y : iv_Y) (b : Bool) (n : Nat) (f : Nat → Int64) (M : px_Mem) (Q : px_Po), ic y M → (rg x 0 3 = true → rwc x.toNatClampNeg b n f M) → (∀ M', cq y M M' → Q (some (.int (v y b n f))) M') → px_T 0 k 0 ca [] M Q) (hr : ∀ (y : iv_Y) (b : Bool) (n : Nat) (f : Nat → Int64) (M : px_Mem) (Q : px_Po), ir y M → (rg x 0 3 = true → rwr x.toNatClampNeg b n f M) → (∀ M', rq M M' → Q (some (.int (v y b n f))) M') → px_T 0 k' 0 ra [] M Q) : PR k ca k' ra := by
  intro M Q I h
  obtain ⟨y, C, R, V⟩ := I
  have hex : ∃ (b : Bool) (n : Nat) (f : Nat → Int64), (rg x 0 3 = true → rwc x.toNatClampNeg b n f M) ∧ (rg x 0 3 = true → rwr x.toNatClampNeg b n f M) := by
    by_cases g : rg x 0 3 = true
    · obtain ⟨s, es, s1, s2⟩ := rg_of g (by omega) (by omega)
      have hx : x.toNatClampNeg = s := by rw [es, in_cl (by omega)]
      rw [hx]
      obtain ⟨hw, hf⟩ := V.2.2.2 s (by omega)
      rcases hw with ⟨w1, w2⟩ | ⟨w1, n, w, n60, _, w3, w4, _⟩
      · exact ⟨false, 0, fun _ => 0, fun _ => ⟨by omega, Or.inl ⟨rfl, w1⟩⟩, fun _ => ⟨by omega, Or.inl ⟨rfl, w2⟩⟩⟩
      · exact ⟨true, n, fun i => M.2 90 (60 * s + i), fun _ => ⟨n60, Or.inr ⟨rfl, w1, w3, hf⟩⟩, fun _ => ⟨n60, Or.inr ⟨rfl, w4, fun _ _ => rfl⟩⟩⟩
    · exact ⟨false, 0, fun _ => 0, fun q => absurd q g, fun q => absurd q g⟩
  obtain ⟨b, n, f, h1, h2⟩ := hex
  refine hc y b n f M Q C h1 (fun M1 q1 => h (v y b n f) M1 (lw_cq q1) (fun Q' h' => hr y b n f M1 Q' (ir_cq R q1) (fun g => ?_) (fun M2 q2 => h' M2 ⟨y, ic_rq (ic_cq C q1) q2, ir_rq (ir_cq R q1) q2, ivr_rq (ivr_cq V q1) q2⟩ (lw_tr (lw_cq q1) (lw_rq q2)))))
  unfold rwr
  rw [(q1.1 88 (by omega)).1, (q1.1 90 (by omega)).2]
  exact h2 g
theorem pr_128 {x : Int32} : PR 128 [some (.ref 0), some (.int x), none, none, none] 297 [some (.ref 56), some (.int x), none] :=
  PR_row (x := x) (fun y b n f => an_128 y b n f x) (fun _ _ _ _ _ _ C hw h => sc_128 C hw h) (fun _ _ _ _ _ _ R hw h => sr_297 R hw h)
theorem pr_129 {x : Int32} : PR 129 [some (.ref 0), some (.int x), none, none] 298 [some (.ref 56), some (.int x), none] :=
  PR_row (x := x) (fun y b n f => an_129 y b n f x) (fun _ _ _ _ _ _ C hw h => sc_129 C hw h) (fun _ _ _ _ _ _ R hw h => sr_298 R hw h)
theorem pr_130 {x : Int32} : PR 130 [some (.ref 0), some (.int x), none] 299 [some (.ref 56), some (.int x), none] :=
  PR_row (x := x) (fun y b n f => an_130 y b n f x) (fun _ _ _ _ _ _ C hw h => sc_130 C hw h) (fun _ _ _ _ _ _ R hw h => sr_299 R hw h)
theorem pr_131 {x : Int32} : PR 131 [some (.ref 0), some (.int x), none, none, none] 300 [some (.ref 56), some (.int x), none, none] :=
  PR_row (x := x) (fun y b n f => an_131 y b n f x) (fun _ _ _ _ _ _ C hw h => sc_131 C hw h) (fun _ _ _ _ _ _ R hw h => sr_300 R hw h)
end S65
