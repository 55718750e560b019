/-! chance and mean: the reference; share -/
section S59
variable {M M1 M2 : px_Mem} {Q : px_Po} {y : iv_Y}
theorem cb_bit (s : ws_S) (hW : ws_W s) {p : Nat} (p1 : 1 ≤ p) (p2 : p ≤ 15) : cb_v s (2 ^ (p - 1)) = if (ws_al s).testBit p = true then 1 else 0 := by
  unfold cb_v
  rw [pc_ct]
  have e : (fun i => (ws_al s / 2 &&& 2 ^ (p - 1)).testBit i) = fun i => if i = p - 1 then (ws_al s).testBit p else (fun _ => false) i := by
    funext i
    rw [Nat.testBit_and, Nat.testBit_two_pow]
    by_cases h : i = p - 1
    · rw [if_pos h, h, decide_eq_true rfl, Bool.and_true, in_tb2 _ _ p1]
    · rw [if_neg h, decide_eq_false (fun q => h q.symm), Bool.and_false]
  rw [e]
  have h1 := fb_ct_upd (fun _ => false) ((ws_al s).testBit p) (i := p - 1) (n := 15) (by omega)
  have h2 : fb_ct (fun _ => false) 15 = 0 := fb_ct_zero.mpr (fun _ _ => rfl)
  rw [if_neg (by decide), h2, Nat.add_zero, Nat.zero_add] at h1
  exact h1
theorem cb_all (s : ws_S) (hW : ws_W s) : cb_v s 32767 = pcA s := by
  unfold cb_v pcA
  have e : ws_al s / 2 &&& 32767 = ws_al s / 2 := by
    have h1 : ws_al s / 2 &&& (2 ^ 15 - 1) = ws_al s / 2 % 2 ^ 15 := Nat.and_two_pow_sub_one_eq_mod _ 15
    rw [Nat.mod_eq_of_lt (al_lt hW)] at h1
    exact h1
  rw [e]
theorem sm_s (f : Nat → Nat) (n : Nat) : sm f (n + 1) = sm f n + f n := rfl
/-- the sums that the reference keeps -/
def ra_s (y : iv_Y) (p k o : Nat) (M : px_Mem) : Prop := M.2 56 51 = lN (sm (fun o => wtn (iv_od y) o k) o) ∧ M.2 56 52 = lN (ch_v y k (2 ^ (p - 1)) o) ∧ M.2 56 53 = lN (ch_v y k 32767 o)
theorem rq_L {i : Nat} {x : Int64} (h : rq M M1) : rq M (px_wL M1 56 i x) := rq_FL h
theorem ch_v_s (k c o : Nat) : ch_v y k c (o + 1) = ch_v y k c o + wtn (iv_od y) o k * cb_v (ch_s y k o) c := sm_s _ _
/-- behind a run: the sums -/
theorem sr_314e {s : ws_S} {n p k o v A B D : Nat} {d6 : Option Value} (hA : rt_at s n M) (hW : ws_W s) (hn : n ≤ 72) (hp : p < 32) (hN : M.1 56 20 = nI n) (s1 : M.2 56 51 = lN A) (s2 : M.2 56 52 = lN B) (s3 : M.2 56 53 = lN D) (h : ∀ M', M'.1 = M.1 → (∀ a, a ≠ 56 → M'.2 a = M.2 a) → M'.2 56 51 = lN (A + v) → M'.2 56 52 = lN (B + v * (if (ws_al s).testBit p = true then 1 else 0)) → M'.2 56 53 = lN (D + v * pcA s) → px_T 0 314 21 [some (.ref 56), some (.int (nI p)), some (.int (nI k)), some (.int (nI (o + 1))), some (.long (lN v)), none, d6] [] M' Q) : px_T 0 314 124 [some (.ref 56), some (.int (nI p)), some (.int (nI k)), some (.int (nI o)), some (.long (lN v)), none, d6] [] M Q := by
  refine sg_314_124 ?_
  rw [hN, s1, s2, lN_add]
  generalize hN1 : px_wL M 56 51 (lN (A + v)) = N1
  have a1 : N1.1 = M.1 := by subst hN1; rfl
  have a2 : ∀ a, a ≠ 56 → N1.2 a = M.2 a := fun a ha => by subst hN1; rw [me_Lo ha]
  have a3 : N1.2 56 51 = lN (A + v) := by subst hN1; rw [me_LL]
  have a5 : N1.2 56 53 = lN D := by subst hN1; rw [me_Li (by omega)]; exact s3
  have hA1 : rt_at s n N1 := rt_at_fr hA (fun a _ _ => by rw [a1])
  refine sr_227 hA1 hW.1.1 hn hp ?_
  have last : ∀ v52 : Int64, v52 = lN (B + v * (if (ws_al s).testBit p = true then 1 else 0)) → px_T 0 230 0 [some (.ref 56), some (.int (N1.1 56 20))] [] (px_wL N1 56 52 v52) (fun r M1 => px_T 0 314 177 [some (.ref 56), some (.int (nI p)), some (.int (nI k)), some (.int (nI o)), some (.long (lN v)), none, d6] (r.toList ++ [.long (lN v), .long (N1.2 56 53), .ref 56]) M1 Q) := by
    intro v52 hv
    rw [a1, hN, a5]
    generalize hN2 : px_wL N1 56 52 v52 = N2
    have b1 : N2.1 = M.1 := by subst hN2; exact a1
    have b2 : ∀ a, a ≠ 56 → N2.2 a = M.2 a := fun a ha => by subst hN2; rw [me_Lo ha]; exact a2 a ha
    have b3 : N2.2 56 51 = lN (A + v) := by subst hN2; rw [me_Li (by omega)]; exact a3
    have b4 : N2.2 56 52 = v52 := by subst hN2; rw [me_LL]
    have hA2 : rt_at s n N2 := rt_at_fr hA (fun a _ _ => by rw [b1])
    refine sr_230 hA2 hW.1.1 hn (sg_314_177 ?_)
    have hpl := pcA_le s
    rw [pc_al hW.1.2.2.1, in_a1, show in_pc 15 (ws_al s / 2) = pcA s from rfl, nI_l (by omega), lN_mul, lN_add]
    refine h _ ?_ (fun a ha => ?_) ?_ ?_ ?_
    · exact b1
    · rw [me_Lo ha]; exact b2 a ha
    · rw [me_Li (by omega)]; exact b3
    · rw [me_Li (by omega), b4]; exact hv
    · rw [me_LL]
  refine sg_314_149 (fun d => last _ ?_) (fun d => last _ ?_)
  · rw [in_b0] at d
    rw [d, if_neg (by decide), Nat.mul_zero]
    exact lN_add B 0
  · rw [in_b0, Bool.not_eq_false] at d
    rw [d, if_pos rfl, Nat.mul_one, lN_add]
theorem sr_314 (R : ir y M) {p k : Nat} (p1 : 1 ≤ p) (p2 : p ≤ 15) (hk : k ≤ 6) (hkn : k ≤ iv_n y) (h : ∀ M', rq M M' → ra_s y p k (2 ^ k) M' → Q none M') : px_T 0 314 0 [some (.ref 56), some (.int (nI p)), some (.int (nI k)), none, none, none, none] [] M Q := by
  have hn := iv_yn R.1
  have h2k : 2 ^ k ≤ 2 ^ 6 := Nat.pow_le_pow_right (by omega) hk
  have hod := R.1.2.1
  have q0 : rq M (px_wL (px_wL (px_wL M 56 51 0) 56 52 0) 56 53 0) := rq_FL (rq_FL (rq_FL rq_rf))
  refine sg_314_0 (sr_209 (ir_rq R q0) (fun M1 k1 L1 => sg_314_19 ?_))
  have hl : ∀ (m o : Nat) (lf : Nat → Bool) (N : px_Mem) (d4 d5 d6 : Option Value), o + m = 2 ^ k → rq M N → rf_L (iv_n y) (iv_lw y) (iv_ev y) lf N → (∀ e, e < iv_n y - k → lf e = false) → ra_s y p k o N → px_T 0 314 21 [some (.ref 56), some (.int (nI p)), some (.int (nI k)), some (.int (nI o)), d4, d5, d6] [] N Q := by
    intro m
    induction m with
    | zero =>
      intro o lf N d4 d5 d6 ho q L hlf hs
      have e1 : o = 2 ^ k := by omega
      subst e1
      have hle : (1 : Int32) <<< (nI k &&& 31) ≤ nI (2 ^ k) := by rw [in_one (by omega)]; exact nI_le (Nat.le_refl _) (by omega)
      exact sg_314_21 (fun _ => h N q hs) (fun c => absurd hle c)
    | succ m ih =>
      intro o lf N d4 d5 d6 ho q L hlf hs
      have hnl : ¬ (1 : Int32) <<< (nI k &&& 31) ≤ nI o := fun q => by rw [in_one (by omega), in_le (by omega) (by omega)] at q; omega
      refine sg_314_21 (fun c => absurd c hnl) (fun _ => ?_)
      have inner : ∀ (mm i : Nat) (N2 : px_Mem), i + mm = k → rq M N2 → rf_L (iv_n y) (iv_lw y) (iv_ev y) (fun j => if iv_n y - k ≤ j ∧ j < iv_n y - k + i then o.testBit (j - (iv_n y - k)) else lf j) N2 → ra_s y p k o N2 → px_T 0 314 34 [some (.ref 56), some (.int (nI p)), some (.int (nI k)), some (.int (nI o)), some (.long (lN (wtn (iv_od y) o i))), none, some (.int (nI i))] [] N2 Q := by
        intro mm
        induction mm with
        | zero =>
          intro i N2 hi q L hs
          have e1 : i = k := by omega
          subst e1
          have hle : nI i ≤ nI i := nI_le (Nat.le_refl _) (by omega)
          have hwl : wtn (iv_od y) o i < 2 ^ 31 := by
            have h1 : wtn (iv_od y) o i ≤ sm (fun o => wtn (iv_od y) o i) (o + 1) := by rw [sm_s]; omega
            have h2 := sm_split (fun o => wtn (iv_od y) o i) (o + 1) (2 ^ i - (o + 1))
            rw [show o + 1 + (2 ^ i - (o + 1)) = 2 ^ i by omega, wtn_sum hod] at h2
            have := (p10 hk).2
            omega
          have L2 : rf_L (iv_n y) (iv_lw y) (iv_ev y) (ck y i o) N2 := rf_L_cong L (fun e he => ⟨rfl, by
            unfold ck
            by_cases hh : iv_n y - i ≤ e
            · rw [if_pos ⟨hh, by omega⟩, decide_eq_true hh, Bool.true_and]
            · rw [if_neg (fun q => hh q.1), decide_eq_false hh, Bool.false_and]
              exact hlf e (by omega)⟩)
          have hckl : ∀ e, e < iv_n y - i → ck y i o e = false := fun e he => ck_low he
          obtain ⟨s1, s2, s3⟩ := hs
          have hW : ws_W (ch_s y i o) := trW R.1 (Nat.le_refl _)
          refine sg_314_34 (fun _ c => ?_) (fun _ c => ?_) (fun c => absurd hle c)
          · rw [lNc hwl] at c
            rw [in_a1]
            refine ih (o + 1) _ N2 _ _ _ (by omega) q L2 hckl ⟨?_, ?_, ?_⟩
            · rw [s1, sm_s, c]; rfl
            · rw [s2]; unfold ch_v; rw [sm_s, c, Nat.zero_mul]; rfl
            · rw [s3]; unfold ch_v; rw [sm_s, c, Nat.zero_mul]; rfl
          · refine sr_223 L2 (by omega) R.1.1 (fun e he => R.1.2.2.2.2.2 e he) (fun M3 k3 A3 => ?_)
            have L3 := rf_L_gq L2 k3
            have hA : rt_at (ch_s y i o) (iv_n y) M3 := A3.1 _ (Nat.le_refl _)
            refine sr_314e hA hW (by omega) (by omega) L3.1 (by rw [k3.2.1]; exact s1) (by rw [k3.2.1]; exact s2) (by rw [k3.2.1]; exact s3) (fun M4 g1 g2 g3 g4 g5 => ?_)
            refine ih (o + 1) _ M4 _ _ _ (by omega) (rq_tr (rq_tr q (rq_g k3)) ⟨fun a _ _ => by rw [g1], g2, fun _ _ => by rw [g1]⟩) (by unfold rf_L; rw [g1]; exact L3) hckl ⟨?_, ?_, ?_⟩
            · rw [g3, sm_s]
            · rw [g4, ch_v_s, cb_bit _ hW p1 p2]
            · rw [g5, ch_v_s, cb_all _ hW]
        | succ mm ih2 =>
          intro i N2 hi q L hs
          have R2 := ir_rq R q
          have fo : N2.1 57 1 = nI (iv_od y) := R2.2.2.1
          have hnl2 : ¬ nI k ≤ nI i := fun q => by rw [in_le (by omega) (by omega)] at q; omega
          have hix : (nI (iv_n y) - nI k) + nI i = nI (iv_n y - k + i) := by rw [in_sb hkn, in_add]
          have go : ∀ x4 : Int64, x4 = lN (wtn (iv_od y) o (i + 1)) → px_T 0 177 0 [some (.int (nI o)), some (.int (nI i))] [] N2 (fun r M1 => px_T 0 314 94 [some (.ref 56), some (.int (nI p)), some (.int (nI k)), some (.int (nI o)), some (.long x4), none, some (.int (nI i))] (r.toList ++ [.int (((N2.1 56 20) - nI k) + nI i), .ref 67]) M1 Q) := by
            intro x4 h4
            refine sr_177 (by omega) (by omega) ?_
            rw [L.1, hix, h4]
            have fin : ∀ b : Bool, o.testBit i = b → px_T 0 314 34 [some (.ref 56), some (.int (nI p)), some (.int (nI k)), some (.int (nI o)), some (.long (lN (wtn (iv_od y) o (i + 1)))), none, some (.int (nI i + 1))] [] (px_wI N2 67 (iv_n y - k + i) (in_b b)) Q := by
              intro b hb
              rw [in_a1]
              refine ih2 (i + 1) _ (by omega) (rq_I q (by omega) (by omega)) ?_ hs
              have L2 := rf_L_w (e := iv_n y - k + i) (b := b) L
              refine rf_L_cong L2 (fun e he => ⟨rfl, ?_⟩)
              by_cases h1 : e = iv_n y - k + i
              · rw [if_pos h1, if_pos (by omega), h1, show iv_n y - k + i - (iv_n y - k) = i by omega, hb]
              · rw [if_neg h1]
                by_cases h2 : iv_n y - k ≤ e ∧ e < iv_n y - k + i
                · rw [if_pos h2, if_pos (by omega)]
                · rw [if_neg h2, if_neg (by omega)]
            refine sg_314_94 (fun _ => me_vin (by omega) (by omega)) (fun c => ?_) (fun _ => me_vin (by omega) (by omega)) (fun c => ?_)
            · rw [in_b1] at c
              rw [in_cl (by omega), nar_1]
              exact fin true c
            · rw [in_b1, Bool.not_eq_true] at c
              rw [in_cl (by omega), nar_0]
              exact fin false c
          refine sg_314_34 (fun c => absurd c hnl2) (fun c => absurd c hnl2) (fun _ => sr_177 (by omega) (by omega) (sg_314_48 (fun c => go _ ?_) (fun c => go _ ?_)))
          · rw [in_b1] at c
            have e1 : wtn (iv_od y) o (i + 1) = wtn (iv_od y) o i * iv_od y := by
              show wtn (iv_od y) o i * (if o.testBit i = true then iv_od y else 10 - iv_od y) = _
              rw [c, if_pos rfl]
            rw [e1, fo, nI_l (by omega), lN_mul]
          · rw [in_b1, Bool.not_eq_true] at c
            have e1 : wtn (iv_od y) o (i + 1) = wtn (iv_od y) o i * (10 - iv_od y) := by
              show wtn (iv_od y) o i * (if o.testBit i = true then iv_od y else 10 - iv_od y) = _
              rw [c, if_neg (by decide)]
            rw [e1, fo, il_10, in_sb hod, nI_l (by omega), lN_mul]
      refine inner k 0 N (by omega) q (rf_L_cong L (fun e he => ⟨rfl, (if_neg (by omega)).symm⟩)) hs
  refine hl (2 ^ k) 0 _ M1 _ _ _ (by omega) (rq_tr q0 (rq_l k1)) L1 (fun _ _ => rfl) ⟨?_, ?_, ?_⟩
  · rw [k1.2.1, me_Li (by omega), me_Li (by omega), me_LL]; rfl
  · rw [k1.2.1, me_Li (by omega), me_LL]; rfl
  · rw [k1.2.1, me_LL]; rfl
theorem sr_315 (R : ir y M) {x1 x2 : Int32} (h : Q (some (.int (in_b (ch_ok y x1 x2)))) M) : px_T 0 315 0 [some (.ref 56), some (.int x1), some (.int x2)] [] M Q := by
  have hn := iv_yn R.1
  unfold ch_ok at h
  refine sg_315_0 (sr_180 R (sg_315_4 (fun c => ?_) (fun c => sr_175i (a := 0) (b := 6) (by omega) (by omega) (sg_315_16 (fun d => ?_) (fun d => sr_181 R (sg_315_24 (fun e => ?_) (fun e => sr_175i (a := 0) (b := 1) (by omega) (by omega) (sg_315_34 (fun f => ?_) (fun f => ?_)))))))))
  · rw [in_b0] at c
    rw [c, Bool.false_and] at h
    exact h
  · rw [in_b0] at d
    have d2 : rg x1 0 6 = false := d
    rw [d2, Bool.false_and, Bool.and_false] at h
    exact h
  · rw [in_b0, Bool.not_eq_false] at d
    have d2 : rg x1 0 6 = true := d
    obtain ⟨k, rfl, k1, k2⟩ := rg_of d2 (by omega) (by omega)
    rw [in_lt (by omega) (by omega)] at e
    rw [show rg (nI k) 0 (iv_n y) = false by rw [rg_n (by omega)]; exact decide_eq_false (by omega), Bool.false_and, Bool.and_false, Bool.and_false] at h
    exact h
  · rw [in_b0] at f
    have f2 : rg x2 0 1 = false := f
    rw [f2, Bool.and_false, Bool.and_false, Bool.and_false] at h
    exact h
  · rw [in_b0, Bool.not_eq_false] at c d f
    have d2 : rg x1 0 6 = true := d
    have f2 : rg x2 0 1 = true := f
    obtain ⟨k, rfl, k1, k2⟩ := rg_of d2 (by omega) (by omega)
    rw [in_lt (by omega) (by omega)] at e
    rw [c, d2, f2, show rg (nI k) 0 (iv_n y) = true by rw [rg_n (by omega)]; exact decide_eq_true (by omega)] at h
    exact h
theorem ch_of {x1 x2 : Int32} (hn : iv_n y ≤ 70) (h : ch_ok y x1 x2 = true) : ∃ k, x1 = nI k ∧ k ≤ 6 ∧ k ≤ iv_n y := by
  unfold ch_ok at h
  rw [Bool.and_eq_true, Bool.and_eq_true, Bool.and_eq_true] at h
  obtain ⟨_, h2, h3, _⟩ := h
  obtain ⟨k, rfl, k1, k2⟩ := rg_of h2 (by omega) (by omega)
  rw [rg_n (by omega)] at h3
  have := of_decide_eq_true h3
  exact ⟨k, rfl, by omega, by omega⟩
theorem sr_316 (R : ir y M) {x1 x2 x3 : Int32} (h : ∀ M', rq M M' → Q (some (.long (an_138 y x1 x2 x3))) M') : px_T 0 316 0 [some (.ref 56), some (.int x1), some (.int x2), some (.int x3)] [] M Q := by
  unfold an_138 at h
  have hn := iv_yn R.1
  refine sg_316_0 (sr_315 R (sg_316_6 (fun c => ?_) (fun c => sr_184 (sg_316_14 (fun d => ?_) (fun d => ?_)))))
  · rw [in_b0] at c
    rw [c, Bool.false_and, if_neg (by decide)] at h
    exact h M rq_rf
  · rw [in_b0] at d
    rw [d, Bool.and_false, if_neg (by decide)] at h
    exact h M rq_rf
  · rw [in_b0, Bool.not_eq_false] at c d
    rw [c, d, if_pos (by decide)] at h
    obtain ⟨k, rfl, k6, kn⟩ := ch_of hn c
    obtain ⟨p, rfl, p1, p2⟩ := rg_of d (by omega) (by omega)
    rw [in_cl (by omega), in_cl (by omega)] at h
    refine sr_314 R (by omega) (by omega) k6 kn (fun M1 q1 hs => sg_316_27 ?_)
    rw [hs.2.1, hs.1, wtn_sum R.1.2.1]
    have hlt := ch_lt (c := 2 ^ (p - 1)) R.1.2.1 k6
    exact sr_308 (lN_abs _ hlt) hlt (p10 k6).1 (p10 k6).2 (sg_316_39 (h M1 q1))
theorem sr_317 (R : ir y M) {x1 x2 : Int32} (h : ∀ M', rq M M' → Q (some (.long (an_139 y x1 x2))) M') : px_T 0 317 0 [some (.ref 56), some (.int x1), some (.int x2)] [] M Q := by
  unfold an_139 at h
  have hn := iv_yn R.1
  refine sg_317_0 (sr_315 R (sg_317_6 (fun c => ?_) (fun c => ?_)))
  · rw [in_b0] at c
    rw [c, if_neg (by decide)] at h
    exact h M rq_rf
  · rw [in_b0, Bool.not_eq_false] at c
    rw [c, if_pos rfl] at h
    obtain ⟨k, rfl, k6, kn⟩ := ch_of hn c
    rw [in_cl (by omega)] at h
    refine sr_314 (p := 1) R (by omega) (by omega) k6 kn (fun M1 q1 hs => sg_317_19 ?_)
    rw [hs.2.2, hs.1, wtn_sum R.1.2.1]
    have hlt := ch_lt (c := 32767) R.1.2.1 k6
    exact sr_308 (lN_abs _ hlt) hlt (p10 k6).1 (p10 k6).2 (sg_317_31 (h M1 q1))
end S59
