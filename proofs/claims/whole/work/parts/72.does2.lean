/-! does: one event more -/
section E72
variable {M M1 M2 : px_Mem} {Q : px_Po} {y : iv_Y}
theorem ya_n (y : iv_Y) (e : ws_E) : iv_n (yadd y e) = iv_n y + 1 := rfl
theorem ya_ev {e : ws_E} {i : Nat} (h : i < iv_n y) : iv_ev (yadd y e) i = iv_ev y i := if_neg (by omega)
theorem ya_en (y : iv_Y) (e : ws_E) : iv_ev (yadd y e) (iv_n y) = e := if_pos rfl
theorem ya_rn {e : ws_E} {t : Nat} (h : t ≤ iv_n y) : iv_rn (yadd y e) t = iv_rn y t := ws_run_cong (fun u hu => ⟨rfl, fun _ => ya_ev (by omega)⟩)
theorem fa_first_cg {p q : Nat → Bool} : ∀ {n : Nat}, (∀ u, u < n → p u = q u) → fa_first p n = fa_first q n
  | 0, _ => rfl
  | n + 1, h => by
    have h1 := fa_first_cg (n := n) (fun u hu => h u (by omega))
    have h2 := h n (by omega)
    unfold fa_first
    rw [h1, h2]
theorem ya_fs {e : ws_E} {t : Nat} (h : t ≤ iv_n y) : sh_fs (yadd y e) t = sh_fs y t := by
  refine fa_first_cg (fun u hu => ?_)
  show sh_eq (iv_rn (yadd y e) u) (iv_rn (yadd y e) t) = sh_eq (iv_rn y u) (iv_rn y t)
  rw [ya_rn (by omega), ya_rn h]
theorem ya_ok {e : ws_E} (hy : iv_yok y) (h0 : iv_ln y ≠ 0) (ha : iv_ac y < 30) (he : iv_ok e) : iv_yok (yadd y e) := by
  obtain ⟨h1, h2, h3, h4, h5, h6⟩ := hy
  refine ⟨h1, h2, h3, by show iv_ac y + 1 ≤ 30; omega, ?_, fun i hi => ?_⟩
  · rcases h5 with h5 | h5
    · exact absurd h5.1 h0
    · exact Or.inr h5
  · rw [ya_n] at hi
    by_cases c : i = iv_n y
    · rw [c, ya_en]
      exact he
    · rw [ya_ev (by omega)]
      exact h6 i (by omega)
theorem ic_add {e : ws_E} (C : ic y M) (h0 : iv_ln y ≠ 0) (ha : iv_ac y < 30) (he : iv_ok e) : ic (yadd y e) (px_wI (px_wI M 5 (iv_n y) (nI (iv_pk e))) 4 5 (nI (iv_ac y + 1))) := by
  obtain ⟨s1, s2, s3, s4, s5, s6⟩ := C.2.1
  refine ⟨ya_ok C.1 h0 ha he, ⟨?_, ?_, ?_, ?_, ?_, fun i hi => ?_⟩, ?_, ?_, ?_⟩
  · simp (disch := omega) only [me_II, me_Ii, me_Io, me_I2, me_L1, me_Li, me_LL, me_Lo, me_As, me_Ao, me_A2, me_Bs, me_Bo, me_B1]; exact s1
  · simp (disch := omega) only [me_II, me_Ii, me_Io, me_I2, me_L1, me_Li, me_LL, me_Lo, me_As, me_Ao, me_A2, me_Bs, me_Bo, me_B1]; exact s2
  · simp (disch := omega) only [me_II, me_Ii, me_Io, me_I2, me_L1, me_Li, me_LL, me_Lo, me_As, me_Ao, me_A2, me_Bs, me_Bo, me_B1]; exact s3
  · simp (disch := omega) only [me_II, me_Ii, me_Io, me_I2, me_L1, me_Li, me_LL, me_Lo, me_As, me_Ao, me_A2, me_Bs, me_Bo, me_B1]; exact s4
  · simp (disch := omega) only [me_II, me_Ii, me_Io, me_I2, me_L1, me_Li, me_LL, me_Lo, me_As, me_Ao, me_A2, me_Bs, me_Bo, me_B1]; rfl
  · rw [ya_n] at hi
    by_cases c : i = iv_n y
    · subst c
      simp (disch := omega) only [me_II, me_Ii, me_Io, me_I2, me_L1, me_Li, me_LL, me_Lo, me_As, me_Ao, me_A2, me_Bs, me_Bo, me_B1]
      rw [ya_en]
    · simp (disch := omega) only [me_II, me_Ii, me_Io, me_I2, me_L1, me_Li, me_LL, me_Lo, me_As, me_Ao, me_A2, me_Bs, me_Bo, me_B1]
      rw [ya_ev (by omega)]
      exact s6 i (by omega)
  · obtain ⟨t, ht, f1, f2, f3⟩ := C.2.2.1
    refine ⟨t, by rw [ya_n]; omega, ?_, ?_, fun i hi => ?_⟩
    · simp (disch := omega) only [me_II, me_Ii, me_Io, me_I2, me_L1, me_Li, me_LL, me_Lo, me_As, me_Ao, me_A2, me_Bs, me_Bo, me_B1]; exact f1
    · rw [ya_rn ht]
      exact ws_C_fr f2 (fun a h1 h2 _ => by simp (disch := omega) only [me_II, me_Ii, me_Io, me_I2, me_L1, me_Li, me_LL, me_Lo, me_As, me_Ao, me_A2, me_Bs, me_Bo, me_B1])
    · rw [ya_rn (by omega), ya_ev (by omega)]
      simp (disch := omega) only [me_II, me_Ii, me_Io, me_I2, me_L1, me_Li, me_LL, me_Lo, me_As, me_Ao, me_A2, me_Bs, me_Bo, me_B1]
      exact f3 i hi
  · obtain ⟨k, k1, k2, k3⟩ := C.2.2.2.1
    refine ⟨k, by rw [ya_n]; omega, by simp (disch := omega) only [me_II, me_Ii, me_Io, me_I2, me_L1, me_Li, me_LL, me_Lo, me_As, me_Ao, me_A2, me_Bs, me_Bo, me_B1]; exact k2, fun t ht => ⟨fun i hi => ?_, ?_⟩⟩
    · rw [ya_rn (by omega)]
      exact (k3 t ht).1 i hi
    · rw [ya_fs (by omega)]
      simp (disch := omega) only [me_II, me_Ii, me_Io, me_I2, me_L1, me_Li, me_LL, me_Lo, me_As, me_Ao, me_A2, me_Bs, me_Bo, me_B1]
      exact (k3 t ht).2
  · exact iv_ro_fr C.2.2.2.2 (fun a ha => by simp (disch := omega) only [me_II, me_Ii, me_Io, me_I2, me_L1, me_Li, me_LL, me_Lo, me_As, me_Ao, me_A2, me_Bs, me_Bo, me_B1])
def ad_m (y : iv_Y) (e : ws_E) (M : px_Mem) : px_Mem := px_wI (px_wI (px_wI (px_wI (px_wI M 57 (5 + 4 * iv_n y) (nI e.1)) 57 (5 + 4 * iv_n y + 1) (nI e.2.1)) 57 (5 + 4 * iv_n y + 2) (nI e.2.2.1)) 57 (5 + 4 * iv_n y + 3) (nI e.2.2.2)) 57 3 (nI (iv_ac y + 1))
theorem ir_add {e : ws_E} (R : ir y M) (h0 : iv_ln y ≠ 0) (ha : iv_ac y < 30) (he : iv_ok e) : ir (yadd y e) (ad_m y e M) := by
  obtain ⟨s1, s2, s3, s4, s5, s6⟩ := R.2
  unfold ad_m
  refine ⟨ya_ok R.1 h0 ha he, ?_, ?_, ?_, ?_, ?_, fun i hi => ?_⟩
  · simp (disch := omega) only [me_II, me_Ii, me_Io, me_I2, me_L1, me_Li, me_LL, me_Lo, me_As, me_Ao, me_A2, me_Bs, me_Bo, me_B1]; exact s1
  · simp (disch := omega) only [me_II, me_Ii, me_Io, me_I2, me_L1, me_Li, me_LL, me_Lo, me_As, me_Ao, me_A2, me_Bs, me_Bo, me_B1]; exact s2
  · simp (disch := omega) only [me_II, me_Ii, me_Io, me_I2, me_L1, me_Li, me_LL, me_Lo, me_As, me_Ao, me_A2, me_Bs, me_Bo, me_B1]; exact s3
  · simp (disch := omega) only [me_II, me_Ii, me_Io, me_I2, me_L1, me_Li, me_LL, me_Lo, me_As, me_Ao, me_A2, me_Bs, me_Bo, me_B1]; rfl
  · simp (disch := omega) only [me_II, me_Ii, me_Io, me_I2, me_L1, me_Li, me_LL, me_Lo, me_As, me_Ao, me_A2, me_Bs, me_Bo, me_B1]; exact s5
  · rw [ya_n] at hi
    by_cases c : i = iv_n y
    · subst c
      rw [ya_en, Nat.zero_add]
      refine ⟨?_, ?_, ?_, ?_⟩
      · simp (disch := omega) only [me_II, me_Ii, me_Io, me_I2, me_L1, me_Li, me_LL, me_Lo, me_As, me_Ao, me_A2, me_Bs, me_Bo, me_B1]
      · simp (disch := omega) only [me_II, me_Ii, me_Io, me_I2, me_L1, me_Li, me_LL, me_Lo, me_As, me_Ao, me_A2, me_Bs, me_Bo, me_B1]
      · simp (disch := omega) only [me_II, me_Ii, me_Io, me_I2, me_L1, me_Li, me_LL, me_Lo, me_As, me_Ao, me_A2, me_Bs, me_Bo, me_B1]
      · simp (disch := omega) only [me_II, me_Ii, me_Io, me_I2, me_L1, me_Li, me_LL, me_Lo, me_As, me_Ao, me_A2, me_Bs, me_Bo, me_B1]
    · rw [ya_ev (by omega)]
      obtain ⟨a1, a2, a3, a4⟩ := s6 i (by omega)
      refine ⟨?_, ?_, ?_, ?_⟩
      · simp (disch := omega) only [me_II, me_Ii, me_Io, me_I2, me_L1, me_Li, me_LL, me_Lo, me_As, me_Ao, me_A2, me_Bs, me_Bo, me_B1]; exact a1
      · simp (disch := omega) only [me_II, me_Ii, me_Io, me_I2, me_L1, me_Li, me_LL, me_Lo, me_As, me_Ao, me_A2, me_Bs, me_Bo, me_B1]; exact a2
      · simp (disch := omega) only [me_II, me_Ii, me_Io, me_I2, me_L1, me_Li, me_LL, me_Lo, me_As, me_Ao, me_A2, me_Bs, me_Bo, me_B1]; exact a3
      · simp (disch := omega) only [me_II, me_Ii, me_Io, me_I2, me_L1, me_Li, me_LL, me_Lo, me_As, me_Ao, me_A2, me_Bs, me_Bo, me_B1]; exact a4
/-- the reference does -/
theorem sr_319 (R : ir y M) {x1 x2 x3 x4 : Int32} (h1 : (iv_ln y = 0 ∨ rg x1 0 9 = false ∨ rg x2 1 15 = false ∨ (∃ k : Nat, k ≤ 9 ∧ x1 = nI k ∧ (rg x3 (lsN k 2) (msN k 2) = false ∨ rg x4 (lsN k 3) (msN k 3) = false))) → Q (some (.int (-2))) M) (h2 : iv_ln y ≠ 0 → ∀ e : ws_E, iv_ok e → x1 = nI e.1 → x2 = nI e.2.1 → x3 = nI e.2.2.1 → x4 = nI e.2.2.2 → iv_ac y = 30 → Q (some (.int (-5))) M) (h3 : iv_ln y ≠ 0 → ∀ e : ws_E, iv_ok e → x1 = nI e.1 → x2 = nI e.2.1 → x3 = nI e.2.2.1 → x4 = nI e.2.2.2 → iv_ac y < 30 → ∀ M', rq (ad_m y e M) M' → Q (some (.int (nI (ws_why (iv_rn y (iv_n y)) e)))) M') : px_T 0 319 0 [some (.ref 56), some (.int x1), some (.int x2), some (.int x3), some (.int x4), none] [] M Q := by
  have hn := iv_yn R.1
  have hac := R.1.2.2.2.1
  have f3 : M.1 57 3 = nI (iv_ac y) := R.2.2.2.2.1
  refine sg_319_0 (sr_180 R (sg_319_4 (fun c => h1 (Or.inl ?_)) (fun c => sr_175i (a := 0) (b := 9) (by omega) (by omega) (sg_319_16 (fun d => h1 (Or.inr (Or.inl ((in_b0 _).mp d)))) (fun d => sr_184 (sg_319_24 (fun e => h1 (Or.inr (Or.inr (Or.inl ((in_b0 _).mp e))))) (fun e => ?_)))))))
  · rw [in_b0] at c
    exact Decidable.not_not.mp (of_decide_eq_false c)
  · rw [in_b0, Bool.not_eq_false] at c d e
    have g0 := of_decide_eq_true c
    obtain ⟨k, rfl, k1, k2⟩ := rg_of (show rg x1 0 9 = true from d) (by omega) (by omega)
    obtain ⟨p, rfl, p1, p2⟩ := rg_of e (by omega) (by omega)
    have l2 := lsN_b k 2
    have m2 := msN_b k 2
    have l3 := lsN_b k 3
    have m3 := msN_b k 3
    refine sr_318 (w := 1) (by omega) (Or.inl rfl) (sg_319_33 (fun q => h1 (Or.inr (Or.inr (Or.inr ⟨k, by omega, rfl, Or.inl ((in_b0 _).mp q)⟩)))) (fun q => ?_))
    refine sr_318 (w := 2) (by omega) (Or.inr rfl) ?_
    rw [in_b0, Bool.not_eq_false] at q
    obtain ⟨a, rfl, a1, a2⟩ := rg_of (show rg x3 (lsN k 2) (msN k 2) = true from q) (by omega) (by omega)
    refine sg_319_43 (fun r => h1 (Or.inr (Or.inr (Or.inr ⟨k, by omega, rfl, Or.inr ((in_b0 _).mp r)⟩)))) (fun r s => ?_) (fun r s => ?_)
    · rw [in_b0, Bool.not_eq_false] at r
      obtain ⟨b, rfl, b1, b2⟩ := rg_of (show rg x4 (lsN k 3) (msN k 3) = true from r) (by omega) (by omega)
      rw [f3, show (30 : Int32) = nI 30 from rfl, in_eq (by omega) (by omega)] at s
      exact h2 g0 (k, p, a, b) (ok_of (by omega) (by omega) (by omega) (by omega) (by omega) (by omega) (by omega)) rfl rfl rfl rfl s
    · rw [in_b0, Bool.not_eq_false] at r
      obtain ⟨b, rfl, b1, b2⟩ := rg_of (show rg x4 (lsN k 3) (msN k 3) = true from r) (by omega) (by omega)
      rw [f3, show (30 : Int32) = nI 30 from rfl, in_eq (by omega) (by omega)] at s
      have hok : iv_ok (k, p, a, b) := ok_of (by omega) (by omega) (by omega) (by omega) (by omega) (by omega) (by omega)
      have R2 := ir_add (e := (k, p, a, b)) R g0 (by omega) hok
      have hx := h3 g0 (k, p, a, b) hok rfl rfl rfl rfl (by omega)
      have h70 : iv_n y < 70 := by
        have := R.1.2.2.1
        unfold iv_n
        omega
      have i0 : (5 : Int32) + 4 * nI (iv_n y) = nI (5 + 4 * iv_n y) := by rw [il_5, il_4, in_mul, in_add]
      have i1 : nI (5 + 4 * iv_n y) + 1 = nI (5 + 4 * iv_n y + 1) := in_a1 _
      have i2 : nI (5 + 4 * iv_n y) + 2 = nI (5 + 4 * iv_n y + 2) := by rw [il_2, in_add]
      have i3 : nI (5 + 4 * iv_n y) + 3 = nI (5 + 4 * iv_n y + 3) := by rw [il_3, in_add]
      refine sr_181 R (sg_319_69 (by rw [i0]; exact me_vin (by omega) (by omega)) (by rw [i0, i1]; exact me_vin (by omega) (by omega)) (by rw [i0, i2]; exact me_vin (by omega) (by omega)) (by rw [i0, i3]; exact me_vin (by omega) (by omega)) ?_)
      rw [i0, i1, i2, i3, in_cl (by omega), in_cl (by omega), in_cl (by omega), in_cl (by omega)]
      refine sg_319_112 ?_
      have g3 : (px_wI (px_wI (px_wI (px_wI M 57 (5 + 4 * iv_n y) (nI k)) 57 (5 + 4 * iv_n y + 1) (nI p)) 57 (5 + 4 * iv_n y + 2) (nI a)) 57 (5 + 4 * iv_n y + 3) (nI b)).1 57 3 = nI (iv_ac y) := by simp (disch := omega) only [me_II, me_Ii, me_Io, me_I2, me_L1, me_Li, me_LL, me_Lo, me_As, me_Ao, me_A2, me_Bs, me_Bo, me_B1]; exact f3
      rw [g3, in_a1]
      refine sr_224 (y := yadd y (k, p, a, b)) R2 (fun M2 q2 L2 A2 => ?_)
      have f20 : M2.1 56 20 = nI (iv_n y + 1) := L2.1
      have f73 := (A2.2.1 (iv_n y) (by rw [ya_n]; omega)).1
      refine sg_319_126 (by rw [f20, in_s1 (by omega)]; exact me_vin (by omega) (by omega)) ?_
      rw [f20, in_s1 (by omega), Nat.add_sub_cancel, in_cl (by omega), f73, if_neg (show ¬ (false = true) by decide), ya_en]
      have er : ws_run (iv_lw (yadd y (k, p, a, b))) (iv_ev (yadd y (k, p, a, b))) (fun _ => false) (iv_n y) = iv_rn y (iv_n y) := ya_rn (Nat.le_refl _)
      rw [er]
      exact hx M2 q2
theorem sc_140 (C : ic y M) {x1 x2 x3 x4 : Int32} (h1 : (iv_ln y = 0 ∨ rg x1 0 9 = false ∨ rg x2 1 15 = false ∨ (∃ k : Nat, k ≤ 9 ∧ x1 = nI k ∧ (rg x3 (lsN k 2) (msN k 2) = false ∨ rg x4 (lsN k 3) (msN k 3) = false))) → Q (some (.int (-2))) M) (h2 : iv_ln y ≠ 0 → ∀ e : ws_E, iv_ok e → x1 = nI e.1 → x2 = nI e.2.1 → x3 = nI e.2.2.1 → x4 = nI e.2.2.2 → iv_ac y = 30 → Q (some (.int (-5))) M) (h3 : iv_ln y ≠ 0 → ∀ e : ws_E, iv_ok e → x1 = nI e.1 → x2 = nI e.2.1 → x3 = nI e.2.2.1 → x4 = nI e.2.2.2 → iv_ac y < 30 → ∀ M', cq (yadd y e) (px_wI (px_wI M 5 (iv_n y) (nI (iv_pk e))) 4 5 (nI (iv_ac y + 1))) M' → Q (some (.int (nI (ws_why (iv_rn y (iv_n y)) e)))) M') : px_T 0 140 0 [some (.ref 0), some (.int x1), some (.int x2), some (.int x3), some (.int x4)] [] M Q := by
  have hn := ic_n C
  have hac := C.1.2.2.2.1
  have Ro := C.2.2.2.2
  have f5 : M.1 4 5 = nI (iv_ac y) := C.2.1.2.2.2.2.1
  have e10 : (10 : Int32).toInt = 10 := rfl
  refine sg_140_0 (sc_151 C (fun g0 => ?_) (fun g0 => sg_140_4 (fun q => absurd q (by decide)) (fun q => absurd q (by decide)) (fun q => absurd q (by decide)) (fun _ => h1 (Or.inl g0))))
  refine sg_140_4 (fun _ c => h1 (Or.inr (Or.inl (rg_f (Or.inl ?_))))) (fun _ c d => ?_) (fun _ c d => h1 (Or.inr (Or.inl (rg_f (Or.inr ?_))))) (fun q => absurd rfl q)
  · rw [fa_lt, Int32.toInt_zero] at c
    exact c
  · obtain ⟨k, hk, rfl⟩ := nI_of c
    rw [show (10 : Int32) = nI 10 from rfl, in_lt hk (by omega)] at d
    have l2 := lsN_b k 2
    have m2 := msN_b k 2
    have l3 := lsN_b k 3
    have m3 := msN_b k 3
    refine sp_8 (w := 1) Ro (by omega) (by omega) ?_
    rw [(ls1 k (by omega)).1, (ls1 k (by omega)).2]
    refine sg_140_26 (fun q => h1 (Or.inr (Or.inr (Or.inl ((in_b0 _).mp q))))) (fun e => ?_)
    rw [in_b0, Bool.not_eq_false] at e
    obtain ⟨p, rfl, p1, p2⟩ := rg_of e (by omega) (by omega)
    refine sp_8 (w := 2) Ro (by omega) (by omega) (sg_140_35 (fun q => h1 (Or.inr (Or.inr (Or.inr ⟨k, by omega, rfl, Or.inl ((in_b0 _).mp q)⟩)))) (fun q => ?_))
    rw [in_b0, Bool.not_eq_false] at q
    obtain ⟨a, rfl, a1, a2⟩ := rg_of q (by omega) (by omega)
    refine sp_8 (w := 3) Ro (by omega) (by omega) (sg_140_45 (fun r => h1 (Or.inr (Or.inr (Or.inr ⟨k, by omega, rfl, Or.inr ((in_b0 _).mp r)⟩)))) (fun r s => ?_) (fun r s => ?_))
    · rw [in_b0, Bool.not_eq_false] at r
      obtain ⟨b, rfl, b1, b2⟩ := rg_of r (by omega) (by omega)
      rw [f5, show (30 : Int32) = nI 30 from rfl, in_lt (by omega) (by omega)] at s
      have hok : iv_ok (k, p, a, b) := ok_of (by omega) (by omega) (by omega) (by omega) (by omega) (by omega) (by omega)
      have C2 := ic_add (e := (k, p, a, b)) C g0 s hok
      have hx := h3 g0 (k, p, a, b) hok rfl rfl rfl rfl s
      have h70 : iv_n y < 70 := by
        have := C.1.2.2.1
        unfold iv_n
        omega
      refine sp_0 (e := (k, p, a, b)) hok (sg_140_78 ?_)
      refine sg_55_0 (Or.inl rfl) (sp_53 (Or.inl rfl) C.2.1 (sg_55_4 (Or.inl rfl) (fun q => ?_) (fun _ => sp_53 (Or.inl rfl) C.2.1 (sg_55_17 ⟨70, rfl, me_vin (by omega) (by omega)⟩ ?_))))
      · rw [show (70 : Int32) = nI 70 from rfl, in_le (by omega) (by omega)] at q
        omega
      · rw [in_cl (by omega)]
        refine sg_140_81 ?_
        rw [show (px_wI M (4 + 1) (iv_n y) (nI (iv_pk (k, p, a, b)))).1 4 5 = nI (iv_ac y) by rw [me_Io (by omega)]; exact f5, in_a1]
        refine sp_53 (y := yadd y (k, p, a, b)) (Or.inl rfl) C2.2.1 (sg_140_105 ?_)
        rw [ya_n, in_s1 (by omega), Nat.add_sub_cancel]
        refine sc_12 C2 (by rw [ya_n]; omega) (fun M2 q2 => sg_140_110 ?_)
        unfold vn_why
        rw [ya_en, ya_rn (Nat.le_refl _)]
        exact hx M2 q2
    · rw [in_b0, Bool.not_eq_false] at r
      obtain ⟨b, rfl, b1, b2⟩ := rg_of r (by omega) (by omega)
      rw [f5, show (30 : Int32) = nI 30 from rfl, in_lt (by omega) (by omega)] at s
      exact h2 g0 (k, p, a, b) (ok_of (by omega) (by omega) (by omega) (by omega) (by omega) (by omega) (by omega)) rfl rfl rfl rfl (by omega)
  · rw [fa_lt, e10] at d
    omega
theorem nI_ij {a b : Nat} (ha : a < 2 ^ 31) (hb : b < 2 ^ 31) (h : nI a = nI b) : a = b := (in_eq ha hb).mp h
theorem ok_bad {e : ws_E} {x1 x2 x3 x4 : Int32} (he : iv_ok e) (e1 : x1 = nI e.1) (e2 : x2 = nI e.2.1) (e3 : x3 = nI e.2.2.1) (e4 : x4 = nI e.2.2.2) : ¬ (rg x1 0 9 = false ∨ rg x2 1 15 = false ∨ (∃ k : Nat, k ≤ 9 ∧ x1 = nI k ∧ (rg x3 (lsN k 2) (msN k 2) = false ∨ rg x4 (lsN k 3) (msN k 3) = false))) := by
  have hb := iv_okb he
  subst e1 e2 e3 e4
  rw [rg_n (by omega), rg_n (by omega)]
  rintro (q | q | ⟨k, k1, k2, k3⟩)
  · exact of_decide_eq_false q (by omega)
  · exact of_decide_eq_false q (by omega)
  · have ek := nI_ij (by omega) (by omega) k2
    rw [rg_n (by omega), rg_n (by omega)] at k3
    have hk2 : k = 0 ∨ k = 1 ∨ k = 2 ∨ k = 3 ∨ k = 4 ∨ k = 5 ∨ k = 6 ∨ k = 7 ∨ k = 8 ∨ k = 9 := by omega
    unfold iv_ok at he
    rw [ek] at he
    have t2 : ∀ i, i ≤ 9 → lsN i 2 = (if i = 0 then 1 else 0) ∧ msN i 2 = (if i = 0 then 15 else if i = 1 ∨ i = 2 then 0 else 7) := by decide
    have t3 : ∀ i, i ≤ 9 → lsN i 3 = (if i = 7 ∨ i = 8 then 1 else 0) ∧ msN i 3 = (if i = 4 ∨ i = 5 then 7 else if i = 7 ∨ i = 8 then 30 else 0) := by decide
    rw [(t2 k k1).1, (t2 k k1).2, (t3 k k1).1, (t3 k k1).2] at k3
    rcases k3 with k3 | k3
    · refine of_decide_eq_false k3 ?_
      rcases hk2 with rfl | rfl | rfl | rfl | rfl | rfl | rfl | rfl | rfl | rfl <;> simp <;> omega
    · refine of_decide_eq_false k3 ?_
      rcases hk2 with rfl | rfl | rfl | rfl | rfl | rfl | rfl | rfl | rfl | rfl <;> simp <;> omega
theorem ev_inj {e f : ws_E} {x1 x2 x3 x4 : Int32} (he : iv_ok e) (hf : iv_ok f) (e1 : x1 = nI e.1) (e2 : x2 = nI e.2.1) (e3 : x3 = nI e.2.2.1) (e4 : x4 = nI e.2.2.2) (f1 : x1 = nI f.1) (f2 : x2 = nI f.2.1) (f3 : x3 = nI f.2.2.1) (f4 : x4 = nI f.2.2.2) : e = f := by
  obtain ⟨a, b, c, d⟩ := e
  obtain ⟨a', b', c', d'⟩ := f
  have hb : a ≤ 9 ∧ 1 ≤ b ∧ b ≤ 15 ∧ c ≤ 15 ∧ d ≤ 30 := iv_okb he
  have hc : a' ≤ 9 ∧ 1 ≤ b' ∧ b' ≤ 15 ∧ c' ≤ 15 ∧ d' ≤ 30 := iv_okb hf
  rw [e1] at f1
  rw [e2] at f2
  rw [e3] at f3
  rw [e4] at f4
  have g1 : a = a' := nI_ij (by omega) (by omega) f1
  have g2 : b = b' := nI_ij (by omega) (by omega) f2
  have g3 : c = c' := nI_ij (by omega) (by omega) f3
  have g4 : d = d' := nI_ij (by omega) (by omega) f4
  rw [g1, g2, g3, g4]
theorem pr_140 {x1 x2 x3 x4 : Int32} : PR 140 [some (.ref 0), some (.int x1), some (.int x2), some (.int x3), some (.int x4)] 319 [some (.ref 56), some (.int x1), some (.int x2), some (.int x3), some (.int x4), none] := by
  intro M Q I h
  have I2 := I
  obtain ⟨y, C, R, V⟩ := I2
  refine sc_140 C (fun hb => h _ M lw_rf (fun Q' h' => ?_)) (fun g e he e1 e2 e3 e4 hs => h _ M lw_rf (fun Q' h' => ?_)) (fun g e he e1 e2 e3 e4 hs M1 q1 => h _ M1 ⟨by rw [(q1.1 999 (by omega)).1]; simp (disch := omega) only [me_II, me_Ii, me_Io, me_I2, me_L1, me_Li, me_LL, me_Lo, me_As, me_Ao, me_A2, me_Bs, me_Bo, me_B1], by rw [(q1.1 1000 (by omega)).1]; simp (disch := omega) only [me_II, me_Ii, me_Io, me_I2, me_L1, me_Li, me_LL, me_Lo, me_As, me_Ao, me_A2, me_Bs, me_Bo, me_B1]⟩ (fun Q' h' => ?_))
  · refine sr_319 R (fun _ => h' M I lw_rf) (fun g e he e1 e2 e3 e4 _ => ?_) (fun g e he e1 e2 e3 e4 _ M2 _ => ?_)
    · rcases hb with q | q
      · exact absurd q g
      · exact absurd q (ok_bad he e1 e2 e3 e4)
    · rcases hb with q | q
      · exact absurd q g
      · exact absurd q (ok_bad he e1 e2 e3 e4)
  · refine sr_319 R (fun hb => ?_) (fun _ _ _ _ _ _ _ _ => h' M I lw_rf) (fun _ _ _ _ _ _ _ q => absurd hs (by omega))
    rcases hb with q | q
    · exact absurd q g
    · exact absurd q (ok_bad he e1 e2 e3 e4)
  · have C2 := ic_add C g hs he
    have e57 : M1.1 57 = M.1 57 := by rw [(q1.1 57 (by omega)).1]; simp (disch := omega) only [me_II, me_Ii, me_Io, me_I2, me_L1, me_Li, me_LL, me_Lo, me_As, me_Ao, me_A2, me_Bs, me_Bo, me_B1]
    have R1 : ir y M1 := ⟨R.1, iv_sr_fr R.2 e57⟩
    refine sr_319 R1 (fun hb => ?_) (fun _ _ _ _ _ _ _ q => absurd hs (by omega)) (fun _ f hf f1 f2 f3 f4 _ M2 q2 => ?_)
    · rcases hb with q | q
      · exact absurd q g
      · exact absurd q (ok_bad he e1 e2 e3 e4)
    · have ef := ev_inj hf he f1 f2 f3 f4 e1 e2 e3 e4
      subst ef
      have C3 : ic (yadd y f) (ad_m y f M1) := ic_fr (ic_cq C2 q1) (fun a ha => by unfold ad_m; simp (disch := omega) only [me_II, me_Ii, me_Io, me_I2, me_L1, me_Li, me_LL, me_Lo, me_As, me_Ao, me_A2, me_Bs, me_Bo, me_B1]) (fun a ha => rfl)
      have fr1 : ∀ a, a ≠ 57 → (ad_m y f M1).1 a = M1.1 a := fun a ha => by unfold ad_m; simp (disch := omega) only [me_II, me_Ii, me_Io, me_I2, me_L1, me_Li, me_LL, me_Lo, me_As, me_Ao, me_A2, me_Bs, me_Bo, me_B1]
      have V2 : ivr (ad_m y f M1) := by
        refine ivr_f2 V (fun b hb => ⟨?_, ?_⟩) (fun b hb => ?_) ?_ (fun i hi => ?_)
        · rw [fr1 b (by omega), (q1.1 b (by omega)).1]
          simp (disch := omega) only [me_II, me_Ii, me_Io, me_I2, me_L1, me_Li, me_LL, me_Lo, me_As, me_Ao, me_A2, me_Bs, me_Bo, me_B1]
        · show M1.2 b = M.2 b
          rw [(q1.1 b (by omega)).2]
          rfl
        · rw [fr1 b (by omega), (q1.1 b (by omega)).1]
          simp (disch := omega) only [me_II, me_Ii, me_Io, me_I2, me_L1, me_Li, me_LL, me_Lo, me_As, me_Ao, me_A2, me_Bs, me_Bo, me_B1]
        · show M1.2 90 = M.2 90
          rw [(q1.1 90 (by omega)).2]
          rfl
        · rw [fr1 56 (by omega), (q1.1 56 (by omega)).1]
          simp (disch := omega) only [me_II, me_Ii, me_Io, me_I2, me_L1, me_Li, me_LL, me_Lo, me_As, me_Ao, me_A2, me_Bs, me_Bo, me_B1]
      refine h' M2 ⟨yadd y f, ic_rq C3 q2, ir_rq (ir_add R1 g hs he) q2, ivr_rq V2 q2⟩ (lw_tr ⟨?_, ?_⟩ (lw_rq q2))
      · rw [fr1 999 (by omega), (q1.1 999 (by omega)).1]
        simp (disch := omega) only [me_II, me_Ii, me_Io, me_I2, me_L1, me_Li, me_LL, me_Lo, me_As, me_Ao, me_A2, me_Bs, me_Bo, me_B1]
      · rw [fr1 1000 (by omega), (q1.1 1000 (by omega)).1]
        simp (disch := omega) only [me_II, me_Ii, me_Io, me_I2, me_L1, me_Li, me_LL, me_Lo, me_As, me_Ao, me_A2, me_Bs, me_Bo, me_B1]
end E72
