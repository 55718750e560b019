/-! what holds between calls; pairs of calls -/
def ivr (M : px_Mem) : Prop := (∃ t, iv_tape t M) ∧ iv_flt M ∧ iv_img M ∧ iv_rows M
def IV (M : px_Mem) : Prop := ∃ y, ic y M ∧ ir y M ∧ ivr M
def lw (M M' : px_Mem) : Prop := M'.1 999 = M.1 999 ∧ M'.1 1000 = M.1 1000
/-- a call of the class, and the same one of the reference -/
def PR (k : Nat) (ca : px_Lo) (k' : Nat) (ra : px_Lo) : Prop := ∀ (M : px_Mem) (Q : px_Po), IV M → (∀ v M1, lw M M1 → (∀ Q' : px_Po, (∀ M2, IV M2 → lw M M2 → Q' (some (.int v)) M2) → px_T 0 k' 0 ra [] M1 Q') → Q (some (.int v)) M1) → px_T 0 k 0 ca [] M Q
def PRL (k : Nat) (ca : px_Lo) (k' : Nat) (ra : px_Lo) : Prop := ∀ (M : px_Mem) (Q : px_Po), IV M → (∀ v M1, lw M M1 → (∀ Q' : px_Po, (∀ M2, IV M2 → lw M M2 → Q' (some (.long v)) M2) → px_T 0 k' 0 ra [] M1 Q') → Q (some (.long v)) M1) → px_T 0 k 0 ca [] M Q
section I52
variable {M M1 M2 : px_Mem} {Q : px_Po} {y : iv_Y}
theorem lw_rf : lw M M := ⟨rfl, rfl⟩
theorem lw_tr (h : lw M M1) (h2 : lw M1 M2) : lw M M2 := ⟨h2.1.trans h.1, h2.2.trans h.2⟩
theorem lw_cq (h : cq y M M1) : lw M M1 := ⟨(h.1 999 (by omega)).1, (h.1 1000 (by omega)).1⟩
theorem lw_rq (h : rq M M1) : lw M M1 := ⟨h.1 999 (by omega) (by omega), h.1 1000 (by omega) (by omega)⟩
theorem iv_tape_fr {t : Nat} (h : iv_tape t M) (h1 : M1.1 1 = M.1 1) (h2 : M1.1 2 = M.1 2) (h3 : M1.1 56 5 = M.1 56 5) (h4 : M1.1 60 = M.1 60) : iv_tape t M1 := by
  unfold iv_tape
  rw [h1, h2, h3, h4]
  exact h
theorem iv_flt_fr (h : iv_flt M) (h1 : M1.1 3 = M.1 3) (h2 : M1.1 56 12 = M.1 56 12) (h3 : M1.1 56 13 = M.1 56 13) : iv_flt M1 := by
  unfold iv_flt
  rw [h1, h2, h3]
  exact h
theorem iv_sr_fr {a b : Nat} (h : iv_sr y a b M) (h1 : M1.1 a = M.1 a) : iv_sr y a b M1 := by
  unfold iv_sr
  rw [h1]
  exact h
theorem iv_img_fr (h : iv_img M) (h1 : ∀ a, 9 ≤ a → a < 15 → M1.1 a = M.1 a) (h2 : M1.1 58 = M.1 58) (h3 : M1.1 59 = M.1 59) : iv_img M1 := by
  intro k hk
  rw [h1 (9 + 2 * k) (by omega) (by omega), h3]
  rcases h k hk with a | ⟨a1, a2, z, a3, a4, a5⟩
  · exact Or.inl a
  · exact Or.inr ⟨a1, a2, z, a3, iv_sc_fr a4 (h1 _ (by omega) (by omega)) (h1 _ (by omega) (by omega)), iv_sr_fr a5 h2⟩
theorem iv_rows_fr (h : iv_rows M) (h1 : ∀ a, 16 ≤ a → a < 24 → M1.1 a = M.1 a ∧ M1.2 a = M.2 a) (h2 : M1.1 88 = M.1 88) (h3 : M1.1 89 = M.1 89) (h4 : M1.2 90 = M.2 90) : iv_rows M1 := by
  intro k hk
  rw [(h1 (16 + 2 * k) (by omega) (by omega)).1, (h1 (17 + 2 * k) (by omega) (by omega)).2, h2, h3, h4]
  exact h k hk
theorem ivr_fr (h : ivr M) (h1 : ∀ a, a < 24 → M1.1 a = M.1 a ∧ M1.2 a = M.2 a) (h2 : ∀ a, (58 ≤ a ∧ a < 61) ∨ (88 ≤ a ∧ a < 90) → M1.1 a = M.1 a) (h3 : M1.2 90 = M.2 90) (h4 : ∀ i, i < 20 → M1.1 56 i = M.1 56 i) : ivr M1 := by
  obtain ⟨⟨t, a1⟩, a2, a3, a4⟩ := h
  exact ⟨⟨t, iv_tape_fr a1 (h1 1 (by omega)).1 (h1 2 (by omega)).1 (h4 5 (by omega)) (h2 60 (by omega))⟩, iv_flt_fr a2 (h1 3 (by omega)).1 (h4 12 (by omega)) (h4 13 (by omega)), iv_img_fr a3 (fun a _ _ => (h1 a (by omega)).1) (h2 58 (by omega)) (h2 59 (by omega)), iv_rows_fr a4 (fun a _ _ => h1 a (by omega)) (h2 88 (by omega)) (h2 89 (by omega)) h3⟩
theorem ivr_cq (h : ivr M) (q : cq y M M1) : ivr M1 := ivr_fr h (fun a ha => q.1 a (by omega)) (fun a ha => (q.1 a (by omega)).1) (q.1 90 (by omega)).2 (fun i _ => by rw [(q.1 56 (by omega)).1])
theorem ivr_rq (h : ivr M) (q : rq M M1) : ivr M1 := ivr_fr h (fun a ha => ⟨q.1 a (by omega) (by omega), q.2.1 a (by omega)⟩) (fun a ha => q.1 a (by omega) (by omega)) (q.2.1 90 (by omega)) q.2.2
theorem ir_cq (h : ir y M) (q : cq y M M1) : ir y M1 := ⟨h.1, iv_sr_fr h.2 (q.1 57 (by omega)).1⟩
/-- the class's side is as it was -/
theorem ic_fr (h : ic y M) (h1 : ∀ a, (4 ≤ a ∧ a < 6) ∨ (28 ≤ a ∧ a < 39) ∨ a = 42 ∨ 163 ≤ a → M1.1 a = M.1 a) (h2 : ∀ a, 92 ≤ a → M1.2 a = M.2 a) : ic y M1 := by
  obtain ⟨a1, a2, ⟨t, a3, a4⟩, a5, a6⟩ := h
  refine ⟨a1, iv_sc_fr a2 (h1 4 (by omega)) (h1 5 (by omega)), ⟨t, a3, fl_at_w a4 (fun a ha => h1 a (by omega))⟩, ?_, iv_ro_fr a6 (fun a ha => h1 a (by omega))⟩
  exact iv_shp_fr a5 (by rw [h1 38 (by omega)]) (h1 42 (by omega)) (fun t _ => h2 _ (by omega)) (iv_yn a1)
theorem ic_rq (h : ic y M) (q : rq M M1) : ic y M1 := ic_fr h (fun a ha => q.1 a (by omega) (by omega)) (fun a ha => q.2.1 a (by omega))
theorem PR_q {k k' : Nat} {ca ra : px_Lo} (v : iv_Y → Int32) (hc : ∀ (y : iv_Y) (M : px_Mem) (Q : px_Po), ic y M → (∀ M', cq y M M' → Q (some (.int (v y))) M') → px_T 0 k 0 ca [] M Q) (hr : ∀ (y : iv_Y) (M : px_Mem) (Q : px_Po), ir y M → (∀ M', rq M M' → Q (some (.int (v y))) M') → px_T 0 k' 0 ra [] M Q) : PR k ca k' ra := by
  intro M Q I h
  obtain ⟨y, C, R, V⟩ := I
  refine hc y M Q C (fun M1 q1 => h (v y) M1 (lw_cq q1) (fun Q' h' => hr y M1 Q' (ir_cq R q1) (fun M2 q2 => h' M2 ⟨y, ic_rq (ic_cq C q1) q2, ir_rq (ir_cq R q1) q2, ivr_rq (ivr_cq V q1) q2⟩ (lw_tr (lw_cq q1) (lw_rq q2)))))
theorem PRL_q {k k' : Nat} {ca ra : px_Lo} (v : iv_Y → Int64) (hc : ∀ (y : iv_Y) (M : px_Mem) (Q : px_Po), ic y M → (∀ M', cq y M M' → Q (some (.long (v y))) M') → px_T 0 k 0 ca [] M Q) (hr : ∀ (y : iv_Y) (M : px_Mem) (Q : px_Po), ir y M → (∀ M', rq M M' → Q (some (.long (v y))) M') → px_T 0 k' 0 ra [] M Q) : PRL k ca k' ra := by
  intro M Q I h
  obtain ⟨y, C, R, V⟩ := I
  refine hc y M Q C (fun M1 q1 => h (v y) M1 (lw_cq q1) (fun Q' h' => hr y M1 Q' (ir_cq R q1) (fun M2 q2 => h' M2 ⟨y, ic_rq (ic_cq C q1) q2, ir_rq (ir_cq R q1) q2, ivr_rq (ivr_cq V q1) q2⟩ (lw_tr (lw_cq q1) (lw_rq q2)))))
/-! fault, end, count -/
theorem pr_89 {x : Int32} : PR 89 [some (.ref 0), some (.int x)] 201 [some (.ref 56), some (.int x)] := by
  intro M Q I h
  obtain ⟨y, C, R, V⟩ := I
  have hf := V.2.1
  refine sg_89_0 (fun c => h _ M lw_rf (fun Q' h' => ?_)) (fun c d => h _ M lw_rf (fun Q' h' => ?_)) (fun c d => h _ M lw_rf (fun Q' h' => ?_))
  · rw [hf.1] at h'
    exact sg_201_0 (fun _ => h' M ⟨y, C, R, V⟩ lw_rf) (fun q => absurd c q) (fun q => absurd c q)
  · rw [hf.2] at h'
    exact sg_201_0 (fun q => absurd q c) (fun _ _ => h' M ⟨y, C, R, V⟩ lw_rf) (fun _ q => absurd d q)
  · exact sg_201_0 (fun q => absurd q c) (fun _ q => absurd q d) (fun _ _ => h' M ⟨y, C, R, V⟩ lw_rf)
theorem pr_87 {x : Int32} : PR 87 [some (.ref 0), some (.int x)] 191 [some (.ref 56), some (.int x)] := by
  intro M Q I h
  obtain ⟨y, C, R, ⟨t, V1⟩, V2, V3, V4⟩ := I
  obtain ⟨t1, t2, t3, t4⟩ := V1
  have hx : ∀ (M3 : px_Mem) (Q' : px_Po), M3.1 56 5 = nI t → ((0 ≤ x.toInt ∧ x.toInt ≤ t) → Q' (some (.int x)) (px_wI M3 56 5 x)) → (¬ (0 ≤ x.toInt ∧ x.toInt ≤ t) → Q' (some (.int (-1))) M3) → px_T 0 191 0 [some (.ref 56), some (.int x)] [] M3 Q' := by
    intro M3 Q' hM g1 g2
    refine sg_191_0 ?_
    rw [hM, nI_l (by omega)]
    refine sr_175i (a := 0) (b := t) (by omega) (by omega) (sg_191_11 (fun c => ?_) (fun c => ?_))
    · rw [in_b0] at c
      exact g2 (of_decide_eq_false c)
    · rw [in_b0, Bool.not_eq_false] at c
      exact g1 (of_decide_eq_true c)
  refine sg_87_0 (fun c => h _ M lw_rf (fun Q' h' => ?_)) (fun c d => h _ _ ⟨by rw [me_Io (by omega)], by rw [me_Io (by omega)]⟩ (fun Q' h' => ?_)) (fun c d => h _ M lw_rf (fun Q' h' => ?_))
  · rw [fa_lt, Int32.toInt_zero] at c
    exact hx M Q' t3 (fun q => by omega) (fun _ => h' M ⟨y, C, R, ⟨t, t1, t2, t3, t4⟩, V2, V3, V4⟩ lw_rf)
  · obtain ⟨u, hu, rfl⟩ := nI_of c
    rw [t2, in_le hu (by omega)] at d
    refine hx _ Q' (by simp (disch := omega) only [me_II, me_Ii, me_Io, me_I2, me_L1, me_Li, me_LL, me_Lo, me_As, me_Ao, me_A2, me_Bs, me_Bo, me_B1]; exact t3) (fun _ => h' _ ⟨y, ?_, ?_, ?_⟩ ?_) (fun q => absurd ?_ q)
    · exact ic_fr C (fun a ha => by simp (disch := omega) only [me_II, me_Ii, me_Io, me_I2, me_L1, me_Li, me_LL, me_Lo, me_As, me_Ao, me_A2, me_Bs, me_Bo, me_B1]) (fun a ha => by simp (disch := omega) only [me_II, me_Ii, me_Io, me_I2, me_L1, me_Li, me_LL, me_Lo, me_As, me_Ao, me_A2, me_Bs, me_Bo, me_B1])
    · exact ⟨R.1, iv_sr_fr R.2 (by simp (disch := omega) only [me_II, me_Ii, me_Io, me_I2, me_L1, me_Li, me_LL, me_Lo, me_As, me_Ao, me_A2, me_Bs, me_Bo, me_B1])⟩
    · refine ⟨⟨u, by omega, ?_, ?_, fun i hi => ?_⟩, ?_, ?_, ?_⟩
      · simp (disch := omega) only [me_II, me_Ii, me_Io, me_I2, me_L1, me_Li, me_LL, me_Lo, me_As, me_Ao, me_A2, me_Bs, me_Bo, me_B1]
      · simp (disch := omega) only [me_II, me_Ii, me_Io, me_I2, me_L1, me_Li, me_LL, me_Lo, me_As, me_Ao, me_A2, me_Bs, me_Bo, me_B1]
      · simp (disch := omega) only [me_II, me_Ii, me_Io, me_I2, me_L1, me_Li, me_LL, me_Lo, me_As, me_Ao, me_A2, me_Bs, me_Bo, me_B1]
        exact t4 i (by omega)
      · exact iv_flt_fr V2 (by simp (disch := omega) only [me_II, me_Ii, me_Io, me_I2, me_L1, me_Li, me_LL, me_Lo, me_As, me_Ao, me_A2, me_Bs, me_Bo, me_B1]) (by simp (disch := omega) only [me_II, me_Ii, me_Io, me_I2, me_L1, me_Li, me_LL, me_Lo, me_As, me_Ao, me_A2, me_Bs, me_Bo, me_B1]) (by simp (disch := omega) only [me_II, me_Ii, me_Io, me_I2, me_L1, me_Li, me_LL, me_Lo, me_As, me_Ao, me_A2, me_Bs, me_Bo, me_B1])
      · exact iv_img_fr V3 (fun a _ _ => by simp (disch := omega) only [me_II, me_Ii, me_Io, me_I2, me_L1, me_Li, me_LL, me_Lo, me_As, me_Ao, me_A2, me_Bs, me_Bo, me_B1]) (by simp (disch := omega) only [me_II, me_Ii, me_Io, me_I2, me_L1, me_Li, me_LL, me_Lo, me_As, me_Ao, me_A2, me_Bs, me_Bo, me_B1]) (by simp (disch := omega) only [me_II, me_Ii, me_Io, me_I2, me_L1, me_Li, me_LL, me_Lo, me_As, me_Ao, me_A2, me_Bs, me_Bo, me_B1])
      · exact iv_rows_fr V4 (fun a _ _ => ⟨by simp (disch := omega) only [me_II, me_Ii, me_Io, me_I2, me_L1, me_Li, me_LL, me_Lo, me_As, me_Ao, me_A2, me_Bs, me_Bo, me_B1], by simp (disch := omega) only [me_II, me_Ii, me_Io, me_I2, me_L1, me_Li, me_LL, me_Lo, me_As, me_Ao, me_A2, me_Bs, me_Bo, me_B1]⟩) (by simp (disch := omega) only [me_II, me_Ii, me_Io, me_I2, me_L1, me_Li, me_LL, me_Lo, me_As, me_Ao, me_A2, me_Bs, me_Bo, me_B1]) (by simp (disch := omega) only [me_II, me_Ii, me_Io, me_I2, me_L1, me_Li, me_LL, me_Lo, me_As, me_Ao, me_A2, me_Bs, me_Bo, me_B1]) (by simp (disch := omega) only [me_II, me_Ii, me_Io, me_I2, me_L1, me_Li, me_LL, me_Lo, me_As, me_Ao, me_A2, me_Bs, me_Bo, me_B1])
    · exact ⟨by simp (disch := omega) only [me_II, me_Ii, me_Io, me_I2, me_L1, me_Li, me_LL, me_Lo, me_As, me_Ao, me_A2, me_Bs, me_Bo, me_B1], by simp (disch := omega) only [me_II, me_Ii, me_Io, me_I2, me_L1, me_Li, me_LL, me_Lo, me_As, me_Ao, me_A2, me_Bs, me_Bo, me_B1]⟩
    · rw [nI_toInt hu]
      omega
  · obtain ⟨u, hu, rfl⟩ := nI_of c
    rw [t2, in_le hu (by omega)] at d
    exact hx M Q' t3 (fun q => by rw [nI_toInt hu] at q; omega) (fun _ => h' M ⟨y, C, R, ⟨t, t1, t2, t3, t4⟩, V2, V3, V4⟩ lw_rf)
theorem rf15 {k : Nat} (hk : k < 4) : px_rf 15 k = 16 + 2 * k := by
  rcases (show k = 0 ∨ k = 1 ∨ k = 2 ∨ k = 3 by omega) with rfl | rfl | rfl | rfl <;> rfl
theorem rf8 {k : Nat} (hk : k < 3) : px_rf 8 k = 9 + 2 * k := by
  rcases (show k = 0 ∨ k = 1 ∨ k = 2 by omega) with rfl | rfl | rfl <;> rfl
theorem sh15 {k : Nat} (hk : k < 4) : px_sh 0 (16 + 2 * k) = some (.inl 4) := by
  rcases (show k = 0 ∨ k = 1 ∨ k = 2 ∨ k = 3 by omega) with rfl | rfl | rfl | rfl <;> rfl
theorem sh17 {k : Nat} (hk : k < 4) : px_sh 0 (16 + 2 * k + 1) = some (.inr (1, 60)) := by
  rcases (show k = 0 ∨ k = 1 ∨ k = 2 ∨ k = 3 by omega) with rfl | rfl | rfl | rfl <;> rfl
theorem sh8 {k : Nat} (hk : k < 3) : px_sh 0 (9 + 2 * k) = some (.inl 7) := by
  rcases (show k = 0 ∨ k = 1 ∨ k = 2 by omega) with rfl | rfl | rfl <;> rfl
theorem isR {k : Nat} (hk : k < 4) : px_isR (16 + 2 * k) := by unfold px_isR; omega
theorem isS {k : Nat} (hk : k < 3) : px_isS (9 + 2 * k) := by unfold px_isS; omega
/-- how many rows there are -/
def rw_n (M : px_Mem) : Nat → Nat := fb_ct (fun k => decide (M.1 (16 + 2 * k) 1 ≠ 0))
theorem rw_c (V : iv_rows M) {k : Nat} (hk : k < 4) : (M.1 (16 + 2 * k) 1 = 0) ↔ (M.1 88 k = -1) := by
  rcases (V k hk).1 with ⟨a, b⟩ | ⟨a, n, w, b1, b2, b3, b4, _⟩
  · exact ⟨fun _ => b, fun _ => a⟩
  · constructor
    · intro e
      rw [a] at e
      exact absurd e (by decide)
    · intro e
      rw [b4] at e
      exact absurd e (in_nm (by omega))
theorem pr_145 {x : Int32} : PR 145 [some (.ref 0), some (.int x)] 326 [some (.ref 56), some (.int x), none, none] := by
  intro M Q I h
  have I2 := I
  obtain ⟨y, C, R, ⟨t, V1⟩, V2, V3, V4⟩ := I2
  obtain ⟨t1, t2, t3, t4⟩ := V1
  have hS := C.2.1
  have hR := R.2
  have row : ∀ k, k < 5 → x = nI k → ∀ Q' : px_Po, (∀ M2, IV M2 → lw M M2 → Q' (some (.int (M.1 57 k))) M2) → px_T 0 326 0 [some (.ref 56), some (.int x), none, none] [] M Q' := by
    intro k hk hx Q' h'
    subst hx
    refine sg_326_0 (sr_175i (a := 0) (b := 4) (by omega) (by omega) ?_)
    have e : rg (nI k) (0 : Nat) (4 : Nat) = true := by rw [rg_n (by omega)]; exact decide_eq_true (by omega)
    rw [e]
    refine sg_326_9 (fun c => absurd c (by decide)) (fun c => absurd c (by decide)) (fun c => absurd c (by decide)) (fun _ => me_vin (by omega) (by omega)) (fun _ => ?_)
    rw [in_cl (by omega)]
    exact h' M I lw_rf
  have out : (¬ (0 ≤ x.toInt ∧ x.toInt ≤ 4)) → ∀ Q' : px_Po, (x = 5 → Q' (some (.int (M.1 56 5))) M) → (¬ x = 5 → x = 6 → Q' (some (.int (nI (rw_n M 4)))) M) → (¬ x = 5 → ¬ x = 6 → Q' (some (.int (-1))) M) → px_T 0 326 0 [some (.ref 56), some (.int x), none, none] [] M Q' := by
    intro hx Q' g1 g2 g3
    refine sg_326_0 (sr_175i (a := 0) (b := 4) (by omega) (by omega) ?_)
    have e : rg x (0 : Nat) (4 : Nat) = false := decide_eq_false hx
    rw [e]
    refine sg_326_9 (fun _ c => g1 c) (fun _ c d => ?_) (fun _ c d => g3 c d) (fun c => absurd rfl c) (fun c => absurd rfl c)
    have hl : ∀ i, i ≤ 4 → px_T 0 326 41 [some (.ref 56), some (.int x), some (.int (nI (rw_n M i))), some (.int (nI i))] [] M Q' := by
      refine lp_dn ?_ (fun i hi ih => ?_)
      · refine sg_326_41 (fun c1 => ?_) (fun c1 => by exfalso; (try simp (disch := omega) only [in_lt, in_le, in_eq, in_add, in_mul, in_sb, in_cl, in_bz, in_bo, in_mo, not_true_eq_false, not_false_eq_true, il_0, il_1, il_2, il_3, il_4, il_5, il_6, il_7, il_8, il_9, il_10, il_11, il_12, il_13, il_14, il_15, il_16, il_31] at c1) <;> omega) (fun c1 c2 => by exfalso; (try simp (disch := omega) only [in_lt, in_le, in_eq, in_add, in_mul, in_sb, in_cl, in_bz, in_bo, in_mo, not_true_eq_false, not_false_eq_true, il_0, il_1, il_2, il_3, il_4, il_5, il_6, il_7, il_8, il_9, il_10, il_11, il_12, il_13, il_14, il_15, il_16, il_31] at c1 c2) <;> omega) (fun c1 c2 => by exfalso; (try simp (disch := omega) only [in_lt, in_le, in_eq, in_add, in_mul, in_sb, in_cl, in_bz, in_bo, in_mo, not_true_eq_false, not_false_eq_true, il_0, il_1, il_2, il_3, il_4, il_5, il_6, il_7, il_8, il_9, il_10, il_11, il_12, il_13, il_14, il_15, il_16, il_31] at c1 c2) <;> omega)
        exact g2 c d
      · refine sg_326_41 (fun c1 => by exfalso; (try simp (disch := omega) only [in_lt, in_le, in_eq, in_add, in_mul, in_sb, in_cl, in_bz, in_bo, in_mo, not_true_eq_false, not_false_eq_true, il_0, il_1, il_2, il_3, il_4, il_5, il_6, il_7, il_8, il_9, il_10, il_11, il_12, il_13, il_14, il_15, il_16, il_31] at c1) <;> omega) (fun c1 => by (try simp (disch := omega) only [in_lt, in_le, in_eq, in_add, in_mul, in_sb, in_cl, in_bz, in_bo, in_mo, not_true_eq_false, not_false_eq_true, il_0, il_1, il_2, il_3, il_4, il_5, il_6, il_7, il_8, il_9, il_10, il_11, il_12, il_13, il_14, il_15, il_16, il_31] at c1 ⊢) <;> exact me_vin (by omega) (by omega)) (fun c1 c2 => ?_) (fun c1 c2 => ?_)
        · rw [in_cl (by omega), ← rw_c V4 hi] at c2
          have e1 : rw_n M (i + 1) = rw_n M i := ct_n (decide_eq_false (fun q => q c2))
          rw [e1] at ih
          rw [il_0, in_add, in_a1]
          exact ih
        · rw [in_cl (by omega), ← rw_c V4 hi] at c2
          have e1 : rw_n M (i + 1) = rw_n M i + 1 := ct_y (decide_eq_true c2)
          rw [e1] at ih
          rw [in_a1, in_a1]
          exact ih
    exact hl 0 (by omega)
  refine sg_145_0 (sg_145_1 (fun c => sg_145_44 (h _ M lw_rf (fun Q' h' => row 0 (by omega) c Q' (fun M2 i2 l2 => ?_)))) (fun c => sg_145_52 (h _ M lw_rf (fun Q' h' => row 1 (by omega) c Q' (fun M2 i2 l2 => ?_)))) (fun c => sg_145_60 (h _ M lw_rf (fun Q' h' => row 2 (by omega) c Q' (fun M2 i2 l2 => ?_)))) (fun c => sg_145_68 (h _ M lw_rf (fun Q' h' => row 3 (by omega) c Q' (fun M2 i2 l2 => ?_)))) (fun c => sg_145_76 (h _ M lw_rf (fun Q' h' => row 4 (by omega) c Q' (fun M2 i2 l2 => ?_)))) (fun c => sg_145_84 (h _ M lw_rf (fun Q' h' => ?_))) (fun c => sg_145_92 ?_) (fun c0 c1 c2 c3 c4 c5 c6 => sg_145_97 (h _ M lw_rf (fun Q' h' => ?_))))
  · rw [hR.1, ← hS.2.1]
    exact h' M2 i2 l2
  · have e := hR.2.1
    rw [show M.1 57 1 = nI (iv_od y) from e, ← hS.2.2.1]
    exact h' M2 i2 l2
  · have e := hR.2.2.1
    rw [show M.1 57 2 = nI (iv_td y) from e, ← hS.2.2.2.1]
    exact h' M2 i2 l2
  · have e := hR.2.2.2.1
    rw [show M.1 57 3 = nI (iv_ac y) from e, ← hS.2.2.2.2.1]
    exact h' M2 i2 l2
  · have e := hR.2.2.2.2.1
    rw [show M.1 57 4 = nI (iv_ln y) from e, ← hS.1]
    exact h' M2 i2 l2
  · subst c
    refine out (by decide) Q' (fun _ => ?_) (fun q => absurd rfl q) (fun q => absurd rfl q)
    rw [t3, ← t2]
    exact h' M I lw_rf
  · subst c
    have g : ∀ i, i ≤ 4 → px_T 0 162 4 [some (.ref 0), some (.int (nI (rw_n M i))), some (.int (nI i))] [] M (fun r M1 => px_T 0 145 96 [some (.ref 0), some (.int 6)] (r.toList ++ []) M1 Q) := by
      refine lp_dn ?_ (fun i hi ih => ?_)
      · refine sg_162_4 (fun c1 => ?_) (fun c1 => by exfalso; (try simp (disch := omega) only [in_lt, in_le, in_eq, in_add, in_mul, in_sb, in_cl, in_bz, in_bo, in_mo, not_true_eq_false, not_false_eq_true, il_0, il_1, il_2, il_3, il_4, il_5, il_6, il_7, il_8, il_9, il_10, il_11, il_12, il_13, il_14, il_15, il_16, il_31] at c1) <;> omega) (fun c1 => by exfalso; (try simp (disch := omega) only [in_lt, in_le, in_eq, in_add, in_mul, in_sb, in_cl, in_bz, in_bo, in_mo, not_true_eq_false, not_false_eq_true, il_0, il_1, il_2, il_3, il_4, il_5, il_6, il_7, il_8, il_9, il_10, il_11, il_12, il_13, il_14, il_15, il_16, il_31] at c1) <;> omega) (fun c1 c2 => by exfalso; (try simp (disch := omega) only [in_lt, in_le, in_eq, in_add, in_mul, in_sb, in_cl, in_bz, in_bo, in_mo, not_true_eq_false, not_false_eq_true, il_0, il_1, il_2, il_3, il_4, il_5, il_6, il_7, il_8, il_9, il_10, il_11, il_12, il_13, il_14, il_15, il_16, il_31] at c1 c2) <;> omega) (fun c1 c2 => by exfalso; (try simp (disch := omega) only [in_lt, in_le, in_eq, in_add, in_mul, in_sb, in_cl, in_bz, in_bo, in_mo, not_true_eq_false, not_false_eq_true, il_0, il_1, il_2, il_3, il_4, il_5, il_6, il_7, il_8, il_9, il_10, il_11, il_12, il_13, il_14, il_15, il_16, il_31] at c1 c2) <;> omega)
        exact sg_145_96 (h _ M lw_rf (fun Q' h' => out (by decide) Q' (fun q => absurd q (by decide)) (fun _ _ => h' M I lw_rf) (fun _ q => absurd rfl q)))
      · refine sg_162_4 (fun c => absurd c (fun q => by simp (disch := omega) only [in_lt, in_le, in_eq, in_add, in_mul, in_sb, in_cl, in_bz, in_bo, in_mo, not_true_eq_false, not_false_eq_true, il_0, il_1, il_2, il_3, il_4, il_5, il_6, il_7, il_8, il_9, il_10, il_11, il_12, il_13, il_14, il_15, il_16, il_31] at q; omega)) (fun _ => me_vin hi (by omega)) (fun _ => ?_) (fun _ c => ?_) (fun _ c => ?_)
        · rw [in_cl (by omega), rf15 hi]
          exact sh15 hi
        · rw [in_cl (by omega), rf15 hi] at c
          have e1 : rw_n M (i + 1) = rw_n M i := ct_n (decide_eq_false (fun q => q c))
          rw [e1] at ih
          rw [in_a1]
          exact ih
        · rw [in_cl (by omega), rf15 hi] at c
          have e1 : rw_n M (i + 1) = rw_n M i + 1 := ct_y (decide_eq_true c)
          rw [e1] at ih
          rw [in_a1, in_a1]
          exact ih
    exact sg_162_0 (g 0 (by omega))
  · refine out (fun q => ?_) Q' (fun q => absurd q c5) (fun _ q => absurd q c6) (fun _ _ => h' M I lw_rf)
    have n0 : ¬ x < 0 := fun q2 => by rw [fa_lt, Int32.toInt_zero] at q2; omega
    obtain ⟨k, hk, rfl⟩ := nI_of n0
    simp (disch := omega) only [in_lt, in_le, in_eq, in_add, in_mul, in_sb, in_cl, in_bz, in_bo, in_mo, not_true_eq_false, not_false_eq_true, il_0, il_1, il_2, il_3, il_4, il_5, il_6, il_7, il_8, il_9, il_10, il_11, il_12, il_13, il_14, il_15, il_16, il_31] at c0 c1 c2 c3 c4
    rw [nI_toInt hk] at q
    omega
end I52
