/-! event, does -/
def nbk (k : Nat) : Nat := [2, 1, 1, 2, 3, 3, 2, 3, 3, 2].getD k 0
def evw (e : ws_E) (w : Nat) : Int32 := if w = 0 then nI e.1 else if w ≤ nbk e.1 then nI (if w = 1 then e.2.1 else if w = 2 then e.2.2.1 else e.2.2.2) else -1
def an_90 (y : iv_Y) (x1 x2 : Int32) : Int32 := if (rg x1 0 ((iv_n y : Int) - 1) && rg x2 0 3) = true then evw (iv_ev y x1.toNatClampNeg) x2.toNatClampNeg else -2
def amt (k w : Nat) : Bool := decide (w = 3) && (decide (k = 7) || decide (k = 8))
def lsN (k w : Nat) : Nat := if w ≤ nbk k then (if w = 1 ∨ k = 0 ∨ amt k w = true then 1 else 0) else 0
def msN (k w : Nat) : Nat := if w ≤ nbk k then (if w = 1 ∨ k = 0 then 15 else if amt k w = true then 30 else 7) else 0
def yadd (y : iv_Y) (e : ws_E) : iv_Y := (iv_ln y, iv_lw y, iv_od y, iv_td y, iv_ac y + 1, fun i => if i = iv_n y then e else iv_ev y i)
section E71
variable {M M1 M2 : px_Mem} {Q : px_Po} {y : iv_Y}
theorem nbk_b : ∀ k, k ≤ 9 → 1 ≤ nbk k ∧ nbk k ≤ 3 := by decide
theorem sp_4 (Ro : iv_ro M) {k : Nat} (hk : k ≤ 9) (h : Q (some (.int (nI (nbk k)))) M) : px_T 0 4 0 [some (.int (nI k))] [] M Q := by
  refine sg_4_0 (fun c => ?_) (fun _ c => ?_) (fun _ _ => me_vin (by omega) (by omega)) (fun _ _ => ?_)
  · simp (disch := omega) only [in_lt, in_le, in_eq, in_add, in_mul, in_sb, in_cl, in_bz, in_bo, in_mo, not_true_eq_false, not_false_eq_true, il_0, il_1, il_2, il_3, il_4, il_5, il_6, il_7, il_8, il_9, il_10, il_11, il_12, il_13, il_14, il_15, il_16, il_31] at c
    omega
  · simp (disch := omega) only [in_lt, in_le, in_eq, in_add, in_mul, in_sb, in_cl, in_bz, in_bo, in_mo, not_true_eq_false, not_false_eq_true, il_0, il_1, il_2, il_3, il_4, il_5, il_6, il_7, il_8, il_9, il_10, il_11, il_12, il_13, il_14, il_15, il_16, il_31] at c
    omega
  · rw [in_cl (by omega), Ro.1 k (by omega)]
    exact h
theorem sc_90 (C : ic y M) {x1 x2 : Int32} (h : ∀ M', cq y M M' → Q (some (.int (an_90 y x1 x2))) M') : px_T 0 90 0 [some (.ref 0), some (.int x1), some (.int x2), none, none] [] M Q := by
  have hn := ic_n C
  unfold an_90 at h
  have e3 : (3 : Int32).toInt = 3 := rfl
  have bad : (rg x1 0 ((iv_n y : Int) - 1) = false ∨ rg x2 0 3 = false) → Q (some (.int (-2))) M := by
    intro hb
    have h9 := h M (cq_rf C)
    rw [if_neg] at h9
    · exact h9
    · rcases hb with q | q <;> rw [q] <;> simp
  refine sg_90_0 (fun c => bad (Or.inl (rg_f (Or.inl ?_)))) (fun c => ?_)
  · rw [fa_lt, Int32.toInt_zero] at c
    exact c
  · obtain ⟨e, he, rfl⟩ := nI_of c
    refine sp_53 (Or.inl rfl) C.2.1 (sg_90_12 (fun d => bad (Or.inl (rg_f (Or.inr ?_)))) (fun _ d => bad (Or.inr (rg_f (Or.inl ?_)))) (fun d f g => ?_) (fun _ _ d => bad (Or.inr (rg_f (Or.inr ?_)))))
    · rw [in_le (by omega) he] at d
      rw [nI_toInt he]
      omega
    · rw [fa_lt, Int32.toInt_zero] at d
      exact d
    · rw [in_le (by omega) he] at d
      rw [fa_lt, Int32.toInt_zero] at f
      rw [fa_le, e3] at g
      have g1 : rg (nI e) 0 ((iv_n y : Int) - 1) = true := by rw [rg_n he]; exact decide_eq_true (by omega)
      have g2 : rg x2 0 3 = true := decide_eq_true (by omega)
      rw [g1, g2, if_pos (by decide)] at h
      obtain ⟨w, rfl, w1, w2⟩ := rg_of g2 (by omega) (by omega)
      rw [in_cl he, in_cl (by omega)] at h
      have h9 := h M (cq_rf C)
      have hok := C.1.2.2.2.2.2 e (by omega)
      have hb := iv_okb hok
      have hnb := nbk_b _ hb.1
      refine sp_54 (Or.inl rfl) C.2.1 (by omega) hn (sg_90_35 (sp_2 hok (sg_90_40 (fun q => ?_) (fun q => ?_))))
      · simp (disch := omega) only [in_lt, in_le, in_eq, in_add, in_mul, in_sb, in_cl, in_bz, in_bo, in_mo, not_true_eq_false, not_false_eq_true, il_0, il_1, il_2, il_3, il_4, il_5, il_6, il_7, il_8, il_9, il_10, il_11, il_12, il_13, il_14, il_15, il_16, il_31] at q
        unfold evw at h9
        rw [if_pos q] at h9
        exact h9
      · simp (disch := omega) only [in_lt, in_le, in_eq, in_add, in_mul, in_sb, in_cl, in_bz, in_bo, in_mo, not_true_eq_false, not_false_eq_true, il_0, il_1, il_2, il_3, il_4, il_5, il_6, il_7, il_8, il_9, il_10, il_11, il_12, il_13, il_14, il_15, il_16, il_31] at q
        unfold evw at h9
        rw [if_neg q] at h9
        refine sp_4 C.2.2.2.2 hb.1 (sg_90_55 (fun r => ?_) (fun r => ?_))
        · simp (disch := omega) only [in_lt, in_le, in_eq, in_add, in_mul, in_sb, in_cl, in_bz, in_bo, in_mo, not_true_eq_false, not_false_eq_true, il_0, il_1, il_2, il_3, il_4, il_5, il_6, il_7, il_8, il_9, il_10, il_11, il_12, il_13, il_14, il_15, il_16, il_31] at r
          rw [if_pos r] at h9
          have hw : w = 1 ∨ w = 2 ∨ w = 3 := by omega
          rcases hw with rfl | rfl | rfl
          · exact sp_3a hok (sg_90_67 h9)
          · exact sp_3b hok (sg_90_67 h9)
          · exact sp_3c hok (sg_90_67 h9)
        · simp (disch := omega) only [in_lt, in_le, in_eq, in_add, in_mul, in_sb, in_cl, in_bz, in_bo, in_mo, not_true_eq_false, not_false_eq_true, il_0, il_1, il_2, il_3, il_4, il_5, il_6, il_7, il_8, il_9, il_10, il_11, il_12, il_13, il_14, il_15, il_16, il_31] at r
          rw [if_neg r] at h9
          exact h9
    · rw [fa_le, e3] at d
      omega
theorem sr_188 {k w : Nat} (hk : k ≤ 9) (hw : w = 1 ∨ w = 2) (h : Q (some (.int (if w + 1 ≤ nbk k then nI (msN k (w + 1)) else -1))) M) : px_T 0 188 0 [some (.int (nI k)), some (.int (nI w))] [] M Q := by
  have hk2 : k = 0 ∨ k = 1 ∨ k = 2 ∨ k = 3 ∨ k = 4 ∨ k = 5 ∨ k = 6 ∨ k = 7 ∨ k = 8 ∨ k = 9 := by omega
  rcases hw with rfl | rfl <;> rcases hk2 with rfl | rfl | rfl | rfl | rfl | rfl | rfl | rfl | rfl | rfl <;>
    first
    | exact sg_188_0 (fun _ _ => h) (fun _ q => absurd (by decide) q) (fun _ q => absurd (by decide) q) (fun _ q => absurd (by decide) q) (fun q => absurd rfl q) (fun q => absurd rfl q) (fun q => absurd rfl q) (fun q => absurd rfl q) (fun q => absurd rfl q)
    | exact sg_188_0 (fun _ q => absurd q (by decide)) (fun _ _ _ => h) (fun _ _ q => absurd (by decide) q) (fun _ _ q => absurd (by decide) q) (fun q => absurd rfl q) (fun q => absurd rfl q) (fun q => absurd rfl q) (fun q => absurd rfl q) (fun q => absurd rfl q)
    | exact sg_188_0 (fun _ q => absurd q (by decide)) (fun _ _ q => absurd q (by decide)) (fun _ _ _ _ => h) (fun _ _ _ q => absurd (by decide) q) (fun q => absurd rfl q) (fun q => absurd rfl q) (fun q => absurd rfl q) (fun q => absurd rfl q) (fun q => absurd rfl q)
    | exact sg_188_0 (fun _ q => absurd q (by decide)) (fun _ _ q => absurd q (by decide)) (fun _ _ _ q => absurd q (by decide)) (fun _ _ _ _ => h) (fun q => absurd rfl q) (fun q => absurd rfl q) (fun q => absurd rfl q) (fun q => absurd rfl q) (fun q => absurd rfl q)
    | exact sg_188_0 (fun q => absurd q (by decide)) (fun q => absurd q (by decide)) (fun q => absurd q (by decide)) (fun q => absurd q (by decide)) (fun _ _ => h) (fun _ q => absurd (by decide) q) (fun _ q => absurd (by decide) q) (fun _ q => absurd (by decide) q) (fun _ q => absurd (by decide) q)
    | exact sg_188_0 (fun q => absurd q (by decide)) (fun q => absurd q (by decide)) (fun q => absurd q (by decide)) (fun q => absurd q (by decide)) (fun _ q => absurd q (by decide)) (fun _ _ _ => h) (fun _ _ q => absurd (by decide) q) (fun _ _ q => absurd (by decide) q) (fun _ _ q => absurd (by decide) q)
    | exact sg_188_0 (fun q => absurd q (by decide)) (fun q => absurd q (by decide)) (fun q => absurd q (by decide)) (fun q => absurd q (by decide)) (fun _ q => absurd q (by decide)) (fun _ _ q => absurd q (by decide)) (fun _ _ _ _ => h) (fun _ _ _ q => absurd (by decide) q) (fun _ _ _ q => absurd (by decide) q)
    | exact sg_188_0 (fun q => absurd q (by decide)) (fun q => absurd q (by decide)) (fun q => absurd q (by decide)) (fun q => absurd q (by decide)) (fun _ q => absurd q (by decide)) (fun _ _ q => absurd q (by decide)) (fun _ _ _ q => absurd q (by decide)) (fun _ _ _ _ _ => h) (fun _ _ _ _ q => absurd (by decide) q)
    | exact sg_188_0 (fun q => absurd q (by decide)) (fun q => absurd q (by decide)) (fun q => absurd q (by decide)) (fun q => absurd q (by decide)) (fun _ q => absurd q (by decide)) (fun _ _ q => absurd q (by decide)) (fun _ _ _ q => absurd q (by decide)) (fun _ _ _ _ q => absurd q (by decide)) (fun _ _ _ _ _ => h)
theorem sr_189 {k w : Nat} (hk : k ≤ 9) (hw : w = 1 ∨ w = 2) (hb : w + 1 ≤ nbk k) (h : Q (some (.int (nI (lsN k (w + 1))))) M) : px_T 0 189 0 [some (.int (nI k)), some (.int (nI w))] [] M Q := by
  have hk2 : k = 0 ∨ k = 1 ∨ k = 2 ∨ k = 3 ∨ k = 4 ∨ k = 5 ∨ k = 6 ∨ k = 7 ∨ k = 8 ∨ k = 9 := by omega
  rcases hw with rfl | rfl <;> rcases hk2 with rfl | rfl | rfl | rfl | rfl | rfl | rfl | rfl | rfl | rfl <;>
    first
    | exact absurd hb (by decide)
    | exact sg_189_0 (fun _ _ => h) (fun _ q => absurd (by decide) q) (fun q => absurd rfl q) (fun q => absurd rfl q) (fun q => absurd rfl q)
    | exact sg_189_0 (fun _ q => absurd q (by decide)) (fun _ _ => h) (fun q => absurd rfl q) (fun q => absurd rfl q) (fun q => absurd rfl q)
    | exact sg_189_0 (fun q => absurd q (by decide)) (fun q => absurd q (by decide)) (fun _ _ => h) (fun _ q => absurd (by decide) q) (fun _ q => absurd (by decide) q)
    | exact sg_189_0 (fun q => absurd q (by decide)) (fun q => absurd q (by decide)) (fun _ q => absurd q (by decide)) (fun _ _ _ => h) (fun _ _ q => absurd (by decide) q)
    | exact sg_189_0 (fun q => absurd q (by decide)) (fun q => absurd q (by decide)) (fun _ q => absurd q (by decide)) (fun _ _ q => absurd q (by decide)) (fun _ _ _ => h)
theorem msN_b (k w : Nat) : msN k w ≤ 30 := by
  unfold msN
  split
  · split
    · omega
    · split <;> omega
  · omega
theorem lsN_b (k w : Nat) : lsN k w ≤ 1 := by
  unfold lsN
  split
  · split <;> omega
  · omega
theorem sr_207 (R : ir y M) {x1 x2 : Int32} (h : ∀ M', rq M M' → Q (some (.int (an_90 y x1 x2))) M') : px_T 0 207 0 [some (.ref 56), some (.int x1), some (.int x2)] [] M Q := by
  have hn := iv_yn R.1
  unfold an_90 at h
  have e1 : (1 : Int32).toInt = 1 := rfl
  have bad : (rg x1 0 ((iv_n y : Int) - 1) = false ∨ rg x2 0 3 = false) → Q (some (.int (-2))) M := by
    intro hb
    have h9 := h M rq_rf
    rw [if_neg] at h9
    · exact h9
    · rcases hb with q | q <;> rw [q] <;> simp
  refine sg_207_0 (sr_182 R (sg_207_5 (fun c => bad (Or.inl ((in_b0 _).mp c))) (fun c => sr_175i (a := 0) (b := 3) (by omega) (by omega) ?_)))
  rw [in_b0, Bool.not_eq_false] at c
  obtain ⟨e, rfl, e2, e3⟩ := rg_of c (by omega) (by omega)
  have hok := R.1.2.2.2.2.2 e (by omega)
  have hb := iv_okb hok
  have hnb := nbk_b _ hb.1
  obtain ⟨r0, r1, r2, r3⟩ := R.2.2.2.2.2.2 e (by omega)
  have v0 : M.1 57 (5 + 4 * e + 0) = nI (iv_ev y e).1 := by rw [← r0]; congr 1
  have v1 : M.1 57 (5 + 4 * e + 1) = nI (iv_ev y e).2.1 := by rw [← r1]
  have v2 : M.1 57 (5 + 4 * e + 2) = nI (iv_ev y e).2.2.1 := by rw [← r2]
  have v3 : M.1 57 (5 + 4 * e + 3) = nI (iv_ev y e).2.2.2 := by rw [← r3]
  have lo : ∀ (g2 : rg x2 0 3 = true), ∃ w : Nat, x2 = nI w ∧ w ≤ 3 ∧ Q (some (.int (evw (iv_ev y e) w))) M := by
    intro g2
    obtain ⟨w, rfl, w1, w2⟩ := rg_of g2 (by omega) (by omega)
    have h9 := h M rq_rf
    rw [c, g2, if_pos (by decide), in_cl (by omega), in_cl (by omega)] at h9
    exact ⟨w, rfl, by omega, h9⟩
  refine sg_207_17 (fun d => bad (Or.inr ((in_b0 _).mp d))) (fun d f => ?_) (fun d f => ?_)
  · rw [in_b0, Bool.not_eq_false] at d
    obtain ⟨w, rfl, w3, h9⟩ := lo d
    simp (disch := omega) only [in_lt, in_le, in_eq, in_add, in_mul, in_sb, in_cl, in_bz, in_bo, in_mo, not_true_eq_false, not_false_eq_true, il_0, il_1, il_2, il_3, il_4, il_5, il_6, il_7, il_8, il_9, il_10, il_11, il_12, il_13, il_14, il_15, il_16, il_31] at f
    have hw : w = 0 ∨ w = 1 := by omega
    rcases hw with rfl | rfl
    · refine sr_187 R (by omega) (by omega) (sg_207_54 ?_)
      rw [v0]
      exact h9
    · refine sr_187 R (by omega) (by omega) (sg_207_54 ?_)
      rw [v1]
      unfold evw at h9
      rw [if_neg (by decide), if_pos (by omega), if_pos rfl] at h9
      exact h9
  · rw [in_b0, Bool.not_eq_false] at d
    obtain ⟨w, rfl, w3, h9⟩ := lo d
    simp (disch := omega) only [in_lt, in_le, in_eq, in_add, in_mul, in_sb, in_cl, in_bz, in_bo, in_mo, not_true_eq_false, not_false_eq_true, il_0, il_1, il_2, il_3, il_4, il_5, il_6, il_7, il_8, il_9, il_10, il_11, il_12, il_13, il_14, il_15, il_16, il_31] at f
    refine sr_187 (w := 0) R (by omega) (by omega) (sg_207_34 ?_)
    rw [v0, in_s1 (by omega)]
    have hms := msN_b (iv_ev y e).1 (w - 1 + 1)
    unfold evw at h9
    rw [if_neg (by omega)] at h9
    refine sr_188 hb.1 (by omega) (sg_207_40 (fun q => ?_) (fun q => ?_))
    · split at q
      · exact absurd q (in_nm (by omega))
      · rw [if_neg (by omega)] at h9
        exact h9
    · split at q
      · rw [if_pos (by omega)] at h9
        have hw : w = 2 ∨ w = 3 := by omega
        rcases hw with rfl | rfl
        · refine sr_187 R (by omega) (by omega) (sg_207_54 ?_)
          rw [v2]
          exact h9
        · refine sr_187 R (by omega) (by omega) (sg_207_54 ?_)
          rw [v3]
          exact h9
      · exact absurd rfl q
/-! does -/
theorem sp_7 {k w : Nat} (hk : k ≤ 9) (hw : w ≤ 3) (h : Q (some (.int (in_b (amt k w)))) M) : px_T 0 7 0 [some (.int (nI k)), some (.int (nI w))] [] M Q := by
  unfold amt at h
  refine sg_7_0 (fun c d => ?_) (fun c d e => ?_) (fun c d e => ?_) (fun c => ?_)
  · simp (disch := omega) only [in_lt, in_le, in_eq, in_add, in_mul, in_sb, in_cl, in_bz, in_bo, in_mo, not_true_eq_false, not_false_eq_true, il_0, il_1, il_2, il_3, il_4, il_5, il_6, il_7, il_8, il_9, il_10, il_11, il_12, il_13, il_14, il_15, il_16, il_31] at c d
    rw [decide_eq_true c, decide_eq_true d] at h
    exact h
  · simp (disch := omega) only [in_lt, in_le, in_eq, in_add, in_mul, in_sb, in_cl, in_bz, in_bo, in_mo, not_true_eq_false, not_false_eq_true, il_0, il_1, il_2, il_3, il_4, il_5, il_6, il_7, il_8, il_9, il_10, il_11, il_12, il_13, il_14, il_15, il_16, il_31] at c d e
    rw [decide_eq_true c, decide_eq_true e, Bool.or_true] at h
    exact h
  · simp (disch := omega) only [in_lt, in_le, in_eq, in_add, in_mul, in_sb, in_cl, in_bz, in_bo, in_mo, not_true_eq_false, not_false_eq_true, il_0, il_1, il_2, il_3, il_4, il_5, il_6, il_7, il_8, il_9, il_10, il_11, il_12, il_13, il_14, il_15, il_16, il_31] at c d e
    rw [decide_eq_true c, decide_eq_false d, decide_eq_false e] at h
    exact h
  · simp (disch := omega) only [in_lt, in_le, in_eq, in_add, in_mul, in_sb, in_cl, in_bz, in_bo, in_mo, not_true_eq_false, not_false_eq_true, il_0, il_1, il_2, il_3, il_4, il_5, il_6, il_7, il_8, il_9, il_10, il_11, il_12, il_13, il_14, il_15, il_16, il_31] at c
    rw [decide_eq_false c] at h
    exact h
theorem sp_5 (Ro : iv_ro M) {k w : Nat} (hk : k ≤ 9) (hw : w ≤ 3) (h : Q (some (.int (nI (lsN k w)))) M) : px_T 0 5 0 [some (.int (nI k)), some (.int (nI w))] [] M Q := by
  have hnb := nbk_b _ hk
  unfold lsN at h
  refine sg_5_0 (sp_4 Ro hk (sg_5_5 (fun c d => ?_) (fun c d e => ?_) (fun c d e => ?_) (fun c => ?_)))
  · simp (disch := omega) only [in_lt, in_le, in_eq, in_add, in_mul, in_sb, in_cl, in_bz, in_bo, in_mo, not_true_eq_false, not_false_eq_true, il_0, il_1, il_2, il_3, il_4, il_5, il_6, il_7, il_8, il_9, il_10, il_11, il_12, il_13, il_14, il_15, il_16, il_31] at c d
    rw [if_pos c, if_pos (Or.inl d)] at h
    exact h
  · simp (disch := omega) only [in_lt, in_le, in_eq, in_add, in_mul, in_sb, in_cl, in_bz, in_bo, in_mo, not_true_eq_false, not_false_eq_true, il_0, il_1, il_2, il_3, il_4, il_5, il_6, il_7, il_8, il_9, il_10, il_11, il_12, il_13, il_14, il_15, il_16, il_31] at c d e
    rw [if_pos c, if_pos (Or.inr (Or.inl e))] at h
    exact h
  · simp (disch := omega) only [in_lt, in_le, in_eq, in_add, in_mul, in_sb, in_cl, in_bz, in_bo, in_mo, not_true_eq_false, not_false_eq_true, il_0, il_1, il_2, il_3, il_4, il_5, il_6, il_7, il_8, il_9, il_10, il_11, il_12, il_13, il_14, il_15, il_16, il_31] at c d e
    rw [if_pos c] at h
    refine sp_7 hk hw (sg_5_24 (fun q => ?_) (fun q => ?_))
    · rw [in_b0] at q
      rw [if_neg (fun r => by rcases r with r | r | r; exact d r; exact e r; rw [q] at r; exact absurd r (by decide))] at h
      exact h
    · rw [in_b0, Bool.not_eq_false] at q
      rw [if_pos (Or.inr (Or.inr q))] at h
      exact h
  · simp (disch := omega) only [in_lt, in_le, in_eq, in_add, in_mul, in_sb, in_cl, in_bz, in_bo, in_mo, not_true_eq_false, not_false_eq_true, il_0, il_1, il_2, il_3, il_4, il_5, il_6, il_7, il_8, il_9, il_10, il_11, il_12, il_13, il_14, il_15, il_16, il_31] at c
    rw [if_neg c] at h
    exact h
theorem sp_6 (Ro : iv_ro M) {k w : Nat} (hk : k ≤ 9) (hw : w ≤ 3) (h : Q (some (.int (nI (msN k w)))) M) : px_T 0 6 0 [some (.int (nI k)), some (.int (nI w))] [] M Q := by
  have hnb := nbk_b _ hk
  unfold msN at h
  refine sg_6_0 (sp_4 Ro hk (sg_6_5 (fun c d => ?_) (fun c d e => ?_) (fun c d e => ?_) (fun c => ?_)))
  · simp (disch := omega) only [in_lt, in_le, in_eq, in_add, in_mul, in_sb, in_cl, in_bz, in_bo, in_mo, not_true_eq_false, not_false_eq_true, il_0, il_1, il_2, il_3, il_4, il_5, il_6, il_7, il_8, il_9, il_10, il_11, il_12, il_13, il_14, il_15, il_16, il_31] at c d
    rw [if_pos c, if_pos (Or.inl d)] at h
    exact h
  · simp (disch := omega) only [in_lt, in_le, in_eq, in_add, in_mul, in_sb, in_cl, in_bz, in_bo, in_mo, not_true_eq_false, not_false_eq_true, il_0, il_1, il_2, il_3, il_4, il_5, il_6, il_7, il_8, il_9, il_10, il_11, il_12, il_13, il_14, il_15, il_16, il_31] at c d e
    rw [if_pos c, if_pos (Or.inr e)] at h
    exact h
  · simp (disch := omega) only [in_lt, in_le, in_eq, in_add, in_mul, in_sb, in_cl, in_bz, in_bo, in_mo, not_true_eq_false, not_false_eq_true, il_0, il_1, il_2, il_3, il_4, il_5, il_6, il_7, il_8, il_9, il_10, il_11, il_12, il_13, il_14, il_15, il_16, il_31] at c d e
    rw [if_pos c, if_neg (by omega)] at h
    refine sp_7 hk hw (sg_6_27 (fun q => ?_) (fun q => ?_))
    · rw [in_b0] at q
      rw [if_neg (by rw [q]; decide)] at h
      exact h
    · rw [in_b0, Bool.not_eq_false] at q
      rw [if_pos q] at h
      exact h
  · simp (disch := omega) only [in_lt, in_le, in_eq, in_add, in_mul, in_sb, in_cl, in_bz, in_bo, in_mo, not_true_eq_false, not_false_eq_true, il_0, il_1, il_2, il_3, il_4, il_5, il_6, il_7, il_8, il_9, il_10, il_11, il_12, il_13, il_14, il_15, il_16, il_31] at c
    rw [if_neg c] at h
    exact h
theorem sp_8 (Ro : iv_ro M) {k w : Nat} {x : Int32} (hk : k ≤ 9) (hw : w ≤ 3) (h : Q (some (.int (in_b (rg x (lsN k w) (msN k w))))) M) : px_T 0 8 0 [some (.int (nI k)), some (.int (nI w)), some (.int x)] [] M Q := by
  have h1 := lsN_b k w
  have h2 := msN_b k w
  refine sg_8_0 (sp_5 Ro hk hw (sg_8_6 (fun c => ?_) (fun c => sp_6 Ro hk hw (sg_8_15 (fun d => ?_) (fun d => ?_)))))
  · rw [fa_lt, nI_toInt (by omega)] at c
    rw [rg_f (Or.inl c)] at h
    exact h
  · rw [fa_lt, nI_toInt (by omega)] at d
    rw [rg_f (Or.inr d)] at h
    exact h
  · rw [fa_lt, nI_toInt (by omega)] at c d
    rw [show rg x (lsN k w) (msN k w) = true from decide_eq_true (by omega)] at h
    exact h
theorem sr_318 {k w : Nat} {x : Int32} (hk : k ≤ 9) (hw : w = 1 ∨ w = 2) (h : Q (some (.int (in_b (rg x (lsN k (w + 1)) (msN k (w + 1)))))) M) : px_T 0 318 0 [some (.int (nI k)), some (.int (nI w)), some (.int x), none] [] M Q := by
  have h1 := lsN_b k (w + 1)
  have h2 := msN_b k (w + 1)
  refine sg_318_0 (sr_188 hk hw ?_)
  by_cases c : w + 1 ≤ nbk k
  · rw [if_pos c]
    refine sg_318_5 (fun q => absurd q (in_nm (by omega))) (fun q => absurd q (in_nm (by omega))) (fun _ => ?_)
    refine sr_189 hk hw c (sg_318_30 ?_)
    rw [nI_l (by omega), nI_l (by omega)]
    exact sr_175i (by omega) (by omega) (sg_318_36 (in_b01 _) h)
  · rw [if_neg c]
    have e1 : lsN k (w + 1) = 0 := by unfold lsN; rw [if_neg c]
    have e2 : msN k (w + 1) = 0 := by unfold msN; rw [if_neg c]
    rw [e1, e2] at h
    refine sg_318_5 (fun _ d => ?_) (fun _ d => ?_) (fun q => absurd rfl q)
    · subst d
      exact h
    · rw [show rg x ((0 : Nat) : Int) ((0 : Nat) : Int) = false from decide_eq_false (fun q => d (Int32.toInt_inj.mp (by rw [Int32.toInt_zero]; omega)))] at h
      exact h
theorem ok_of {k p a b : Nat} (hk : k ≤ 9) (p1 : 1 ≤ p) (p2 : p ≤ 15) (a1 : lsN k 2 ≤ a) (a2 : a ≤ msN k 2) (b1 : lsN k 3 ≤ b) (b2 : b ≤ msN k 3) : iv_ok (k, p, a, b) := by
  have hk2 : k = 0 ∨ k = 1 ∨ k = 2 ∨ k = 3 ∨ k = 4 ∨ k = 5 ∨ k = 6 ∨ k = 7 ∨ k = 8 ∨ k = 9 := by omega
  unfold iv_ok
  show k ≤ 9 ∧ 1 ≤ p ∧ p ≤ 15 ∧ ((k = 0 ∧ 1 ≤ a ∧ a ≤ 15 ∧ b = 0) ∨ ((k = 1 ∨ k = 2) ∧ a = 0 ∧ b = 0) ∨ ((k = 3 ∨ k = 6 ∨ k = 9) ∧ a ≤ 7 ∧ b = 0) ∨ ((k = 4 ∨ k = 5) ∧ a ≤ 7 ∧ b ≤ 7) ∨ ((k = 7 ∨ k = 8) ∧ a ≤ 7 ∧ 1 ≤ b ∧ b ≤ 30))
  rcases hk2 with rfl | rfl | rfl | rfl | rfl | rfl | rfl | rfl | rfl | rfl
  · rw [show lsN 0 2 = 1 from rfl] at a1
    rw [show msN 0 2 = 15 from rfl] at a2
    rw [show msN 0 3 = 0 from rfl] at b2
    omega
  · rw [show msN 1 2 = 0 from rfl] at a2
    rw [show msN 1 3 = 0 from rfl] at b2
    omega
  · rw [show msN 2 2 = 0 from rfl] at a2
    rw [show msN 2 3 = 0 from rfl] at b2
    omega
  · rw [show msN 3 2 = 7 from rfl] at a2
    rw [show msN 3 3 = 0 from rfl] at b2
    omega
  · rw [show msN 4 2 = 7 from rfl] at a2
    rw [show msN 4 3 = 7 from rfl] at b2
    omega
  · rw [show msN 5 2 = 7 from rfl] at a2
    rw [show msN 5 3 = 7 from rfl] at b2
    omega
  · rw [show msN 6 2 = 7 from rfl] at a2
    rw [show msN 6 3 = 0 from rfl] at b2
    omega
  · rw [show msN 7 2 = 7 from rfl] at a2
    rw [show msN 7 3 = 30 from rfl] at b2
    rw [show lsN 7 3 = 1 from rfl] at b1
    omega
  · rw [show msN 8 2 = 7 from rfl] at a2
    rw [show msN 8 3 = 30 from rfl] at b2
    rw [show lsN 8 3 = 1 from rfl] at b1
    omega
  · rw [show msN 9 2 = 7 from rfl] at a2
    rw [show msN 9 3 = 0 from rfl] at b2
    omega
theorem ls1 : ∀ k, k ≤ 9 → lsN k 1 = 1 ∧ msN k 1 = 15 := by decide
end E71
