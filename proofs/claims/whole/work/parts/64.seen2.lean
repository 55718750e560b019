/-! seen: the class's questions -/
section S64
variable {M : px_Mem} {Q : px_Po} {y : iv_Y} {law : Nat}
/-- what a run of the trial leaves -/
def tq (y : iv_Y) (M M' : px_Mem) : Prop := cq y M M' ∧ ∀ a, 24 ≤ a → a < 28 → M'.1 a = M.1 a
theorem tq_rf (C : ic y M) : tq y M M := ⟨cq_rf C, fun _ _ _ => rfl⟩
theorem tq_tr {M1 M2 : px_Mem} (h : tq y M M1) (h2 : tq y M1 M2) : tq y M M2 := ⟨cq_tr h.1 h2.1, fun a h3 h4 => (h2.2 a h3 h4).trans (h.2 a h3 h4)⟩
theorem sc_73v (C : ic y M) {s : ws_S} (hC : ws_C s 47 M) (hW : ws_W s) (hm : ws_md s ≤ 140) (hl : law ≤ 3) {e : ws_E} (he : iv_ok e) (h : ∀ M', tq y M M' → ws_C (ws_st law s e) 47 M' → Q (some (.int (nI (ws_why s e)))) M') : px_T 0 73 0 [some (.ref 47), some (.int (nI (iv_pk e))), some (.int (nI law)), none, none, none, none] [] M Q :=
  sp_73 (Or.inr rfl) hC hW (by omega) he hl (fun M1 hP => h M1 ⟨cq_t C (cq_rf C) hP.1, fun a h1 h2 => (hP.1 a (by omega)).1⟩ hP.2.1)
theorem sc_60v (C : ic y M) (h : ∀ M', tq y M M' → ws_C ws_0 47 M' → Q none M') : px_T 0 60 0 [some (.ref 47)] [] M Q :=
  sp_60 (g := 0) (Or.inl ⟨rfl, Or.inr rfl⟩) (fun M1 k1 k2 _ => h M1 ⟨cq_t C (cq_rf C) k1, fun a h1 h2 => (k1 a (by omega)).1⟩ k2)
theorem sc_42 {m i0 t : Nat} {g : sn_G} {s : ws_S} (hm : m ≤ 20) (hS : Sn m g M) (hB : ∀ i, i < m → (g i).1 ≤ 70 ∧ 1 ≤ (g i).2.1 ∧ (g i).2.1 ≤ 15) (hC : ws_C s 47 M) (hW : ws_W s) (ht : t ≤ 70) (hi : i0 ≤ m) (h1 : (∃ i, i < m ∧ (g i).1 = t ∧ ¬ vl_pa s (g i).2.1 = (g i).2.2) → Q (some (.int (-1))) M) (h2 : ∀ i1, i0 ≤ i1 → i1 ≤ m → (∀ i, i0 ≤ i → i < i1 → (g i).1 = t ∧ vl_pa s (g i).2.1 = (g i).2.2) → (i1 = m ∨ ¬ (g i1).1 = t) → Q (some (.int (nI i1))) M) : px_T 0 42 0 [some (.ref 24), some (.int (nI i0)), some (.int (nI t)), some (.ref 47), none] [] M Q := by
  have hS1 := hS.1
  refine sg_42_0 (Or.inr rfl) ?_
  have hl : ∀ (k i : Nat), i + k = m → i0 ≤ i → (∀ j, i0 ≤ j → j < i → (g j).1 = t ∧ vl_pa s (g j).2.1 = (g j).2.2) → px_T 0 42 3 [some (.ref 24), some (.int (nI i0)), some (.int (nI t)), some (.ref 47), some (.int (nI i))] [] M Q := by
    intro k
    induction k with
    | zero =>
      intro i hik hii hj
      have e1 : i = m := by omega
      subst e1
      refine sg_42_3 (Or.inr rfl) (fun c1 => by exfalso; (try simp (disch := omega) only [in_lt, in_le, in_eq, in_add, in_mul, in_sb, in_cl, in_bz, in_bo, in_mo, not_true_eq_false, not_false_eq_true, il_0, il_1, il_2, il_3, il_4, il_5, il_6, il_7, il_8, il_9, il_10, il_11, il_12, il_13, il_14, il_15, il_16, il_31, hS1] at c1) <;> omega) (fun c1 c2 => ?_) (fun c1 c2 => by exfalso; (try simp (disch := omega) only [in_lt, in_le, in_eq, in_add, in_mul, in_sb, in_cl, in_bz, in_bo, in_mo, not_true_eq_false, not_false_eq_true, il_0, il_1, il_2, il_3, il_4, il_5, il_6, il_7, il_8, il_9, il_10, il_11, il_12, il_13, il_14, il_15, il_16, il_31, hS1] at c1 c2) <;> omega) (fun c1 c2 c3 => by exfalso; (try simp (disch := omega) only [in_lt, in_le, in_eq, in_add, in_mul, in_sb, in_cl, in_bz, in_bo, in_mo, not_true_eq_false, not_false_eq_true, il_0, il_1, il_2, il_3, il_4, il_5, il_6, il_7, il_8, il_9, il_10, il_11, il_12, il_13, il_14, il_15, il_16, il_31, hS1] at c1 c2 c3) <;> omega) (fun c1 c2 c3 => by exfalso; (try simp (disch := omega) only [in_lt, in_le, in_eq, in_add, in_mul, in_sb, in_cl, in_bz, in_bo, in_mo, not_true_eq_false, not_false_eq_true, il_0, il_1, il_2, il_3, il_4, il_5, il_6, il_7, il_8, il_9, il_10, il_11, il_12, il_13, il_14, il_15, il_16, il_31, hS1] at c1 c2 c3) <;> omega)
      exact h2 i hii (Nat.le_refl _) hj (Or.inl rfl)
    | succ k ih =>
      intro i hik hii hj
      obtain ⟨a1, a2, a3⟩ := hS.2 i (by omega)
      obtain ⟨b1, b2, b3⟩ := hB i (by omega)
      refine sg_42_3 (Or.inr rfl) (fun c1 => by exfalso; (try simp (disch := omega) only [in_lt, in_le, in_eq, in_add, in_mul, in_sb, in_cl, in_bz, in_bo, in_mo, not_true_eq_false, not_false_eq_true, il_0, il_1, il_2, il_3, il_4, il_5, il_6, il_7, il_8, il_9, il_10, il_11, il_12, il_13, il_14, il_15, il_16, il_31, hS1] at c1) <;> omega) (fun c1 c2 => by exfalso; (try simp (disch := omega) only [in_lt, in_le, in_eq, in_add, in_mul, in_sb, in_cl, in_bz, in_bo, in_mo, not_true_eq_false, not_false_eq_true, il_0, il_1, il_2, il_3, il_4, il_5, il_6, il_7, il_8, il_9, il_10, il_11, il_12, il_13, il_14, il_15, il_16, il_31, hS1] at c1 c2) <;> omega) (fun c1 c2 => by (try simp (disch := omega) only [in_lt, in_le, in_eq, in_add, in_mul, in_sb, in_cl, in_bz, in_bo, in_mo, not_true_eq_false, not_false_eq_true, il_0, il_1, il_2, il_3, il_4, il_5, il_6, il_7, il_8, il_9, il_10, il_11, il_12, il_13, il_14, il_15, il_16, il_31, hS1] at c1 c2 ⊢) <;> exact me_vin (by omega) (by omega)) (fun c1 c2 c3 => ?_) (fun c1 c2 c3 => ?_)
      · rw [in_cl (by omega), a1, in_eq (by omega) (by omega)] at c3
        rw [in_cl (by omega), a2]
        refine sw_64 (Or.inr rfl) hC hW b2 b3 (sg_42_39 (Or.inr rfl) (me_vin (by omega) (by omega)) (fun d => ?_) (fun d => ?_))
        · rw [in_cl (by omega), a3] at d
          rw [in_a1]
          refine ih (i + 1) (by omega) (by omega) (fun j j1 j2 => ?_)
          by_cases hji : j = i
          · subst hji
            exact ⟨c3, d⟩
          · exact hj j j1 (by omega)
        · rw [in_cl (by omega), a3] at d
          exact h1 ⟨i, by omega, c3, d⟩
      · rw [in_cl (by omega), a1, in_eq (by omega) (by omega)] at c3
        exact h2 i hii (by omega) hj (Or.inr c3)
  exact hl (m - i0) i0 (by omega) (Nat.le_refl _) (fun j h3 h4 => absurd h3 (by omega))
theorem sc_168 (C : ic y M) (hlw : law ≤ 3) {x : Int32} {m : Nat} {g : sn_G} (hm : m ≤ 20) (hS : Sn m g M) (hr : Sr m g) (hB : sn_B y m g) (h : ∀ M', tq y M M' → Q (some (.int (in_b (alB (fun i => sn_h y law (tr_k x) (g i)) m)))) M') : px_T 0 168 0 [some (.ref 0), some (.int x), some (.int (nI law)), none, none] [] M Q := by
  have hn := ic_n C
  have hB2 : ∀ i, i < m → (g i).1 ≤ 70 ∧ 1 ≤ (g i).2.1 ∧ (g i).2.1 ≤ 15 := fun i hi => by have := hB i hi; omega
  have yes : ∀ N, tq y M N → (∀ i, i < m → sn_h y law (tr_k x) (g i) = true) → Q (some (.int 1)) N := by
    intro N q ha
    have h9 := h N q
    rw [alB_t.mpr ha] at h9
    exact h9
  have no : ∀ N, tq y M N → (∃ i, i < m ∧ sn_h y law (tr_k x) (g i) = false) → Q (some (.int 0)) N := by
    intro N q ha
    obtain ⟨i, hi, hf⟩ := ha
    have h9 := h N q
    rw [alB_f hi hf] at h9
    exact h9
  -- -1: not as seen
  have lm : ∀ (N : px_Mem) (d4 : Nat), tq y M N → (∃ i, i < m ∧ sn_h y law (tr_k x) (g i) = false) → px_T 0 168 24 [some (.ref 0), some (.int x), some (.int (nI law)), some (.int (-1)), some (.int (nI d4))] [] N Q := by
    intro N d4 q ha
    have C1 := ic_cq C q.1
    have hneg : ((-1 : Int32) < 0) := by decide
    refine sg_168_24 (sp_53 (Or.inl rfl) C1.2.1 (sg_168_33 (fun _ _ => no N q ha) (fun _ c => absurd hneg c) (fun _ _ _ => no N q ha) (fun _ _ c => absurd hneg c) (fun _ c => absurd hneg c) (fun _ c => absurd hneg c) (fun _ c => absurd hneg c) (fun _ c => absurd hneg c)))
  have lp : ∀ (k e i1 : Nat) (N : px_Mem), e + k = iv_n y → tq y M N → ws_C (ws_run law (iv_ev y) (tr_k x) e) 47 N → i1 ≤ m → (∀ i, i < i1 → sn_h y law (tr_k x) (g i) = true) → (∀ i, i1 ≤ i → i < m → e < (g i).1) → px_T 0 168 24 [some (.ref 0), some (.int x), some (.int (nI law)), some (.int (nI i1)), some (.int (nI e))] [] N Q := by
    intro k
    induction k with
    | zero =>
      intro e i1 N he q hC hi hall hgt
      have C1 := ic_cq C q.1
      have e1 : e = iv_n y := by omega
      subst e1
      have e2 : i1 = m := by
        rcases Nat.lt_or_ge i1 m with c | c
        · have := hgt i1 (Nat.le_refl _) c
          have := hB i1 c
          omega
        · omega
      subst e2
      have hS1 : N.1 24 3 = nI i1 := (Sn_fr hS q.2).1
      refine sg_168_24 (sp_53 (Or.inl rfl) C1.2.1 ?_)
      refine sg_168_33 (fun c1 c2 => by exfalso; (try simp (disch := omega) only [in_lt, in_le, in_eq, in_add, in_mul, in_sb, in_cl, in_bz, in_bo, in_mo, not_true_eq_false, not_false_eq_true, il_0, il_1, il_2, il_3, il_4, il_5, il_6, il_7, il_8, il_9, il_10, il_11, il_12, il_13, il_14, il_15, il_16, il_31, hS1] at c1 c2) <;> omega) (fun c1 c2 => ?_) (fun c1 c2 c3 => by exfalso; (try simp (disch := omega) only [in_lt, in_le, in_eq, in_add, in_mul, in_sb, in_cl, in_bz, in_bo, in_mo, not_true_eq_false, not_false_eq_true, il_0, il_1, il_2, il_3, il_4, il_5, il_6, il_7, il_8, il_9, il_10, il_11, il_12, il_13, il_14, il_15, il_16, il_31, hS1] at c1 c2 c3) <;> omega) (fun c1 c2 c3 => by exfalso; (try simp (disch := omega) only [in_lt, in_le, in_eq, in_add, in_mul, in_sb, in_cl, in_bz, in_bo, in_mo, not_true_eq_false, not_false_eq_true, il_0, il_1, il_2, il_3, il_4, il_5, il_6, il_7, il_8, il_9, il_10, il_11, il_12, il_13, il_14, il_15, il_16, il_31, hS1] at c1 c2 c3) <;> omega) (fun c1 c2 c3 c4 => by exfalso; (try simp (disch := omega) only [in_lt, in_le, in_eq, in_add, in_mul, in_sb, in_cl, in_bz, in_bo, in_mo, not_true_eq_false, not_false_eq_true, il_0, il_1, il_2, il_3, il_4, il_5, il_6, il_7, il_8, il_9, il_10, il_11, il_12, il_13, il_14, il_15, il_16, il_31, hS1] at c1 c2 c3 c4) <;> omega) (fun c1 c2 c3 c4 => by exfalso; (try simp (disch := omega) only [in_lt, in_le, in_eq, in_add, in_mul, in_sb, in_cl, in_bz, in_bo, in_mo, not_true_eq_false, not_false_eq_true, il_0, il_1, il_2, il_3, il_4, il_5, il_6, il_7, il_8, il_9, il_10, il_11, il_12, il_13, il_14, il_15, il_16, il_31, hS1] at c1 c2 c3 c4) <;> omega) (fun c1 c2 c3 c4 => by exfalso; (try simp (disch := omega) only [in_lt, in_le, in_eq, in_add, in_mul, in_sb, in_cl, in_bz, in_bo, in_mo, not_true_eq_false, not_false_eq_true, il_0, il_1, il_2, il_3, il_4, il_5, il_6, il_7, il_8, il_9, il_10, il_11, il_12, il_13, il_14, il_15, il_16, il_31, hS1] at c1 c2 c3 c4) <;> omega) (fun c1 c2 c3 c4 => by exfalso; (try simp (disch := omega) only [in_lt, in_le, in_eq, in_add, in_mul, in_sb, in_cl, in_bz, in_bo, in_mo, not_true_eq_false, not_false_eq_true, il_0, il_1, il_2, il_3, il_4, il_5, il_6, il_7, il_8, il_9, il_10, il_11, il_12, il_13, il_14, il_15, il_16, il_31, hS1] at c1 c2 c3 c4) <;> omega)
      exact yes N q hall
    | succ k ih =>
      intro e i1 N he q hC hi hall hgt
      have C1 := ic_cq C q.1
      have hS2 := Sn_fr hS q.2
      have hS1 : N.1 24 3 = nI m := hS2.1
      have hok := C1.1.2.2.2.2.2 e (by omega)
      refine sg_168_24 (sp_53 (Or.inl rfl) C1.2.1 ?_)
      rcases Nat.lt_or_ge i1 m with hlt | hge
      · -- behind the event
        have step : ∀ (N2 : px_Mem), tq y M N2 → ws_C (ws_run law (iv_ev y) (tr_k x) (e + 1)) 47 N2 → px_T 0 42 0 [some (.ref 24), some (.int (nI i1)), some (.int (nI e + 1)), some (.ref 47), none] [] N2 (fun r M1 => px_T 0 168 91 [some (.ref 0), some (.int x), some (.int (nI law)), some (.int (nI i1)), some (.int (nI e))] (r.toList ++ []) M1 Q) := by
          intro N2 q2 hC2
          rw [in_a1]
          refine sc_42 hm (Sn_fr hS q2.2) hB2 hC2 (trW C.1 (by omega)) (by omega) (by omega) (fun ha => sg_168_91 ?_) (fun i2 j1 j2 j3 j4 => sg_168_91 ?_)
          · rw [in_a1]
            obtain ⟨i, hi, ht, hf⟩ := ha
            refine lm N2 (e + 1) q2 ⟨i, hi, ?_⟩
            unfold sn_h
            rw [ht]
            exact decide_eq_false hf
          · rw [in_a1]
            refine ih (e + 1) i2 N2 (by omega) q2 hC2 j2 (fun i hi => ?_) (fun i h1 h2 => ?_)
            · rcases Nat.lt_or_ge i i1 with c | c
              · exact hall i c
              · have h9 := j3 i c hi
                unfold sn_h
                rw [h9.1]
                exact decide_eq_true h9.2
            · rcases j4 with c | c
              · omega
              · have h7 := hgt i2 (by omega) (by omega)
                have h8 := hr i2 i h1 h2
                omega
        refine sg_168_33 (fun c1 c2 => by exfalso; (try simp (disch := omega) only [in_lt, in_le, in_eq, in_add, in_mul, in_sb, in_cl, in_bz, in_bo, in_mo, not_true_eq_false, not_false_eq_true, il_0, il_1, il_2, il_3, il_4, il_5, il_6, il_7, il_8, il_9, il_10, il_11, il_12, il_13, il_14, il_15, il_16, il_31, hS1] at c1 c2) <;> omega) (fun c1 c2 => by exfalso; (try simp (disch := omega) only [in_lt, in_le, in_eq, in_add, in_mul, in_sb, in_cl, in_bz, in_bo, in_mo, not_true_eq_false, not_false_eq_true, il_0, il_1, il_2, il_3, il_4, il_5, il_6, il_7, il_8, il_9, il_10, il_11, il_12, il_13, il_14, il_15, il_16, il_31, hS1] at c1 c2) <;> omega) (fun c1 c2 c3 => by exfalso; (try simp (disch := omega) only [in_lt, in_le, in_eq, in_add, in_mul, in_sb, in_cl, in_bz, in_bo, in_mo, not_true_eq_false, not_false_eq_true, il_0, il_1, il_2, il_3, il_4, il_5, il_6, il_7, il_8, il_9, il_10, il_11, il_12, il_13, il_14, il_15, il_16, il_31, hS1] at c1 c2 c3) <;> omega) (fun c1 c2 c3 => by exfalso; (try simp (disch := omega) only [in_lt, in_le, in_eq, in_add, in_mul, in_sb, in_cl, in_bz, in_bo, in_mo, not_true_eq_false, not_false_eq_true, il_0, il_1, il_2, il_3, il_4, il_5, il_6, il_7, il_8, il_9, il_10, il_11, il_12, il_13, il_14, il_15, il_16, il_31, hS1] at c1 c2 c3) <;> omega) (fun c1 c2 c3 c4 => by exfalso; (try simp (disch := omega) only [in_lt, in_le, in_eq, in_add, in_mul, in_sb, in_cl, in_bz, in_bo, in_mo, not_true_eq_false, not_false_eq_true, il_0, il_1, il_2, il_3, il_4, il_5, il_6, il_7, il_8, il_9, il_10, il_11, il_12, il_13, il_14, il_15, il_16, il_31, hS1] at c1 c2 c3 c4) <;> omega) (fun c1 c2 c3 c4 => by exfalso; (try simp (disch := omega) only [in_lt, in_le, in_eq, in_add, in_mul, in_sb, in_cl, in_bz, in_bo, in_mo, not_true_eq_false, not_false_eq_true, il_0, il_1, il_2, il_3, il_4, il_5, il_6, il_7, il_8, il_9, il_10, il_11, il_12, il_13, il_14, il_15, il_16, il_31, hS1] at c1 c2 c3 c4) <;> omega) (fun c1 c2 c3 c4 => ?_) (fun c1 c2 c3 c4 => ?_)
        · exact step N q (by rw [ws_run_k (show tr_k x e = true from decide_eq_true (by assumption))]; exact hC)
        · refine sp_54 (Or.inl rfl) C1.2.1 (by omega) hn (sg_168_70 ?_)
          refine sc_73v C1 hC (trW C.1 (by omega)) (trm C.1 (by omega)) hlw hok (fun M2 q2 hC2 => sg_168_74 ?_)
          exact step M2 (tq_tr q q2) (by rw [ws_run_s (show tr_k x e = false from decide_eq_false (by assumption))]; exact hC2)
      · have e2 : i1 = m := by omega
        subst e2
        refine sg_168_33 (fun c1 c2 => by exfalso; (try simp (disch := omega) only [in_lt, in_le, in_eq, in_add, in_mul, in_sb, in_cl, in_bz, in_bo, in_mo, not_true_eq_false, not_false_eq_true, il_0, il_1, il_2, il_3, il_4, il_5, il_6, il_7, il_8, il_9, il_10, il_11, il_12, il_13, il_14, il_15, il_16, il_31, hS1] at c1 c2) <;> omega) (fun c1 c2 => by exfalso; (try simp (disch := omega) only [in_lt, in_le, in_eq, in_add, in_mul, in_sb, in_cl, in_bz, in_bo, in_mo, not_true_eq_false, not_false_eq_true, il_0, il_1, il_2, il_3, il_4, il_5, il_6, il_7, il_8, il_9, il_10, il_11, il_12, il_13, il_14, il_15, il_16, il_31, hS1] at c1 c2) <;> omega) (fun c1 c2 c3 => by exfalso; (try simp (disch := omega) only [in_lt, in_le, in_eq, in_add, in_mul, in_sb, in_cl, in_bz, in_bo, in_mo, not_true_eq_false, not_false_eq_true, il_0, il_1, il_2, il_3, il_4, il_5, il_6, il_7, il_8, il_9, il_10, il_11, il_12, il_13, il_14, il_15, il_16, il_31, hS1] at c1 c2 c3) <;> omega) (fun c1 c2 c3 => by exfalso; (try simp (disch := omega) only [in_lt, in_le, in_eq, in_add, in_mul, in_sb, in_cl, in_bz, in_bo, in_mo, not_true_eq_false, not_false_eq_true, il_0, il_1, il_2, il_3, il_4, il_5, il_6, il_7, il_8, il_9, il_10, il_11, il_12, il_13, il_14, il_15, il_16, il_31, hS1] at c1 c2 c3) <;> omega) (fun c1 c2 c3 c4 => by exfalso; (try simp (disch := omega) only [in_lt, in_le, in_eq, in_add, in_mul, in_sb, in_cl, in_bz, in_bo, in_mo, not_true_eq_false, not_false_eq_true, il_0, il_1, il_2, il_3, il_4, il_5, il_6, il_7, il_8, il_9, il_10, il_11, il_12, il_13, il_14, il_15, il_16, il_31, hS1] at c1 c2 c3 c4) <;> omega) (fun c1 c2 c3 c4 => ?_) (fun c1 c2 c3 c4 => by exfalso; (try simp (disch := omega) only [in_lt, in_le, in_eq, in_add, in_mul, in_sb, in_cl, in_bz, in_bo, in_mo, not_true_eq_false, not_false_eq_true, il_0, il_1, il_2, il_3, il_4, il_5, il_6, il_7, il_8, il_9, il_10, il_11, il_12, il_13, il_14, il_15, il_16, il_31, hS1] at c1 c2 c3 c4) <;> omega) (fun c1 c2 c3 c4 => by exfalso; (try simp (disch := omega) only [in_lt, in_le, in_eq, in_add, in_mul, in_sb, in_cl, in_bz, in_bo, in_mo, not_true_eq_false, not_false_eq_true, il_0, il_1, il_2, il_3, il_4, il_5, il_6, il_7, il_8, il_9, il_10, il_11, il_12, il_13, il_14, il_15, il_16, il_31, hS1] at c1 c2 c3 c4) <;> omega)
        exact yes N q hall
  refine sg_168_0 (sc_60v C (fun M1 q1 hC => sg_168_7 ?_))
  refine sc_42 (i0 := 0) (t := 0) hm (Sn_fr hS q1.2) hB2 hC ws_W_0 (by omega) (by omega) (fun ha => sg_168_20 ?_) (fun i2 j1 j2 j3 j4 => sg_168_20 ?_)
  · obtain ⟨i, hi, ht, hf⟩ := ha
    refine lm M1 0 q1 ⟨i, hi, ?_⟩
    unfold sn_h
    rw [ht]
    exact decide_eq_false hf
  · refine lp (iv_n y) 0 i2 M1 (by omega) q1 hC j2 (fun i hi => ?_) (fun i h1 h2 => ?_)
    · have h9 := j3 i (by omega) hi
      unfold sn_h
      rw [h9.1]
      exact decide_eq_true h9.2
    · rcases j4 with c | c
      · omega
      · have h8 := hr i2 i h1 h2
        omega
/-- learnt -/
def sn_L (y : iv_Y) (n : Nat) (f : Nat → Int64) (M : px_Mem) : Prop := ∃ g, Sn (n / 3) g M ∧ Sr (n / 3) g ∧ sn_B y (n / 3) g ∧ ∀ φ : Nat × Nat × Int32 → Prop, (∀ i, i < n / 3 → φ (g i)) ↔ (∀ i, i < n / 3 → φ (sn_t f i))
theorem sn_L_fr {M1 : px_Mem} {n : Nat} {f : Nat → Int64} (h : sn_L y n f M) (q : tq y M M1) : sn_L y n f M1 := by
  obtain ⟨g, h1, h2⟩ := h
  exact ⟨g, Sn_fr h1 q.2, h2⟩
theorem sc_168L (C : ic y M) (hlw : law ≤ 3) {x : Int32} {n : Nat} {f : Nat → Int64} (hn : n ≤ 60) (hL : sn_L y n f M) (h : ∀ M', tq y M M' → Q (some (.int (in_b (sn_v y law (tr_k x) n f)))) M') : px_T 0 168 0 [some (.ref 0), some (.int x), some (.int (nI law)), none, none] [] M Q := by
  obtain ⟨g, h1, h2, h3, h4⟩ := hL
  refine sc_168 C hlw (by omega) h1 h2 h3 (fun M' q => ?_)
  have e : alB (fun i => sn_h y law (tr_k x) (g i)) (n / 3) = sn_v y law (tr_k x) n f := by
    unfold sn_v
    rw [Bool.eq_iff_iff, alB_t, alB_t]
    exact h4 (fun z => sn_h y law (tr_k x) z = true)
  rw [e]
  exact h M' q
theorem sc_167 (C : ic y M) {x : Int32} {b : Bool} {n : Nat} {f : Nat → Int64} (hw : rg x 0 3 = true → rwc x.toNatClampNeg b n f M) (h : ∀ M', cq y M M' → (sn_l y b n f x = 0 → n ≤ 60 ∧ sn_L y n f M') → Q (some (.int (sn_l y b n f x))) M') : px_T 0 167 0 [some (.ref 0), some (.int x)] [] M Q := by
  have hny := ic_n C
  have bad : (rg x 0 3 = false ∨ iv_ln y = 0) → Q (some (.int (-2))) M := by
    intro hb
    have e : sn_l y b n f x = -2 := by
      unfold sn_l
      rw [if_neg]
      rcases hb with q | q
      · rw [q]; simp
      · rw [q]; simp
    have h9 := h M (cq_rf C)
    rw [e] at h9
    exact h9 (fun q => absurd q (by decide))
  refine sg_167_0 (sc_156 (fun k ek k4 g1 => sg_167_4 (fun _ => ?_) (fun q => absurd rfl q)) (fun g1 => sg_167_4 (fun q => absurd q (by decide)) (fun _ => bad (Or.inl g1))))
  refine sc_151 C (fun g2 => ?_) (fun g2 => sg_167_11 (fun q => absurd q (by decide)) (fun q => absurd q (by decide)) (fun q => absurd q (by decide)) (fun q => absurd q (by decide)) (fun _ => bad (Or.inr g2)))
  have hw2 := hw g1
  have el : sn_l y b n f x = if b = true then (if sn_ok y n f = true then 0 else -2) else -6 := by
    unfold sn_l
    rw [g1, decide_eq_true g2, if_pos (by decide)]
  rw [el] at h
  subst ek
  have hrf : px_rf 15 (nI k).toNatClampNeg = 16 + 2 * k := by rw [in_cl (by omega), rf15 k4]
  have hiR : px_isR (16 + 2 * k) := by unfold px_isR; omega
  rw [in_cl (by omega)] at hw2
  obtain ⟨n60, hw3⟩ := hw2
  refine sg_167_11 (fun _ => me_vin (by omega) (by omega)) (fun _ => by rw [hrf]; rcases hiR with e | e | e | e <;> rw [e] <;> rfl) (fun _ c => ?_) (fun _ c => ?_) (fun q => absurd rfl q)
  · rcases hw3 with ⟨b0, _⟩ | ⟨b1, w1, _⟩
    · rw [b0, if_neg (by decide)] at h
      exact h M (cq_rf C) (fun q => absurd q (by decide))
    · rw [hrf, w1] at c
      exact absurd c (by decide)
  · rcases hw3 with ⟨b0, w0⟩ | ⟨b1, w1, w3, w4⟩
    · rw [hrf] at c
      exact absurd w0 c
    · rw [b1, if_pos rfl] at h
      refine sp_53 (Or.inl rfl) C.2.1 ?_
      rw [hrf]
      refine sg_167_49 hiR ?_
      refine sc_40 C hiR n60 w3 (by rw [show 16 + 2 * k + 1 = 17 + 2 * k by omega]; exact w4) (fun M1 g k1 k2 k3 k5 k6 => sg_167_52 (fun q => absurd q (by decide)) (fun _ => ?_)) (fun M1 k1 k6 => sg_167_52 (fun _ => ?_) (fun q => absurd rfl q))
      · have h9 := h M1 (sn_fr_q C k1)
        rw [if_pos k6] at h9
        refine h9 (fun _ => ⟨n60, g, k2, k3, ?_, k5⟩)
        refine (k5 (fun z => z.1 ≤ iv_n y ∧ 1 ≤ z.2.1 ∧ z.2.1 ≤ 15)).mpr (fun i hi => ?_)
        unfold sn_ok at k6
        rw [Bool.and_eq_true] at k6
        have h8 := alB_t.mp k6.2 i hi
        unfold sn_d at h8
        rw [Bool.and_eq_true, Bool.and_eq_true] at h8
        have h7 := of_decide_eq_true h8.1
        have h6 := of_decide_eq_true h8.2.1
        show (f (3 * i)).toInt.toNat ≤ iv_n y ∧ 1 ≤ (f (3 * i + 1)).toInt.toNat ∧ (f (3 * i + 1)).toInt.toNat ≤ 15
        omega
      · have h9 := h M1 (sn_fr_q C k1)
        rw [if_neg (by rw [k6]; decide)] at h9
        exact h9 (fun q => absurd q (by decide))
theorem sc_128 (C : ic y M) {x : Int32} {b : Bool} {n : Nat} {f : Nat → Int64} (hw : rg x 0 3 = true → rwc x.toNatClampNeg b n f M) (h : ∀ M', cq y M M' → Q (some (.int (an_128 y b n f x))) M') : px_T 0 128 0 [some (.ref 0), some (.int x), none, none, none] [] M Q := by
  unfold an_128 at h
  refine sg_128_0 (sc_167 C hw (fun M1 q1 hL => sg_128_5 (fun c => ?_) (fun c => ?_)))
  · obtain ⟨n60, hL1⟩ := hL c
    rw [if_pos c] at h
    have ht := C.1.2.2.1
    have hl : ∀ (k e : Nat) (N : px_Mem), e + k = iv_td y → tq y M1 N → px_T 0 128 17 [some (.ref 0), some (.int x), some (.int (sn_l y b n f x)), some (.int (nI (fb_ct (fun e => sn_v y (iv_lw y) (tr_k (nI e)) n f) e))), some (.int (nI e))] [] N Q := by
      intro k
      induction k with
      | zero =>
        intro e N he q
        have C1 := ic_cq C (cq_tr q1 q.1)
        have f4 : N.1 4 4 = nI (iv_td y) := C1.2.1.2.2.2.1
        have e1 : e = iv_td y := by omega
        subst e1
        refine sg_128_17 (fun c1 => ?_) (fun c1 => by exfalso; (try simp (disch := omega) only [in_lt, in_le, in_eq, in_add, in_mul, in_sb, in_cl, in_bz, in_bo, in_mo, not_true_eq_false, not_false_eq_true, il_0, il_1, il_2, il_3, il_4, il_5, il_6, il_7, il_8, il_9, il_10, il_11, il_12, il_13, il_14, il_15, il_16, il_31, f4] at c1) <;> omega)
        exact h N (cq_tr q1 q.1)
      | succ k ih =>
        intro e N he q
        have C1 := ic_cq C (cq_tr q1 q.1)
        have f4 : N.1 4 4 = nI (iv_td y) := C1.2.1.2.2.2.1
        refine sg_128_17 (fun c1 => by exfalso; (try simp (disch := omega) only [in_lt, in_le, in_eq, in_add, in_mul, in_sb, in_cl, in_bz, in_bo, in_mo, not_true_eq_false, not_false_eq_true, il_0, il_1, il_2, il_3, il_4, il_5, il_6, il_7, il_8, il_9, il_10, il_11, il_12, il_13, il_14, il_15, il_16, il_31, f4] at c1) <;> omega) (fun c1 => ?_)
        rw [C1.2.1.2.1]
        refine sc_168L C1 C.1.1 n60 (sn_L_fr hL1 q) (fun M2 q2 => sg_128_42 (fun d => ?_) (fun d => ?_))
        · rw [in_b0] at d
          have h9 := ih (e + 1) M2 (by omega) (tq_tr q q2)
          rw [ct_n (p := fun e => sn_v y (iv_lw y) (tr_k (nI e)) n f) (n := e) d] at h9
          rw [in_a1]
          exact h9
        · rw [in_b0, Bool.not_eq_false] at d
          have h9 := ih (e + 1) M2 (by omega) (tq_tr q q2)
          rw [ct_y (p := fun e => sn_v y (iv_lw y) (tr_k (nI e)) n f) (n := e) d] at h9
          rw [in_a1, in_a1]
          exact h9
    exact hl (iv_td y) 0 M1 (by omega) (tq_rf (ic_cq C q1))
  · rw [if_neg c] at h
    exact h M1 q1
theorem sc_129 (C : ic y M) {x : Int32} {b : Bool} {n : Nat} {f : Nat → Int64} (hw : rg x 0 3 = true → rwc x.toNatClampNeg b n f M) (h : ∀ M', cq y M M' → Q (some (.int (an_129 y b n f x))) M') : px_T 0 129 0 [some (.ref 0), some (.int x), none, none] [] M Q := by
  unfold an_129 at h
  refine sg_129_0 (sc_167 C hw (fun M1 q1 hL => sg_129_5 (fun c => ?_) (fun c => ?_)))
  · obtain ⟨n60, hL1⟩ := hL c
    rw [if_pos c] at h
    have ht := C.1.2.2.1
    have hl : ∀ (k e : Nat) (N : px_Mem), e + k = iv_td y → tq y M1 N → vl_ft (fun e => sn_v y (iv_lw y) (tr_k (nI e)) n f) (iv_td y) 0 = vl_ft (fun e => sn_v y (iv_lw y) (tr_k (nI e)) n f) k e → px_T 0 129 14 [some (.ref 0), some (.int x), some (.int (sn_l y b n f x)), some (.int (nI e))] [] N Q := by
      intro k
      induction k with
      | zero =>
        intro e N he q hv
        have C1 := ic_cq C (cq_tr q1 q.1)
        have f4 : N.1 4 4 = nI (iv_td y) := C1.2.1.2.2.2.1
        have e1 : e = iv_td y := by omega
        subst e1
        refine sg_129_14 (fun c1 => ?_) (fun c1 => by exfalso; (try simp (disch := omega) only [in_lt, in_le, in_eq, in_add, in_mul, in_sb, in_cl, in_bz, in_bo, in_mo, not_true_eq_false, not_false_eq_true, il_0, il_1, il_2, il_3, il_4, il_5, il_6, il_7, il_8, il_9, il_10, il_11, il_12, il_13, il_14, il_15, il_16, il_31, f4] at c1) <;> omega)
        have h9 := h N (cq_tr q1 q.1)
        rw [hv] at h9
        exact h9
      | succ k ih =>
        intro e N he q hv
        have C1 := ic_cq C (cq_tr q1 q.1)
        have f4 : N.1 4 4 = nI (iv_td y) := C1.2.1.2.2.2.1
        have hv2 : vl_ft (fun e => sn_v y (iv_lw y) (tr_k (nI e)) n f) (k + 1) e = if sn_v y (iv_lw y) (tr_k (nI e)) n f = true then nI e else vl_ft (fun e => sn_v y (iv_lw y) (tr_k (nI e)) n f) k (e + 1) := rfl
        rw [hv2] at hv
        refine sg_129_14 (fun c1 => by exfalso; (try simp (disch := omega) only [in_lt, in_le, in_eq, in_add, in_mul, in_sb, in_cl, in_bz, in_bo, in_mo, not_true_eq_false, not_false_eq_true, il_0, il_1, il_2, il_3, il_4, il_5, il_6, il_7, il_8, il_9, il_10, il_11, il_12, il_13, il_14, il_15, il_16, il_31, f4] at c1) <;> omega) (fun c1 => ?_)
        rw [C1.2.1.2.1]
        refine sc_168L C1 C.1.1 n60 (sn_L_fr hL1 q) (fun M2 q2 => sg_129_37 (fun d => ?_) (fun d => ?_))
        · rw [in_b0] at d
          rw [if_neg (by rw [d]; decide)] at hv
          rw [in_a1]
          exact ih (e + 1) M2 (by omega) (tq_tr q q2) hv
        · rw [in_b0, Bool.not_eq_false] at d
          rw [if_pos d] at hv
          have h9 := h M2 (cq_tr q1 (tq_tr q q2).1)
          rw [hv] at h9
          exact h9
    exact hl (iv_td y) 0 M1 (by omega) (tq_rf (ic_cq C q1)) rfl
  · rw [if_neg c] at h
    exact h M1 q1
theorem sc_130 (C : ic y M) {x : Int32} {b : Bool} {n : Nat} {f : Nat → Int64} (hw : rg x 0 3 = true → rwc x.toNatClampNeg b n f M) (h : ∀ M', cq y M M' → Q (some (.int (an_130 y b n f x))) M') : px_T 0 130 0 [some (.ref 0), some (.int x), none] [] M Q := by
  unfold an_130 at h
  refine sg_130_0 (sc_167 C hw (fun M1 q1 hL => sg_130_5 (fun c => ?_) (fun c => ?_)))
  · obtain ⟨n60, hL1⟩ := hL c
    rw [if_pos c] at h
    have C1 := ic_cq C q1
    rw [C1.2.1.2.1]
    refine sc_168L C1 C.1.1 n60 hL1 (fun M2 q2 => sg_130_24 (fun d => ?_) (fun d => ?_))
    · rw [in_b0] at d
      rw [d] at h
      exact h M2 (cq_tr q1 q2.1)
    · rw [in_b0, Bool.not_eq_false] at d
      rw [d] at h
      exact h M2 (cq_tr q1 q2.1)
  · rw [if_neg c] at h
    exact h M1 q1
theorem sc_131 (C : ic y M) {x : Int32} {b : Bool} {n : Nat} {f : Nat → Int64} (hw : rg x 0 3 = true → rwc x.toNatClampNeg b n f M) (h : ∀ M', cq y M M' → Q (some (.int (an_131 y b n f x))) M') : px_T 0 131 0 [some (.ref 0), some (.int x), none, none, none] [] M Q := by
  unfold an_131 at h
  refine sg_131_0 (sc_167 C hw (fun M1 q1 hL => sg_131_5 (fun c => ?_) (fun c => ?_)))
  · obtain ⟨n60, hL1⟩ := hL c
    rw [if_pos c] at h
    have hl : ∀ (k e : Nat) (N : px_Mem), e + k = 4 → tq y M1 N → px_T 0 131 17 [some (.ref 0), some (.int x), some (.int (sn_l y b n f x)), some (.int (nI (bs (fun l => sn_v y l (tr_k (-1)) n f) e))), some (.int (nI e))] [] N Q := by
      intro k
      induction k with
      | zero =>
        intro e N he q
        have e1 : e = 4 := by omega
        subst e1
        refine sg_131_17 (fun c1 => ?_) (fun c1 => by exfalso; (try simp (disch := omega) only [in_lt, in_le, in_eq, in_add, in_mul, in_sb, in_cl, in_bz, in_bo, in_mo, not_true_eq_false, not_false_eq_true, il_0, il_1, il_2, il_3, il_4, il_5, il_6, il_7, il_8, il_9, il_10, il_11, il_12, il_13, il_14, il_15, il_16, il_31] at c1) <;> omega)
        exact h N (cq_tr q1 q.1)
      | succ k ih =>
        intro e N he q
        have C1 := ic_cq C (cq_tr q1 q.1)
        refine sg_131_17 (fun c1 => by exfalso; (try simp (disch := omega) only [in_lt, in_le, in_eq, in_add, in_mul, in_sb, in_cl, in_bz, in_bo, in_mo, not_true_eq_false, not_false_eq_true, il_0, il_1, il_2, il_3, il_4, il_5, il_6, il_7, il_8, il_9, il_10, il_11, il_12, il_13, il_14, il_15, il_16, il_31] at c1) <;> omega) (fun c1 => ?_)
        refine sc_168L C1 (by omega) n60 (sn_L_fr hL1 q) (fun M2 q2 => sg_131_30 (fun d => ?_) (fun d => ?_))
        · rw [in_b0] at d
          have h9 := ih (e + 1) M2 (by omega) (tq_tr q q2)
          rw [bs_n (f := fun l => sn_v y l (tr_k (-1)) n f) (n := e) d] at h9
          rw [in_a1]
          exact h9
        · rw [in_b0, Bool.not_eq_false] at d
          have h9 := ih (e + 1) M2 (by omega) (tq_tr q q2)
          rw [bs_y (f := fun l => sn_v y l (tr_k (-1)) n f) (n := e) d] at h9
          rw [in_one (by omega), in_or, in_a1]
          exact h9
    exact hl 4 0 M1 (by omega) (tq_rf (ic_cq C q1))
  · rw [if_neg c] at h
    exact h M1 q1
end S64
