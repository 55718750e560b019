/-! labels -/
def vl_110 (s : ws_S) (p k : Nat) : Int32 := nI (sh_la s (8 * p + k)) - 1
def an_110 (y : iv_Y) (x1 x2 x3 : Int32) : Int32 := if (tk y x3 && (rg x1 1 15 && rg x2 0 7)) = true then vl_110 (iv_rn y x3.toNatClampNeg) x1.toNatClampNeg x2.toNatClampNeg else -2
/-- labels of the first n handles: sizes, labels and objects met, at places -/
def lb_at (g : Nat × (Nat → Nat) × (Nat → Nat)) (a b : Nat) (z : Int32) (M : px_Mem) : Prop := z = nI g.1 ∧ (∀ o, o < 200 → M.1 a o = nI (g.2.1 o) - 1) ∧ ∀ l, l < g.1 → M.1 b l = nI (g.2.2 l)
section L66
variable {M : px_Mem} {Q : px_Po} {y : iv_Y} {s : ws_S}
theorem sh_go_s (ob : Nat → Nat) (n : Nat) : sh_go ob (n + 1) = if ob (8 + n) ≠ 0 ∧ (sh_go ob n).2.1 (ob (8 + n) - 1) = 0 then ((sh_go ob n).1 + 1, ws_up (sh_go ob n).2.1 (ob (8 + n) - 1) ((sh_go ob n).1 + 1), ws_up (sh_go ob n).2.2 (sh_go ob n).1 (ob (8 + n) - 1)) else sh_go ob n := rfl
theorem sh_go_b (ob : Nat → Nat) : ∀ n, (sh_go ob n).1 ≤ n ∧ ∀ o, (sh_go ob n).2.1 o ≤ (sh_go ob n).1
  | 0 => ⟨Nat.le_refl _, fun _ => Nat.le_refl _⟩
  | n + 1 => by
    have ih := sh_go_b ob n
    rw [sh_go_s]
    split
    · refine ⟨by show _ + 1 ≤ _; omega, fun o => ?_⟩
      show ws_up _ _ _ o ≤ _ + 1
      unfold ws_up
      split
      · omega
      · have := ih.2 o
        omega
    · exact ⟨by omega, ih.2⟩
/-- what is met is held, and has its label -/
theorem sh_go_m (ob : Nat → Nat) : ∀ n, (∀ l, l < (sh_go ob n).1 → (∃ i, i < n ∧ ob (8 + i) = (sh_go ob n).2.2 l + 1) ∧ (sh_go ob n).2.1 ((sh_go ob n).2.2 l) = l + 1) ∧ (∀ i, i < n → ob (8 + i) ≠ 0 → (sh_go ob n).2.1 (ob (8 + i) - 1) ≠ 0)
  | 0 => ⟨fun l hl => absurd hl (Nat.not_lt_zero l), fun i hi => absurd hi (Nat.not_lt_zero i)⟩
  | n + 1 => by
    obtain ⟨ih1, ih2⟩ := sh_go_m ob n
    rw [sh_go_s]
    split
    · rename_i hc
      refine ⟨fun l hl => ?_, fun i hi h0 => ?_⟩
      · have hl2 : l < (sh_go ob n).1 + 1 := hl
        by_cases e : l = (sh_go ob n).1
        · have e1 : ws_up (sh_go ob n).2.2 (sh_go ob n).1 (ob (8 + n) - 1) l = ob (8 + n) - 1 := by unfold ws_up; rw [if_pos e]
          show (∃ i, i < n + 1 ∧ ob (8 + i) = ws_up (sh_go ob n).2.2 (sh_go ob n).1 (ob (8 + n) - 1) l + 1) ∧ ws_up (sh_go ob n).2.1 (ob (8 + n) - 1) ((sh_go ob n).1 + 1) (ws_up (sh_go ob n).2.2 (sh_go ob n).1 (ob (8 + n) - 1) l) = l + 1
          rw [e1]
          refine ⟨⟨n, by omega, by omega⟩, ?_⟩
          unfold ws_up
          rw [if_pos rfl, e]
        · have e1 : ws_up (sh_go ob n).2.2 (sh_go ob n).1 (ob (8 + n) - 1) l = (sh_go ob n).2.2 l := by unfold ws_up; rw [if_neg e]
          obtain ⟨⟨i, hi, hob⟩, hlb⟩ := ih1 l (by omega)
          show (∃ i, i < n + 1 ∧ ob (8 + i) = ws_up (sh_go ob n).2.2 (sh_go ob n).1 (ob (8 + n) - 1) l + 1) ∧ ws_up (sh_go ob n).2.1 (ob (8 + n) - 1) ((sh_go ob n).1 + 1) (ws_up (sh_go ob n).2.2 (sh_go ob n).1 (ob (8 + n) - 1) l) = l + 1
          rw [e1]
          refine ⟨⟨i, by omega, hob⟩, ?_⟩
          unfold ws_up
          rw [if_neg]
          · exact hlb
          · intro q
            rw [q] at hlb
            omega
      · show ws_up (sh_go ob n).2.1 (ob (8 + n) - 1) ((sh_go ob n).1 + 1) (ob (8 + i) - 1) ≠ 0
        unfold ws_up
        split
        · omega
        · rename_i hne
          refine ih2 i ?_ h0
          have : i ≠ n := fun q => hne (by rw [q])
          omega
    · rename_i hc
      refine ⟨fun l hl => ?_, fun i hi h0 => ?_⟩
      · obtain ⟨⟨i, hi, hob⟩, hlb⟩ := ih1 l hl
        exact ⟨⟨i, by omega, hob⟩, hlb⟩
      · by_cases e : i = n
        · subst e
          exact fun q => hc ⟨h0, q⟩
        · exact ih2 i (by omega) h0
theorem nI_m1 {u : Nat} (h : u < 2 ^ 31) : ((0 : Int32) ≤ nI u - 1) ↔ u ≠ 0 := in_omg h
theorem up_at {g : Nat × (Nat → Nat) × (Nat → Nat)} {a b o : Nat} {z : Int32} {N : px_Mem} (hab : a ≠ b) (hg : g.1 ≤ 200) (h : lb_at g a b z M) (h1 : N.1 a = upd (M.1 a) o (nI g.1)) (h2 : N.1 b = upd (M.1 b) g.1 (nI o)) : lb_at (g.1 + 1, ws_up g.2.1 o (g.1 + 1), ws_up g.2.2 g.1 o) a b (nI (g.1 + 1)) N := by
  obtain ⟨k1, k2, k3⟩ := h
  refine ⟨rfl, fun x hx => ?_, fun l hl => ?_⟩
  · rw [h1]
    show upd (M.1 a) o (nI g.1) x = nI (ws_up g.2.1 o (g.1 + 1) x) - 1
    unfold ws_up
    by_cases e : x = o
    · rw [e, px_upd_self, if_pos rfl, in_s1 (by omega), Nat.add_sub_cancel]
    · rw [px_upd_ne e, if_neg e]
      exact k2 x hx
  · rw [h2]
    have hl2 : l < g.1 + 1 := hl
    show upd (M.1 b) g.1 (nI o) l = nI (ws_up g.2.2 g.1 o l)
    unfold ws_up
    by_cases e : l = g.1
    · rw [e, px_upd_self, if_pos rfl]
    · rw [px_upd_ne e, if_neg e]
      exact k3 l (by omega)
/-! the class -/
def lb_fr (M M' : px_Mem) : Prop := (∀ a, a ≠ 38 → a ≠ 39 → a ≠ 40 → M'.1 a = M.1 a) ∧ (∀ i, i ≠ 4 → M'.1 38 i = M.1 38 i) ∧ M'.2 = M.2
theorem lb_fr_rf : lb_fr M M := ⟨fun _ _ _ _ => rfl, fun _ _ => rfl, rfl⟩
theorem lb_fr_tr {M1 M2 : px_Mem} (h : lb_fr M M1) (h2 : lb_fr M1 M2) : lb_fr M M2 := ⟨fun a p q r => (h2.1 a p q r).trans (h.1 a p q r), fun i p => (h2.2.1 i p).trans (h.2.1 i p), h2.2.2.trans h.2.2⟩
theorem lb_cq {M1 : px_Mem} (C : ic y M) (h : lb_fr M M1) : cq y M M1 := by
  refine ⟨fun a ha => ⟨h.1 a (by omega) (by omega) (by omega), by rw [h.2.2]⟩, ?_, ?_⟩
  · obtain ⟨t, ht, hF⟩ := C.2.2.1
    exact ⟨t, ht, fl_at_w hF (fun a ha => h.1 a (by omega) (by omega) (by omega))⟩
  · exact iv_shp_fr C.2.2.2.1 (h.2.1 8 (by omega)) (h.1 42 (by omega) (by omega) (by omega)) (fun t _ => by rw [h.2.2]) (ic_n C)
abbrev lb_c (n : Nat) (s : ws_S) (M : px_Mem) : Prop := lb_at (sh_go (ws_ob s) n) 39 40 (M.1 38 4) M
theorem sc_44 (hC : ws_C s 29 M) (hW : ws_W s) (hm : ws_md s ≤ 140) (h : ∀ M', lb_fr M M' → lb_c 120 s M' → Q none M') : px_T 0 44 0 [some (.ref 38), some (.ref 29), none, none, none] [] M Q := by
  have hS : ∀ (k n : Nat) (N : px_Mem) (d3 d4 : Option Value), n + k = 120 → lb_fr M N → lb_c n s N → (n < 120 → px_T 0 44 23 [some (.ref 38), some (.ref 29), some (.int (nI (n / 8 + 1))), some (.int (nI (n % 8))), d4] [] N Q) ∧ (n = 120 → px_T 0 44 15 [some (.ref 38), some (.ref 29), some (.int (nI 16)), d3, d4] [] N Q) := by
    intro k
    induction k with
    | zero =>
      intro n N d3 d4 hn hf hL
      refine ⟨fun q => absurd q (by omega), fun _ => ?_⟩
      have e : n = 120 := by omega
      subst e
      exact sg_44_15 (Or.inl rfl) (fun _ => h N hf hL) (fun c => absurd (by decide) c)
    | succ k ih =>
      intro n N d3 d4 hn hf hL
      refine ⟨fun _ => ?_, fun q => absurd q (by omega)⟩
      have hC2 : ws_C s 29 N := ws_C_fr hC (fun a h1 h2 _ => hf.1 a (by omega) (by omega) (by omega))
      have nxt : ∀ (N2 : px_Mem) (d4 : Option Value), lb_fr M N2 → lb_c (n + 1) s N2 → px_T 0 44 23 [some (.ref 38), some (.ref 29), some (.int (nI (n / 8 + 1))), some (.int (nI (n % 8) + 1)), d4] [] N2 Q := by
        intro N2 d4 hf2 hL2
        rw [in_a1]
        by_cases h8 : n % 8 + 1 < 8
        · have h9 := (ih (n + 1) N2 none d4 (by omega) hf2 hL2).1 (by omega)
          rw [show (n + 1) / 8 = n / 8 by omega, show (n + 1) % 8 = n % 8 + 1 by omega] at h9
          exact h9
        · have e8 : n % 8 + 1 = 8 := by omega
          rw [e8]
          refine sg_44_23 (Or.inl rfl) (fun _ => ?_) (fun c => absurd (by decide) c)
          rw [in_a1]
          by_cases h120 : n + 1 = 120
          · have h9 := (ih (n + 1) N2 (some (.int (nI 8))) d4 (by omega) hf2 hL2).2 h120
            rw [show n / 8 + 1 + 1 = 16 by omega]
            exact h9
          · have h9 := (ih (n + 1) N2 none d4 (by omega) hf2 hL2).1 (by omega)
            rw [show (n + 1) / 8 = n / 8 + 1 by omega, show (n + 1) % 8 = 0 by omega] at h9
            refine sg_44_15 (Or.inl rfl) (fun c => ?_) (fun _ => h9)
            simp (disch := omega) only [in_lt, in_le, in_eq, in_add, in_mul, in_sb, in_cl, in_bz, in_bo, in_mo, not_true_eq_false, not_false_eq_true, il_0, il_1, il_2, il_3, il_4, il_5, il_6, il_7, il_8, il_9, il_10, il_11, il_12, il_13, il_14, il_15, il_16, il_31] at c
            omega
      have hob := hW.2.2.2.2.1 (8 + n)
      have e1 : 8 * (n / 8 + 1) + n % 8 = 8 + n := by omega
      have hb := sh_go_b (ws_ob s) n
      refine sg_44_23 (Or.inl rfl) (fun c1 => by exfalso; (try simp (disch := omega) only [in_lt, in_le, in_eq, in_add, in_mul, in_sb, in_cl, in_bz, in_bo, in_mo, not_true_eq_false, not_false_eq_true, il_0, il_1, il_2, il_3, il_4, il_5, il_6, il_7, il_8, il_9, il_10, il_11, il_12, il_13, il_14, il_15, il_16, il_31] at c1) <;> omega) (fun c1 => ?_)
      refine sw_68 (Or.inl rfl) hC2 (by omega) (by omega) ?_
      rw [e1]
      obtain ⟨k1, k2, k3⟩ := hL
      by_cases h0 : ws_ob s (8 + n) = 0
      · have hgo : sh_go (ws_ob s) (n + 1) = sh_go (ws_ob s) n := by rw [sh_go_s, if_neg (fun q => q.1 h0)]
        have hneg : nI (ws_ob s (8 + n)) - 1 < 0 := (in_om0 (by omega)).mpr h0
        refine sg_44_35 (Or.inl rfl) (fun _ => nxt N _ hf (by unfold lb_c; rw [hgo]; exact ⟨k1, k2, k3⟩)) (fun c => absurd hneg c) (fun c => absurd hneg c) (fun c => absurd hneg c) (fun c => absurd hneg c) (fun c => absurd hneg c)
      · have hv : nI (ws_ob s (8 + n)) - 1 = nI (ws_ob s (8 + n) - 1) := in_s1 (by omega)
        have f39 := k2 (ws_ob s (8 + n) - 1) (by omega)
        have hlb := hb.2 (ws_ob s (8 + n) - 1)
        rw [hv]
        refine sg_44_35 (Or.inl rfl) (fun c => ?_) (fun _ c => ?_) (fun _ _ => me_vin (by omega) (by omega)) (fun _ _ c => ?_) (fun _ _ c => ?_) (fun _ _ c => ?_)
        · simp (disch := omega) only [in_lt, in_le, in_eq, in_add, in_mul, in_sb, in_cl, in_bz, in_bo, in_mo, not_true_eq_false, not_false_eq_true, il_0, il_1, il_2, il_3, il_4, il_5, il_6, il_7, il_8, il_9, il_10, il_11, il_12, il_13, il_14, il_15, il_16, il_31] at c
          omega
        · rw [show (200 : Int32) = nI 200 from rfl, in_le (by omega) (by omega)] at c
          omega
        · rw [in_cl (by omega), f39, nI_m1 (by omega)] at c
          have hgo : sh_go (ws_ob s) (n + 1) = sh_go (ws_ob s) n := by rw [sh_go_s, if_neg (fun q => c q.2)]
          exact nxt N _ hf (by unfold lb_c; rw [hgo]; exact ⟨k1, k2, k3⟩)
        · rw [k1]
          exact me_vin (by omega) (by omega)
        · rw [in_cl (by omega), f39, nI_m1 (by omega), Decidable.not_not] at c
          have hgo : sh_go (ws_ob s) (n + 1) = ((sh_go (ws_ob s) n).1 + 1, ws_up (sh_go (ws_ob s) n).2.1 (ws_ob s (8 + n) - 1) ((sh_go (ws_ob s) n).1 + 1), ws_up (sh_go (ws_ob s) n).2.2 (sh_go (ws_ob s) n).1 (ws_ob s (8 + n) - 1)) := by rw [sh_go_s, if_pos ⟨h0, c⟩]
          rw [k1, in_cl (by omega), in_cl (by omega), in_a1]
          refine sg_44_92 (Or.inl rfl) (nxt _ _ ⟨fun a p q r => ?_, fun i p => ?_, ?_⟩ ?_)
          · simp (disch := omega) only [me_II, me_Ii, me_Io, me_I2, me_L1, me_Li, me_LL, me_Lo, me_As, me_Ao, me_A2, me_Bs, me_Bo, me_B1]
            exact hf.1 a p q r
          · simp (disch := omega) only [me_II, me_Ii, me_Io, me_I2, me_L1, me_Li, me_LL, me_Lo, me_As, me_Ao, me_A2, me_Bs, me_Bo, me_B1]
            exact hf.2.1 i p
          · exact hf.2.2
          · unfold lb_c
            rw [hgo, me_II]
            exact up_at (by omega) (by omega) (show lb_at (sh_go (ws_ob s) n) 39 40 (N.1 38 4) N from ⟨k1, k2, k3⟩) (by simp (disch := omega) only [me_II, me_Ii, me_Io, me_I2, me_L1, me_Li, me_LL, me_Lo, me_As, me_Ao, me_A2, me_Bs, me_Bo, me_B1]; rfl) (by simp (disch := omega) only [me_II, me_Ii, me_Io, me_I2, me_L1, me_Li, me_LL, me_Lo, me_As, me_Ao, me_A2, me_Bs, me_Bo, me_B1]; rfl)
  refine sg_44_0 (Or.inl rfl) (sp_340 rfl (by omega) (sg_44_8 (Or.inl rfl) ?_))
  refine sg_44_15 (Or.inl rfl) (fun c => absurd c (by decide)) (fun _ => ?_)
  refine (hS 120 0 _ none none rfl ⟨fun a p q r => ?_, fun i p => ?_, ?_⟩ ⟨?_, fun o ho => ?_, fun l hl => absurd hl (Nat.not_lt_zero l)⟩).1 (by omega)
  · simp (disch := omega) only [me_II, me_Ii, me_Io, me_I2, me_L1, me_Li, me_LL, me_Lo, me_As, me_Ao, me_A2, me_Bs, me_Bo, me_B1]
  · simp (disch := omega) only [me_II, me_Ii, me_Io, me_I2, me_L1, me_Li, me_LL, me_Lo, me_As, me_Ao, me_A2, me_Bs, me_Bo, me_B1]
  · rfl
  · simp (disch := omega) only [me_II, me_Ii, me_Io, me_I2, me_L1, me_Li, me_LL, me_Lo, me_As, me_Ao, me_A2, me_Bs, me_Bo, me_B1]; rfl
  · simp (disch := omega) only [me_II, me_Ii, me_Io, me_I2, me_L1, me_Li, me_LL, me_Lo, me_As, me_Ao, me_A2, me_Bs, me_Bo, me_B1]
    rw [fa_fill_in ho]
    rfl
theorem sc_45 {n u : Nat} (hL : lb_c n s M) (hu : u ≤ 200) (h : Q (some (.int (nI (if u = 0 then 0 else (sh_go (ws_ob s) n).2.1 (u - 1)) - 1))) M) : px_T 0 45 0 [some (.ref 38), some (.int (nI u - 1))] [] M Q := by
  by_cases h0 : u = 0
  · rw [if_pos h0] at h
    have hneg : nI u - 1 < 0 := (in_om0 (by omega)).mpr h0
    exact sg_45_0 (fun _ => h) (fun c => absurd hneg c) (fun c => absurd hneg c) (fun c => absurd hneg c)
  · rw [if_neg h0] at h
    rw [in_s1 (by omega)]
    refine sg_45_0 (fun c => ?_) (fun _ c => ?_) (fun _ _ => me_vin (by omega) (by omega)) (fun _ _ => ?_)
    · simp (disch := omega) only [in_lt, in_le, in_eq, in_add, in_mul, in_sb, in_cl, in_bz, in_bo, in_mo, not_true_eq_false, not_false_eq_true, il_0, il_1, il_2, il_3, il_4, il_5, il_6, il_7, il_8, il_9, il_10, il_11, il_12, il_13, il_14, il_15, il_16, il_31] at c
      omega
    · rw [show (200 : Int32) = nI 200 from rfl, in_le (by omega) (by omega)] at c
      omega
    · rw [in_cl (by omega), hL.2.1 _ (by omega)]
      exact h
theorem sc_110 (C : ic y M) {x1 x2 x3 : Int32} (h : ∀ M', cq y M M' → Q (some (.int (an_110 y x1 x2 x3))) M') : px_T 0 110 0 [some (.ref 0), some (.int x1), some (.int x2), some (.int x3), none] [] M Q := by
  refine sg_110_0 (sc_154 (fun p k hp hk p1 p2 k1 g1a g1 => ?_) (fun g1 => sg_110_5 (fun c1 => absurd c1 (by decide)) (fun c1 => by have h9 := h _ (cq_rf C); rw [(show an_110 y x1 x2 x3 = -2 from by (unfold an_110; simp only [g1, Bool.and_false, Bool.false_and, Bool.false_eq_true, if_false]))] at h9; exact h9)))
  refine sg_110_5 (fun c1 => sc_152 C (fun t ht t1 g2 => ?_) (fun g2 => sg_110_13 (fun c1 => absurd c1 (by decide)) (fun c1 => by have h9 := h _ (cq_rf C); rw [(show an_110 y x1 x2 x3 = -2 from by (unfold an_110; simp only [g2, Bool.and_false, Bool.false_and, Bool.false_eq_true, if_false]))] at h9; exact h9))) (fun c1 => absurd rfl c1)
  refine sg_110_13 (fun c1 => ?_) (fun c1 => absurd rfl c1)
  subst hp hk ht
  have hn := ic_n C
  have ev : an_110 y (nI p) (nI k) (nI t) = vl_110 (iv_rn y t) p k := by unfold an_110; simp (disch := omega) only [g1, g1a, g2, in_cl, Bool.and_true, if_true]
  rw [ev] at h
  refine sc_11 C t1 (fun M1 q1 hF => ?_)
  have hC := hF.2.1
  have hW := iv_rnW C.1 t1
  have hT := iv_rnT C.1 t1
  have hm := iv_rnm C.1 t1
  generalize iv_rn y t = s at h hC hW hT hm
  have fl := hW.2.2.2.2.1 (8 * p + k)
  refine sg_110_27 (Or.inl rfl) (sc_44 hC hW hm (fun M2 k2 L2 => sg_110_38 (Or.inl rfl) ?_))
  have hC2 : ws_C s 29 M2 := ws_C_fr hC (fun a h1 h2 _ => k2.1 a (by omega) (by omega) (by omega))
  exact sw_68 (Or.inl rfl) hC2 (by omega) (by omega) (sg_110_49 (sc_45 L2 (by omega) (sg_110_52 (h M2 (cq_tr q1 (lb_cq (ic_cq C q1) k2))))))
/-! the reference -/
def lr_fr (M M' : px_Mem) : Prop := (∀ a, a ≠ 56 → a ≠ 82 → a ≠ 83 → M'.1 a = M.1 a) ∧ (∀ i, i ≠ 41 → M'.1 56 i = M.1 56 i) ∧ M'.2 = M.2
theorem lr_fr_rf : lr_fr M M := ⟨fun _ _ _ _ => rfl, fun _ _ => rfl, rfl⟩
theorem lr_rq {M1 : px_Mem} (h : lr_fr M M1) : rq M M1 := ⟨fun a h1 h2 => h.1 a h2 (by omega) (by omega), fun a _ => by rw [h.2.2], fun i hi => h.2.1 i (by omega)⟩
abbrev lb_r (n : Nat) (s : ws_S) (M : px_Mem) : Prop := lb_at (sh_go (ws_ob s) n) 82 83 (M.1 56 41) M
theorem sr_256 {t : Nat} (hA : rt_at s t M) (ht : t ≤ 72) (hW : ws_W s) (hm : ws_md s ≤ 140) (h : ∀ M', lr_fr M M' → lb_r 120 s M' → Q none M') : px_T 0 256 0 [some (.ref 56), some (.int (nI t)), none, none, none] [] M Q := by
  have hS : ∀ (k n : Nat) (N : px_Mem) (d3 d4 : Option Value), n + k = 120 → lr_fr M N → lb_r n s N → (n < 120 → px_T 0 256 37 [some (.ref 56), some (.int (nI t)), some (.int (nI (n / 8 + 1))), some (.int (nI (n % 8))), d4] [] N Q) ∧ (n = 120 → px_T 0 256 29 [some (.ref 56), some (.int (nI t)), some (.int (nI 16)), d3, d4] [] N Q) := by
    intro k
    induction k with
    | zero =>
      intro n N d3 d4 hn hf hL
      refine ⟨fun q => absurd q (by omega), fun _ => ?_⟩
      have e : n = 120 := by omega
      subst e
      exact sg_256_29 (fun _ => h N hf hL) (fun c => absurd (by decide) c)
    | succ k ih =>
      intro n N d3 d4 hn hf hL
      refine ⟨fun _ => ?_, fun q => absurd q (by omega)⟩
      have hA2 : rt_at s t N := rt_at_fr hA (fun a h1 h2 => hf.1 a (by omega) (by omega) (by omega))
      have nxt : ∀ (N2 : px_Mem) (d4 : Option Value), lr_fr M N2 → lb_r (n + 1) s N2 → px_T 0 256 37 [some (.ref 56), some (.int (nI t)), some (.int (nI (n / 8 + 1))), some (.int (nI (n % 8) + 1)), d4] [] N2 Q := by
        intro N2 d4 hf2 hL2
        rw [in_a1]
        by_cases h8 : n % 8 + 1 < 8
        · have h9 := (ih (n + 1) N2 none d4 (by omega) hf2 hL2).1 (by omega)
          rw [show (n + 1) / 8 = n / 8 by omega, show (n + 1) % 8 = n % 8 + 1 by omega] at h9
          exact h9
        · have e8 : n % 8 + 1 = 8 := by omega
          rw [e8]
          refine sg_256_37 (fun _ => ?_) (fun c => absurd (by decide) c)
          rw [in_a1]
          by_cases h120 : n + 1 = 120
          · have h9 := (ih (n + 1) N2 (some (.int (nI 8))) d4 (by omega) hf2 hL2).2 h120
            rw [show n / 8 + 1 + 1 = 16 by omega]
            exact h9
          · have h9 := (ih (n + 1) N2 none d4 (by omega) hf2 hL2).1 (by omega)
            rw [show (n + 1) / 8 = n / 8 + 1 by omega, show (n + 1) % 8 = 0 by omega] at h9
            refine sg_256_29 (fun c => ?_) (fun _ => h9)
            simp (disch := omega) only [in_lt, in_le, in_eq, in_add, in_mul, in_sb, in_cl, in_bz, in_bo, in_mo, not_true_eq_false, not_false_eq_true, il_0, il_1, il_2, il_3, il_4, il_5, il_6, il_7, il_8, il_9, il_10, il_11, il_12, il_13, il_14, il_15, il_16, il_31] at c
            omega
      have hob := hW.2.2.2.2.1 (8 + n)
      have e1 : 8 * (n / 8 + 1) + n % 8 = 8 + n := by omega
      have hb := sh_go_b (ws_ob s) n
      refine sg_256_37 (fun c1 => by exfalso; (try simp (disch := omega) only [in_lt, in_le, in_eq, in_add, in_mul, in_sb, in_cl, in_bz, in_bo, in_mo, not_true_eq_false, not_false_eq_true, il_0, il_1, il_2, il_3, il_4, il_5, il_6, il_7, il_8, il_9, il_10, il_11, il_12, il_13, il_14, il_15, il_16, il_31] at c1) <;> omega) (fun c1 => ?_)
      refine sr_246 hA2 ht (by omega) (by omega) ?_
      rw [e1]
      obtain ⟨k1, k2, k3⟩ := hL
      by_cases h0 : ws_ob s (8 + n) = 0
      · have hgo : sh_go (ws_ob s) (n + 1) = sh_go (ws_ob s) n := by rw [sh_go_s, if_neg (fun q => q.1 h0)]
        have hneg : nI (ws_ob s (8 + n)) - 1 = -1 := by rw [h0]; rfl
        exact sg_256_50 (fun _ => nxt N _ hf (by unfold lb_r; rw [hgo]; exact ⟨k1, k2, k3⟩)) (fun c => absurd hneg c) (fun c => absurd hneg c) (fun c => absurd hneg c) (fun c => absurd hneg c)
      · have hv : nI (ws_ob s (8 + n)) - 1 = nI (ws_ob s (8 + n) - 1) := in_s1 (by omega)
        have f39 := k2 (ws_ob s (8 + n) - 1) (by omega)
        have hlb := hb.2 (ws_ob s (8 + n) - 1)
        have hz : ∀ u : Nat, u < 1000 → ((nI u - 1 = -1) ↔ u = 0) := fun u hu => in_om1 (by omega)
        rw [hv]
        refine sg_256_50 (fun c => absurd c (in_nm (by omega))) (fun _ => me_vin (by omega) (by omega)) (fun _ c => ?_) (fun _ c => ?_) (fun _ c => ?_)
        · rw [k1]
          exact me_vin (by omega) (by omega)
        · rw [in_cl (by omega), f39, hz _ (by omega)] at c
          have hgo : sh_go (ws_ob s) (n + 1) = ((sh_go (ws_ob s) n).1 + 1, ws_up (sh_go (ws_ob s) n).2.1 (ws_ob s (8 + n) - 1) ((sh_go (ws_ob s) n).1 + 1), ws_up (sh_go (ws_ob s) n).2.2 (sh_go (ws_ob s) n).1 (ws_ob s (8 + n) - 1)) := by rw [sh_go_s, if_pos ⟨h0, c⟩]
          rw [k1, in_cl (by omega), in_cl (by omega), in_a1]
          refine sg_256_104 (nxt _ _ ⟨fun a p q r => ?_, fun i p => ?_, ?_⟩ ?_)
          · simp (disch := omega) only [me_II, me_Ii, me_Io, me_I2, me_L1, me_Li, me_LL, me_Lo, me_As, me_Ao, me_A2, me_Bs, me_Bo, me_B1]
            exact hf.1 a p q r
          · simp (disch := omega) only [me_II, me_Ii, me_Io, me_I2, me_L1, me_Li, me_LL, me_Lo, me_As, me_Ao, me_A2, me_Bs, me_Bo, me_B1]
            exact hf.2.1 i p
          · exact hf.2.2
          · unfold lb_r
            rw [hgo, me_II]
            exact up_at (by omega) (by omega) (show lb_at (sh_go (ws_ob s) n) 82 83 (N.1 56 41) N from ⟨k1, k2, k3⟩) (by simp (disch := omega) only [me_II, me_Ii, me_Io, me_I2, me_L1, me_Li, me_LL, me_Lo, me_As, me_Ao, me_A2, me_Bs, me_Bo, me_B1]; rfl) (by simp (disch := omega) only [me_II, me_Ii, me_Io, me_I2, me_L1, me_Li, me_LL, me_Lo, me_As, me_Ao, me_A2, me_Bs, me_Bo, me_B1]; rfl)
        · rw [in_cl (by omega), f39, hz _ (by omega)] at c
          have hgo : sh_go (ws_ob s) (n + 1) = sh_go (ws_ob s) n := by rw [sh_go_s, if_neg (fun q => c q.2)]
          exact sg_256_104 (nxt N _ hf (by unfold lb_r; rw [hgo]; exact ⟨k1, k2, k3⟩))
  have hI : ∀ (k i : Nat) (N : px_Mem), i + k = 200 → lr_fr M N → N.1 56 41 = 0 → (∀ o, o < i → N.1 82 o = -1) → px_T 0 256 7 [some (.ref 56), some (.int (nI t)), some (.int (nI i)), none, none] [] N Q := by
    intro k
    induction k with
    | zero =>
      intro i N hi hf h41 h82
      have e : i = 200 := by omega
      subst e
      refine sg_256_7 (fun c1 => ?_) (fun c1 => by exfalso; (try simp (disch := omega) only [in_lt, in_le, in_eq, in_add, in_mul, in_sb, in_cl, in_bz, in_bo, in_mo, not_true_eq_false, not_false_eq_true, il_0, il_1, il_2, il_3, il_4, il_5, il_6, il_7, il_8, il_9, il_10, il_11, il_12, il_13, il_14, il_15, il_16, il_31, il_200] at c1) <;> omega) (fun c1 => by exfalso; (try simp (disch := omega) only [in_lt, in_le, in_eq, in_add, in_mul, in_sb, in_cl, in_bz, in_bo, in_mo, not_true_eq_false, not_false_eq_true, il_0, il_1, il_2, il_3, il_4, il_5, il_6, il_7, il_8, il_9, il_10, il_11, il_12, il_13, il_14, il_15, il_16, il_31, il_200] at c1) <;> omega)
      refine sg_256_29 (fun c => absurd c (by decide)) (fun _ => ?_)
      exact (hS 120 0 N none none rfl hf ⟨by rw [h41]; rfl, fun o ho => by rw [h82 o ho]; rfl, fun l hl => absurd hl (Nat.not_lt_zero l)⟩).1 (by omega)
    | succ k ih =>
      intro i N hi hf h41 h82
      refine sg_256_7 (fun c1 => by exfalso; (try simp (disch := omega) only [in_lt, in_le, in_eq, in_add, in_mul, in_sb, in_cl, in_bz, in_bo, in_mo, not_true_eq_false, not_false_eq_true, il_0, il_1, il_2, il_3, il_4, il_5, il_6, il_7, il_8, il_9, il_10, il_11, il_12, il_13, il_14, il_15, il_16, il_31, il_200] at c1) <;> omega) (fun c1 => by (try simp (disch := omega) only [in_lt, in_le, in_eq, in_add, in_mul, in_sb, in_cl, in_bz, in_bo, in_mo, not_true_eq_false, not_false_eq_true, il_0, il_1, il_2, il_3, il_4, il_5, il_6, il_7, il_8, il_9, il_10, il_11, il_12, il_13, il_14, il_15, il_16, il_31, il_200] at c1 ⊢) <;> exact me_vin (by omega) (by omega)) (fun c1 => ?_)
      rw [in_cl (by omega), in_a1]
      refine ih (i + 1) _ (by omega) ⟨fun a p q r => ?_, fun j p => ?_, ?_⟩ ?_ (fun o ho => ?_)
      · simp (disch := omega) only [me_II, me_Ii, me_Io, me_I2, me_L1, me_Li, me_LL, me_Lo, me_As, me_Ao, me_A2, me_Bs, me_Bo, me_B1]
        exact hf.1 a p q r
      · simp (disch := omega) only [me_II, me_Ii, me_Io, me_I2, me_L1, me_Li, me_LL, me_Lo, me_As, me_Ao, me_A2, me_Bs, me_Bo, me_B1]
        exact hf.2.1 j p
      · exact hf.2.2
      · simp (disch := omega) only [me_II, me_Ii, me_Io, me_I2, me_L1, me_Li, me_LL, me_Lo, me_As, me_Ao, me_A2, me_Bs, me_Bo, me_B1]
        exact h41
      · by_cases e : o = i
        · subst e
          rw [me_II]
        · rw [me_Ii e]
          exact h82 o (by omega)
  refine sg_256_0 (hI 200 0 _ rfl ⟨fun a p q r => ?_, fun i p => ?_, ?_⟩ ?_ (fun o ho => absurd ho (Nat.not_lt_zero o)))
  · simp (disch := omega) only [me_II, me_Ii, me_Io, me_I2, me_L1, me_Li, me_LL, me_Lo, me_As, me_Ao, me_A2, me_Bs, me_Bo, me_B1]
  · simp (disch := omega) only [me_II, me_Ii, me_Io, me_I2, me_L1, me_Li, me_LL, me_Lo, me_As, me_Ao, me_A2, me_Bs, me_Bo, me_B1]
  · rfl
  · simp (disch := omega) only [me_II, me_Ii, me_Io, me_I2, me_L1, me_Li, me_LL, me_Lo, me_As, me_Ao, me_A2, me_Bs, me_Bo, me_B1]
theorem sr_257 (R : ir y M) {x1 x2 x3 : Int32} (h : ∀ M', rq M M' → Q (some (.int (an_110 y x1 x2 x3))) M') : px_T 0 257 0 [some (.ref 56), some (.int x1), some (.int x2), some (.int x3)] [] M Q := by
  unfold an_110 at h
  have hn := iv_yn R.1
  refine sg_257_0 (sr_226 R (fun M1 t p q1 L1 A1 ht hp t1 p1 p2 g => sg_257_6 (fun c => absurd c (by decide)) (fun _ => sr_185 ?_)) (fun M1 q1 g => sg_257_6 (fun _ => ?_) (fun c => absurd rfl c)))
  · rw [← Bool.and_assoc, g, Bool.true_and] at h
    refine sg_257_13 (fun d => ?_) (fun d => ?_)
    · rw [in_b0] at d
      rw [d, if_neg (by decide)] at h
      exact h M1 q1
    · rw [in_b0, Bool.not_eq_false] at d
      rw [d, if_pos rfl] at h
      obtain ⟨k, rfl, k1, k2⟩ := rg_of d (by omega) (by omega)
      subst hp ht
      rw [in_cl (by omega), in_cl (by omega), in_cl (by omega)] at h
      have hA : rt_at (iv_rn y t) t M1 := A1.1 t t1
      have hW := iv_rnW R.1 t1
      have hm := iv_rnm R.1 t1
      generalize iv_rn y t = s at h hA hW hm
      have fl := hW.2.2.2.2.1 (8 * p + k)
      refine sr_256 hA (by omega) hW hm (fun M2 k2 L2 => sg_257_24 ?_)
      have hA2 : rt_at s t M2 := rt_at_fr hA (fun a h1 h2 => k2.1 a (by omega) (by omega) (by omega))
      have h9 := h M2 (rq_tr q1 (lr_rq k2))
      unfold vl_110 sh_la at h9
      refine sr_246 hA2 (by omega) (by omega) (by omega) (sg_257_31 (fun c => ?_) (fun c => ?_))
      · have c2 : ws_ob s (8 * p + k) = 0 := (in_om1 (by omega)).mp c
        rw [if_pos c2] at h9
        exact h9
      · have c2 : ¬ ws_ob s (8 * p + k) = 0 := fun q => c ((in_om1 (by omega)).mpr q)
        rw [if_neg c2] at h9
        refine sr_246 hA2 (by omega) (by omega) (by omega) ?_
        rw [in_s1 (by omega)]
        refine sg_257_50 (me_vin (by omega) (by omega)) ?_
        rw [in_cl (by omega), L2.2.1 _ (by omega)]
        exact h9
  · rw [← Bool.and_assoc, g, Bool.false_and, if_neg (by decide)] at h
    exact h M1 q1
end L66
