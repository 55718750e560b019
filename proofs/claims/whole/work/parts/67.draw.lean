/-! pictures: the class draws -/
def p1n (s : ws_S) (n l : Nat) : Nat := if l < n then sh_po s l else 0
def pcn (s : ws_S) (n q : Nat) : Nat := p1n s n (4 * q) + 65536 * p1n s n (4 * q + 1) + 4294967296 * p1n s n (4 * q + 2) + 281474976710656 * p1n s n (4 * q + 3)
section D67
variable {M : px_Mem} {Q : px_Po} {y : iv_Y} {s : ws_S}
theorem sh92 : ∀ t, t < 71 → px_sh 0 (92 + t) = some (.inr (1, 45)) := by decide
theorem rf41 : ∀ t, t < 71 → px_rf 41 t = 92 + t := by decide
theorem at92 {t i : Nat} (ht : t < 71) (hi : i < 45) : px_at 0 1 (92 + t) (nI i) := ⟨45, sh92 t ht, me_vin hi (by omega)⟩
theorem sh_lab (i : Nat) : sh_la s i ≤ 120 := by
  unfold sh_la
  split
  · omega
  · have h1 := sh_go_b (ws_ob s) 120
    have h2 := h1.2 (ws_ob s i - 1)
    unfold sh_lb
    omega
theorem lN_or {a k : Nat} (b : Nat) (h : a < 2 ^ k) : lN (b * 2 ^ k) ||| lN a = lN (b * 2 ^ k + a) := by
  rw [Nat.mul_comm]
  exact fb_or_sumL b h
theorem sc_51 (hC : ws_C s 29 M) (hW : ws_W s) (hm : ws_md s ≤ 140) (hL : lb_c 120 s M) {p : Nat} (p1 : 1 ≤ p) (p2 : p ≤ 15) (h : Q (some (.long (lN (sh_pp s p)))) M) : px_T 0 51 0 [some (.ref 38), some (.ref 29), some (.int (nI p)), none, none, none] [] M Q := by
  have hl : ∀ (k j : Nat), j + k = 8 → px_T 0 51 6 [some (.ref 38), some (.ref 29), some (.int (nI p)), some (.long (lN (sh_w (fun i => sh_la s (8 * p + (8 - j) + i)) j))), none, some (.int (nI (8 - j) - 1))] [] M Q := by
    intro k
    induction k with
    | zero =>
      intro j hj
      have e : j = 8 := by omega
      subst e
      refine sg_51_6 (Or.inl rfl) (fun _ => me_vin (by omega) (by omega)) (fun _ => ?_) (fun c => absurd (by decide) c)
      have hpa := hW.2.1 p
      have hse := hW.2.2.1 p
      rw [in_cl (by omega), hC.2.2.1 p (by omega), hC.2.1 p (by omega), show (8 : Int32) = nI 8 from rfl, wb_shl _ (by omega), show nI (ws_se s p) <<< ((4 : Int32) &&& 31) = nI (ws_se s p * 2 ^ 4) from in_shl (k := 4) (by omega) (by omega), nI_l (by omega), nI_l (by omega), lN_or _ (by omega)]
      have e2 : ∀ w : Nat, w * 2 ^ 8 + ws_se s p * 2 ^ 4 = (16 * w + ws_se s p) * 2 ^ 4 := fun w => by omega
      rw [e2, lN_or _ (by omega)]
      have e3 : sh_pp s p = (16 * sh_w (fun i => sh_la s (8 * p + (8 - 8) + i)) 8 + ws_se s p) * 2 ^ 4 + ws_pa s p := by
        show 256 * sh_w (fun h => sh_la s (8 * p + h)) 8 + 16 * ws_se s p + ws_pa s p = _
        have e4 : (fun i => sh_la s (8 * p + (8 - 8) + i)) = (fun h => sh_la s (8 * p + h)) := rfl
        rw [e4]
        omega
      rw [← e3]
      exact h
    | succ k ih =>
      intro j hj
      have e7 : nI (8 - j) - 1 = nI (7 - j) := by rw [in_s1 (by omega), show 8 - j - 1 = 7 - j by omega]
      have hob := hW.2.2.2.2.1 (8 * p + (7 - j))
      have hla := sh_lab (s := s) (8 * p + (7 - j))
      rw [e7]
      refine sg_51_6 (Or.inl rfl) (fun c => ?_) (fun c => ?_) (fun _ => ?_)
      · simp (disch := omega) only [in_lt, in_le, in_eq, in_add, in_mul, in_sb, in_cl, in_bz, in_bo, in_mo, not_true_eq_false, not_false_eq_true, il_0, il_1, il_2, il_3, il_4, il_5, il_6, il_7, il_8, il_9, il_10, il_11, il_12, il_13, il_14, il_15, il_16, il_31] at c
        omega
      · simp (disch := omega) only [in_lt, in_le, in_eq, in_add, in_mul, in_sb, in_cl, in_bz, in_bo, in_mo, not_true_eq_false, not_false_eq_true, il_0, il_1, il_2, il_3, il_4, il_5, il_6, il_7, il_8, il_9, il_10, il_11, il_12, il_13, il_14, il_15, il_16, il_31] at c
        omega
      · refine sw_68 (Or.inl rfl) hC (by omega) (by omega) (sg_51_23 (Or.inl rfl) (sc_45 hL (by omega) (sg_51_26 (Or.inl rfl) ?_)))
        have e1 : (if ws_ob s (8 * p + (7 - j)) = 0 then 0 else (sh_go (ws_ob s) 120).2.1 (ws_ob s (8 * p + (7 - j)) - 1)) = sh_la s (8 * p + (7 - j)) := rfl
        rw [e1, Int32.sub_add_cancel, nI_l (by omega), show (7 : Int32).toInt64 = (nI 7).toInt64 from rfl, wb_shl _ (by omega), lN_or _ (by omega), show Int32.ofInt (-1) = -1 from rfl, ← Int32.sub_eq_add_neg]
        have h9 := ih (j + 1) (by omega)
        have e2 : sh_w (fun i => sh_la s (8 * p + (8 - (j + 1)) + i)) (j + 1) = sh_w (fun i => sh_la s (8 * p + (8 - j) + i)) j * 2 ^ 7 + sh_la s (8 * p + (7 - j)) := by
          show sh_la s (8 * p + (8 - (j + 1)) + 0) + 128 * sh_w (fun i => sh_la s (8 * p + (8 - (j + 1)) + (i + 1))) j = _
          have e3 : (fun i => sh_la s (8 * p + (8 - (j + 1)) + (i + 1))) = (fun i => sh_la s (8 * p + (8 - j) + i)) := by
            funext i
            congr 1
            omega
          rw [e3, show 8 * p + (8 - (j + 1)) + 0 = 8 * p + (7 - j) by omega]
          omega
        rw [e2, show 8 - (j + 1) = 7 - j by omega] at h9
        exact h9
  exact sg_51_0 (Or.inl rfl) (hl 8 0 rfl)
theorem mt_held {l : Nat} (hl : l < sh_sz s) : 0 < ws_ct (ws_ob s) (sh_mt s l) ∧ (∃ i, ws_ob s i = sh_mt s l + 1) := by
  obtain ⟨⟨i, hi, hob⟩, _⟩ := (sh_go_m (ws_ob s) 120).1 l hl
  refine ⟨fb_ct_pos.mpr ⟨8 + i, by omega, ?_⟩, ⟨8 + i, hob⟩⟩
  exact decide_eq_true hob
theorem sh_szb : sh_sz s ≤ 120 := (sh_go_b (ws_ob s) 120).1
theorem sh_lbb (o : Nat) : sh_lb s o ≤ 120 := Nat.le_trans ((sh_go_b (ws_ob s) 120).2 o) sh_szb
theorem sh_mtb (hW : ws_W s) {l : Nat} (hl : l < sh_sz s) : sh_mt s l < ws_md s := by
  obtain ⟨i, hi⟩ := (mt_held hl).2
  have := hW.2.2.2.2.1 i
  omega
theorem vl_mt (hW : ws_W s) {l : Nat} (hl : l < sh_sz s) (hk : ws_kd s (sh_mt s l) ≠ 0) : vl_qu s (sh_mt s l) = nI (ws_by s (sh_re s (sh_mt s l))) ∧ ws_by s (sh_re s (sh_mt s l)) ≤ 60 ∧ sh_oe s (sh_mt s l) < ws_md s := by
  have hmd := sh_mtb hW hl
  have hct := (mt_held hl).1
  obtain ⟨w1, w2, w3⟩ := hW.2.2.2.2.2.2.1 _ hmd
  have hre : sh_re s (sh_mt s l) < ws_md s ∧ 0 < ws_ct (ws_ob s) (sh_re s (sh_mt s l)) + ws_ct (ws_ob s) (sh_re s (sh_mt s l) + 1) := by
    unfold sh_re
    by_cases h1 : ws_kd s (sh_mt s l) = 1
    · rw [if_pos h1]
      omega
    · rw [if_neg h1]
      have h2 := (w3 (by omega)).1
      rw [show sh_mt s l - 1 + 1 = sh_mt s l by omega]
      omega
  refine ⟨?_, hW.2.2.2.2.2.2.2 _ hre.1, ?_⟩
  · unfold vl_qu
    rw [if_pos ⟨hmd, hk, hre.2⟩]
  · unfold sh_oe
    by_cases h1 : ws_kd s (sh_mt s l) = 1
    · rw [if_pos h1]
      exact (w2 h1).1
    · rw [if_neg h1]
      omega
theorem sh_pob (hW : ws_W s) {l : Nat} (hl : l < sh_sz s) : sh_po s l < 65536 := by
  have hmd := sh_mtb hW hl
  obtain ⟨w1, w2, w3⟩ := hW.2.2.2.2.2.2.1 _ hmd
  unfold sh_po
  split
  · omega
  · rename_i hk
    have h1 := (vl_mt hW hl hk).2.1
    have h2 := sh_lbb (s := s) (sh_oe s (sh_mt s l))
    omega
theorem sc_52 (hC : ws_C s 29 M) (hW : ws_W s) (hm : ws_md s ≤ 140) (hL : lb_c 120 s M) {l : Nat} (hl : l < sh_sz s) (h : Q (some (.long (lN (sh_po s l)))) M) : px_T 0 52 0 [some (.ref 38), some (.ref 29), some (.int (nI (sh_mt s l))), none, none, none] [] M Q := by
  have hmd := sh_mtb hW hl
  obtain ⟨w1, w2, w3⟩ := hW.2.2.2.2.2.2.1 _ hmd
  have fk := hC.2.2.2.2.1 _ hmd
  have hv := vl_mt hW hl
  have hlb := sh_lbb (s := s) (sh_oe s (sh_mt s l))
  have hpo : sh_po s l = if ws_kd s (sh_mt s l) = 0 then 1 else ws_kd s (sh_mt s l) + 1 + 4 * ws_by s (sh_re s (sh_mt s l)) + 256 * sh_lb s (sh_oe s (sh_mt s l)) := rfl
  rw [hpo] at h
  have hoe : sh_oe s (sh_mt s l) = if ws_kd s (sh_mt s l) = 1 then sh_mt s l + 1 else sh_mt s l - 1 := rfl
  generalize sh_mt s l = a at *
  have hc1 : (lg_cmp (lN (ws_kd s a + 1)) 1 = 0) ↔ ws_kd s a = 0 := by
    rw [lg_cmp_eq, show (1 : Int64) = lN 1 from rfl, fb_lN_inj (by omega) (by omega)]
    omega
  refine sg_52_0 (Or.inl rfl) (me_vin (by omega) (by omega)) (fun c => ?_) (fun c => ?_)
  · rw [in_cl (by omega), fk, in_a1, nI_l (by omega), hc1] at c
    rw [in_cl (by omega), fk, in_a1, nI_l (by omega)]
    rw [if_pos c] at h
    rw [c]
    exact h
  · rw [in_cl (by omega), fk, in_a1, nI_l (by omega), hc1] at c
    rw [in_cl (by omega), fk, in_a1, nI_l (by omega)]
    rw [if_neg c] at h
    obtain ⟨v1, v2, v3⟩ := hv c
    have fin : px_T 0 45 0 [some (.ref 38), some (.int (nI (sh_oe s a)))] [] M (fun r M1 => px_T 0 52 27 [some (.ref 38), some (.ref 29), some (.int (nI a)), some (.long (lN (ws_kd s a + 1))), none, none] (r.toList ++ []) M1 Q) := by
      rw [show nI (sh_oe s a) = nI (sh_oe s a + 1) - 1 by rw [in_s1 (by omega)]; rfl]
      refine sc_45 hL (by omega) (sg_52_27 (Or.inl rfl) ?_)
      rw [if_neg (by omega), Int32.sub_add_cancel, Nat.add_sub_cancel]
      refine sw_70 (Or.inl rfl) hC hW hm (by omega) (sg_52_37 ?_)
      have e2 : (sh_go (ws_ob s) 120).2.1 (sh_oe s a) = sh_lb s (sh_oe s a) := rfl
      rw [v1, e2, show nI (ws_by s (sh_re s a)) <<< ((2 : Int32) &&& 31) = nI (ws_by s (sh_re s a) * 2 ^ 2) from in_shl (k := 2) (by omega) (by omega), show nI (sh_lb s (sh_oe s a)) <<< ((8 : Int32) &&& 31) = nI (sh_lb s (sh_oe s a) * 2 ^ 8) from in_shl (k := 8) (by omega) (by omega), nI_l (by omega), nI_l (by omega), Int64.or_comm (lN (ws_kd s a + 1)), lN_or _ (by omega), Int64.or_comm, lN_or _ (by omega)]
      have e3 : sh_lb s (sh_oe s a) * 2 ^ 8 + (ws_by s (sh_re s a) * 2 ^ 2 + (ws_kd s a + 1)) = ws_kd s a + 1 + 4 * ws_by s (sh_re s a) + 256 * sh_lb s (sh_oe s a) := by omega
      rw [e3]
      exact h
    refine sg_72_0 (Or.inl rfl) (sp_71 (Or.inl rfl) hC hW (by omega) hmd ?_)
    by_cases k1 : ws_kd s a = 1
    · rw [if_pos k1]
      refine sg_72_5 (fun _ _ => sg_52_24 (Or.inl rfl) ?_) (fun _ c => absurd rfl c) (fun c => ?_)
      · rw [in_a1]
        rw [hoe, if_pos k1] at fin
        exact fin
      · simp (disch := omega) only [in_lt, in_le, in_eq, in_add, in_mul, in_sb, in_cl, in_bz, in_bo, in_mo, not_true_eq_false, not_false_eq_true, il_0, il_1, il_2, il_3, il_4, il_5, il_6, il_7, il_8, il_9, il_10, il_11, il_12, il_13, il_14, il_15, il_16, il_31] at c
        omega
    · have k2 : ws_kd s a = 2 := by omega
      have h1 := (w3 k2).1
      rw [if_neg k1, if_pos k2]
      refine sg_72_5 (fun _ c => ?_) (fun _ c => sg_52_24 (Or.inl rfl) ?_) (fun c => ?_)
      · simp (disch := omega) only [in_lt, in_le, in_eq, in_add, in_mul, in_sb, in_cl, in_bz, in_bo, in_mo, not_true_eq_false, not_false_eq_true, il_0, il_1, il_2, il_3, il_4, il_5, il_6, il_7, il_8, il_9, il_10, il_11, il_12, il_13, il_14, il_15, il_16, il_31] at c
        omega
      · rw [hoe, if_neg k1] at fin
        exact fin
      · simp (disch := omega) only [in_lt, in_le, in_eq, in_add, in_mul, in_sb, in_cl, in_bz, in_bo, in_mo, not_true_eq_false, not_false_eq_true, il_0, il_1, il_2, il_3, il_4, il_5, il_6, il_7, il_8, il_9, il_10, il_11, il_12, il_13, il_14, il_15, il_16, il_31] at c
        omega
theorem p1n_s {n l : Nat} (h : l ≠ n) : p1n s (n + 1) l = p1n s n l := by
  unfold p1n
  by_cases c : l < n
  · rw [if_pos c, if_pos (by omega)]
  · rw [if_neg c, if_neg (by omega)]
theorem p1n_y {n : Nat} : p1n s (n + 1) n = sh_po s n := by unfold p1n; rw [if_pos (by omega)]
theorem p1n_0 {n l : Nat} (h : n ≤ l) : p1n s n l = 0 := by unfold p1n; rw [if_neg (by omega)]
theorem p1n_b (hW : ws_W s) {n l : Nat} (hn : n ≤ sh_sz s) : p1n s n l < 65536 := by
  unfold p1n
  split
  · exact sh_pob hW (by omega)
  · omega
theorem pcn_b (hW : ws_W s) {n q : Nat} (hn : n ≤ sh_sz s) : pcn s n q < 2 ^ 64 := by
  have h0 := p1n_b hW (l := 4 * q) hn
  have h1 := p1n_b hW (l := 4 * q + 1) hn
  have h2 := p1n_b hW (l := 4 * q + 2) hn
  have h3 := p1n_b hW (l := 4 * q + 3) hn
  unfold pcn
  omega
/-- one more object in its number -/
theorem pcn_s (hW : ws_W s) {l : Nat} (hl : l < sh_sz s) : lN (pcn s l (l / 4)) ||| lN (sh_po s l * 2 ^ (16 * (l % 4))) = lN (pcn s (l + 1) (l / 4)) := by
  have hb := sh_pob hW hl
  have h0 := p1n_b hW (n := l) (l := 4 * (l / 4)) (by omega)
  have h1 := p1n_b hW (n := l) (l := 4 * (l / 4) + 1) (by omega)
  have h2 := p1n_b hW (n := l) (l := 4 * (l / 4) + 2) (by omega)
  have h3 := p1n_b hW (n := l) (l := 4 * (l / 4) + 3) (by omega)
  have hr : l % 4 = 0 ∨ l % 4 = 1 ∨ l % 4 = 2 ∨ l % 4 = 3 := by omega
  unfold pcn
  rw [Int64.or_comm]
  rcases hr with r | r | r | r
  · have e0 : 4 * (l / 4) = l := by omega
    rw [e0, p1n_y, p1n_s (show l + 1 ≠ l by omega), p1n_s (show l + 2 ≠ l by omega), p1n_s (show l + 3 ≠ l by omega), p1n_0 (show l ≤ l by omega), p1n_0 (show l ≤ l + 1 by omega), p1n_0 (show l ≤ l + 2 by omega), p1n_0 (show l ≤ l + 3 by omega), r, lN_or _ (by omega)]
    congr 1
    omega
  · have e0 : 4 * (l / 4) + 1 = l := by omega
    rw [e0, p1n_y, p1n_s (show 4 * (l / 4) ≠ l by omega), p1n_s (show 4 * (l / 4) + 2 ≠ l by omega), p1n_s (show 4 * (l / 4) + 3 ≠ l by omega), p1n_0 (show l ≤ l by omega), p1n_0 (show l ≤ 4 * (l / 4) + 2 by omega), p1n_0 (show l ≤ 4 * (l / 4) + 3 by omega), r, lN_or _ (by omega)]
    congr 1
    omega
  · have e0 : 4 * (l / 4) + 2 = l := by omega
    rw [e0, p1n_y, p1n_s (show 4 * (l / 4) ≠ l by omega), p1n_s (show 4 * (l / 4) + 1 ≠ l by omega), p1n_s (show 4 * (l / 4) + 3 ≠ l by omega), p1n_0 (show l ≤ l by omega), p1n_0 (show l ≤ 4 * (l / 4) + 3 by omega), r, lN_or _ (by omega)]
    congr 1
    omega
  · have e0 : 4 * (l / 4) + 3 = l := by omega
    rw [e0, p1n_y, p1n_s (show 4 * (l / 4) ≠ l by omega), p1n_s (show 4 * (l / 4) + 1 ≠ l by omega), p1n_s (show 4 * (l / 4) + 2 ≠ l by omega), p1n_0 (show l ≤ l by omega), r, lN_or _ (by omega)]
    congr 1
    omega
theorem pcn_o {l q : Nat} (h : q ≠ l / 4) : pcn s (l + 1) q = pcn s l q := by
  unfold pcn
  rw [p1n_s (show 4 * q ≠ l by omega), p1n_s (show 4 * q + 1 ≠ l by omega), p1n_s (show 4 * q + 2 ≠ l by omega), p1n_s (show 4 * q + 3 ≠ l by omega)]
def dr_fr (t : Nat) (M M' : px_Mem) : Prop := (∀ a, a ≠ 38 → a ≠ 39 → a ≠ 40 → M'.1 a = M.1 a) ∧ (∀ i, i ≠ 4 → M'.1 38 i = M.1 38 i) ∧ ∀ a, a ≠ 92 + t → M'.2 a = M.2 a
theorem sc_50 {t : Nat} (ht : t < 71) (hC : ws_C s 29 M) (hW : ws_W s) (hm : ws_md s ≤ 140) (h : ∀ M', dr_fr t M M' → (∀ i, i < 45 → M'.2 (92 + t) i = lN (sh_pic s i)) → Q none M') : px_T 0 50 0 [some (.ref 38), some (.ref 29), some (.ref (92 + t)), none] [] M Q := by
  refine sg_50_0 (Or.inl rfl) (sc_44 hC hW hm (fun M1 k1 L1 => sg_50_5 (Or.inl rfl) ?_))
  have hz := sh_szb (s := s)
  -- the two loops keep the class's side
  have lbk : ∀ N : px_Mem, (N.1 = M1.1) → lb_c 120 s N ∧ ws_C s 29 N := by
    intro N e
    refine ⟨?_, ws_C_fr hC (fun a h1 h2 _ => by rw [e]; exact k1.1 a (by omega) (by omega) (by omega))⟩
    obtain ⟨a1, a2, a3⟩ := L1
    unfold lb_c lb_at
    rw [e]
    exact ⟨a1, a2, a3⟩
  have l2 : ∀ (k l : Nat) (N : px_Mem), l + k = sh_sz s → N.1 = M1.1 → (∀ a, a ≠ 92 + t → N.2 a = M.2 a) → (∀ i, i < 15 → N.2 (92 + t) i = lN (sh_pic s i)) → (∀ q, q < 30 → N.2 (92 + t) (15 + q) = lN (pcn s l q)) → px_T 0 50 45 [some (.ref 38), some (.ref 29), some (.ref (92 + t)), some (.int (nI l))] [] N Q := by
    intro k
    induction k with
    | zero =>
      intro l N hl e hf h1 h2
      have el : l = sh_sz s := by omega
      subst el
      have f4 : N.1 38 4 = nI (sh_sz s) := by rw [e]; exact L1.1
      refine sg_50_45 (Or.inl rfl) (fun _ => h N ⟨fun a p q r => by rw [e]; exact k1.1 a p q r, fun i p => by rw [e]; exact k1.2.1 i p, hf⟩ (fun i hi => ?_)) (fun c => absurd (by rw [f4, in_le (by omega) (by omega)]; omega) c) (fun c => absurd (by rw [f4, in_le (by omega) (by omega)]; omega) c) (fun c => absurd (by rw [f4, in_le (by omega) (by omega)]; omega) c)
      by_cases hi15 : i < 15
      · exact h1 i hi15
      · have h9 := h2 (i - 15) (by omega)
        rw [show 15 + (i - 15) = i by omega] at h9
        rw [h9]
        congr 1
        show _ = if i < 15 then _ else _
        rw [if_neg hi15]
        rfl
    | succ k ih =>
      intro l N hl e hf h1 h2
      have f4 : N.1 38 4 = nI (sh_sz s) := by rw [e]; exact L1.1
      obtain ⟨L2, C2⟩ := lbk N e
      have fm := L2.2.2 l (by show l < sh_sz s; omega)
      have e4 : (15 : Int32) + nI l / 4 = nI (15 + l / 4) := by rw [show nI l / 4 = nI (l / 4) from pk_div (d := 4) (by omega) (by omega) (by omega), il_15, in_add]
      refine sg_50_45 (Or.inl rfl) (fun c => ?_) (fun _ => by rw [e4]; exact at92 ht (by omega)) (fun _ => me_vin (by omega) (by omega)) (fun _ => ?_)
      · rw [f4, in_le (by omega) (by omega)] at c
        omega
      · rw [in_cl (by omega), fm, e4, in_cl (by omega), h2 (l / 4) (by omega)]
        refine sc_52 C2 hW hm L2 (by omega) (sg_50_73 (Or.inl rfl) (at92 ht (by omega)) ?_)
        have e5 : (16 : Int32) * (nI l - nI l / 4 * 4) = nI (16 * (l % 4)) := by rw [show nI l - nI l / 4 * 4 = nI (l % 4) from pk_rem (d := 4) (by omega) (by omega) (by omega), il_16, in_mul]
        rw [e5, wb_shl _ (by omega), pcn_s hW (by omega), in_cl (by omega), in_a1]
        refine ih (l + 1) _ (by omega) e (fun a ha => ?_) (fun i hi => ?_) (fun q hq => ?_)
        · rw [me_Lo ha]
          exact hf a ha
        · rw [me_Li (by omega)]
          exact h1 i hi
        · by_cases hq2 : q = l / 4
          · subst hq2
            rw [me_LL]
          · rw [me_Li (by omega), pcn_o hq2]
            exact h2 q hq
  have l1 : ∀ (k p : Nat) (N : px_Mem), p + k = 15 → N.1 = M1.1 → (∀ a, a ≠ 92 + t → N.2 a = M.2 a) → (∀ i, i < p → N.2 (92 + t) i = lN (sh_pic s i)) → (∀ i, p ≤ i → i < 45 → N.2 (92 + t) i = 0) → px_T 0 50 12 [some (.ref 38), some (.ref 29), some (.ref (92 + t)), some (.int (nI (p + 1)))] [] N Q := by
    intro k
    induction k with
    | zero =>
      intro p N hp e hf h1 h2
      have ep : p = 15 := by omega
      subst ep
      refine sg_50_12 (Or.inl rfl) (fun c1 => ?_) (fun c1 => by exfalso; (try simp (disch := omega) only [in_lt, in_le, in_eq, in_add, in_mul, in_sb, in_cl, in_bz, in_bo, in_mo, not_true_eq_false, not_false_eq_true, il_0, il_1, il_2, il_3, il_4, il_5, il_6, il_7, il_8, il_9, il_10, il_11, il_12, il_13, il_14, il_15, il_16, il_31] at c1) <;> omega)
      refine l2 (sh_sz s) 0 N (by omega) e hf h1 (fun q hq => ?_)
      rw [h2 (15 + q) (by omega) (by omega)]
      rfl
    | succ k ih =>
      intro p N hp e hf h1 h2
      obtain ⟨L2, C2⟩ := lbk N e
      have ep : sh_pic s p = if (ws_al s).testBit (p + 1) = true then sh_pp s (p + 1) else 0 := by
        unfold sh_pic
        rw [if_pos (by omega)]
      refine sg_50_12 (Or.inl rfl) (fun c1 => by exfalso; (try simp (disch := omega) only [in_lt, in_le, in_eq, in_add, in_mul, in_sb, in_cl, in_bz, in_bo, in_mo, not_true_eq_false, not_false_eq_true, il_0, il_1, il_2, il_3, il_4, il_5, il_6, il_7, il_8, il_9, il_10, il_11, il_12, il_13, il_14, il_15, il_16, il_31] at c1) <;> omega) (fun c1 => ?_)
      refine sw_63 (Or.inl rfl) C2 hW (by omega) (by omega) (sg_50_23 (Or.inl rfl) (fun c => ?_) (fun c => ?_))
      · rw [in_b0] at c
        rw [c, if_neg (by decide)] at ep
        rw [in_a1]
        refine ih (p + 1) N (by omega) e hf (fun i hi => ?_) (fun i hi hi2 => h2 i (by omega) hi2)
        by_cases hip : i = p
        · subst hip
          rw [h2 i (by omega) (by omega), ep]
          rfl
        · exact h1 i (by omega)
      · rw [in_b0, Bool.not_eq_false] at c
        rw [if_pos c] at ep
        refine sc_51 C2 hW hm L2 (by omega) (by omega) ?_
        rw [in_s1 (by omega), Nat.add_sub_cancel]
        refine sg_50_36 (Or.inl rfl) (at92 ht (by omega)) ?_
        rw [in_cl (by omega), in_a1]
        refine ih (p + 1) _ (by omega) e (fun a ha => by rw [me_Lo ha]; exact hf a ha) (fun i hi => ?_) (fun i hi hi2 => by rw [me_Li (by omega)]; exact h2 i (by omega) hi2)
        by_cases hip : i = p
        · subst hip
          rw [me_LL, ep]
        · rw [me_Li hip]
          exact h1 i (by omega)
  refine sp_339 (n := 45) (sh92 t ht) (by omega) (sg_50_10 (Or.inl rfl) ?_)
  refine l1 15 0 _ rfl rfl (fun a ha => ?_) (fun i hi => absurd hi (Nat.not_lt_zero i)) (fun i hi hi2 => ?_)
  · rw [me_Bo ha, k1.2.2]
  · rw [me_Bs, fa_fill_in hi2]
theorem sh_pib (hW : ws_W s) (i : Nat) : sh_pic s i < 2 ^ 64 := by
  unfold sh_pic
  split
  · split
    · have hpa := hW.2.1 (i + 1)
      have hse := hW.2.2.1 (i + 1)
      have hw : ∀ (n : Nat) (f : Nat → Nat), (∀ k, f k ≤ 120) → sh_w f n < 128 ^ n := by
        intro n
        induction n with
        | zero => intro f _; show (0 : Nat) < 1; omega
        | succ n ih =>
          intro f hf
          have h1 := ih (fun k => f (k + 1)) (fun k => hf (k + 1))
          have h2 := hf 0
          show f 0 + 128 * sh_w (fun k => f (k + 1)) n < 128 ^ (n + 1)
          rw [Nat.pow_succ]
          omega
      have h8 := hw 8 (fun h => sh_la s (8 * (i + 1) + h)) (fun k => sh_lab _)
      unfold sh_pp
      omega
    · omega
  · exact pcn_b hW (n := sh_sz s) (q := i - 15) (Nat.le_refl _)
theorem sh_en_t {s u : ws_S} : ∀ {n : Nat}, sh_en s u n = true ↔ ∀ i, i < n → sh_pic s i = sh_pic u i
  | 0 => ⟨fun _ i hi => absurd hi (Nat.not_lt_zero i), fun _ => rfl⟩
  | n + 1 => by
    show (sh_en s u n && decide (sh_pic s n = sh_pic u n)) = true ↔ _
    rw [Bool.and_eq_true, sh_en_t (n := n), decide_eq_true_iff]
    constructor
    · intro h i hi
      by_cases e : i = n
      · rw [e]; exact h.2
      · exact h.1 i (by omega)
    · intro h
      exact ⟨fun i hi => h i (by omega), h n (by omega)⟩
theorem sh_eq_t {s u : ws_S} : sh_eq s u = true ↔ ∀ i, i < 45 → sh_pic s i = sh_pic u i := sh_en_t
theorem lN_inj {a b : Nat} (ha : a < 2 ^ 64) (hb : b < 2 ^ 64) : lN a = lN b ↔ a = b := by
  constructor
  · intro h
    rw [← lN_nat ha, ← lN_nat hb, h]
  · rintro rfl; rfl
theorem sc_49 {a b : Nat} {s u : ws_S} (ha : a < 71) (hb : b < 71) (hWs : ws_W s) (hWu : ws_W u) (h1 : ∀ i, i < 45 → M.2 (92 + a) i = lN (sh_pic s i)) (h2 : ∀ i, i < 45 → M.2 (92 + b) i = lN (sh_pic u i)) (h : Q (some (.int (in_b (sh_eq s u)))) M) : px_T 0 49 0 [some (.ref (92 + a)), some (.ref (92 + b)), none] [] M Q := by
  have hl : ∀ (k i : Nat), i + k = 45 → (∀ j, j < i → sh_pic s j = sh_pic u j) → px_T 0 49 2 [some (.ref (92 + a)), some (.ref (92 + b)), some (.int (nI i))] [] M Q := by
    intro k
    induction k with
    | zero =>
      intro i hi hj
      have e : i = 45 := by omega
      subst e
      refine sg_49_2 (fun _ => ?_) (fun c => absurd (by decide) c) (fun c => absurd (by decide) c) (fun c => absurd (by decide) c) (fun c => absurd (by decide) c)
      rw [sh_eq_t.mpr hj] at h
      exact h
    | succ k ih =>
      intro i hi hj
      have e1 : (lg_cmp (M.2 (92 + a) (nI i).toNatClampNeg) (M.2 (92 + b) (nI i).toNatClampNeg) = 0) ↔ sh_pic s i = sh_pic u i := by
        rw [lg_cmp_eq, in_cl (by omega), h1 i (by omega), h2 i (by omega), lN_inj (sh_pib hWs i) (sh_pib hWu i)]
      refine sg_49_2 (fun c => ?_) (fun _ => at92 ha (by omega)) (fun _ => at92 hb (by omega)) (fun _ c => ?_) (fun _ c => ?_)
      · rw [show (45 : Int32) = nI 45 from rfl, in_le (by omega) (by omega)] at c
        omega
      · rw [e1] at c
        rw [in_a1]
        refine ih (i + 1) (by omega) (fun j hj2 => ?_)
        by_cases e : j = i
        · rw [e]; exact c
        · exact hj j (by omega)
      · rw [e1] at c
        have e2 : sh_eq s u = false := by
          cases q : sh_eq s u with
          | false => rfl
          | true => exact absurd (sh_eq_t.mp q i (by omega)) c
        rw [e2] at h
        exact h
  exact sg_49_0 (hl 45 0 rfl (fun j hj => absurd hj (Nat.not_lt_zero j)))
end D67
