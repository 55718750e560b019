/-! the class reads heads, events, all -/
def pj (c : Nat) (v : Nat → Nat) : Nat → Nat
  | 0 => c
  | j + 1 => pj c v j + v (j + 1) * 2 ^ (4 * (j + 1))
def yhd (T : tx) (k : tkn) (y : iv_Y) : iv_Y := (1, (kt T k 2).2.2.2, (kt T k 4).2.2.2, 0, 0, iv_ev y)
def yev (T : tx) (k : tkn) (y : iv_Y) : iv_Y := (iv_ln y + 1, iv_lw y, iv_od y, iv_td y + 1, 0, fun i => if i = iv_td y then eEv T k else iv_ev y i)
def pL (T : tx) : Nat → iv_Y → tkn → flt × iv_Y
  | 0, y, _ => (none, y)
  | n + 1, y, k => if k.2.1 = 0 then (none, y) else if iv_ln y = 0 then (if fHd T k = none then pL T n (yhd T k y) (kt T k 6) else (fHd T k, y)) else (if fEv T k (iv_td y) = none then pL T n (yev T k y) (kt T k (nbk (kx T k) + 2)) else (fEv T k (iv_td y), y))
/-- a story under way -/
def yok0 (y : iv_Y) : Prop := iv_yok y ∧ iv_ac y = 0
section R79
variable {M : px_Mem} {Q : px_Po} {T : tx} {k : tkn} {f : flt} {y : iv_Y}
theorem kx_b : kx T k ≤ 10 := fa_first_le _ _
theorem bl_n {c p : Nat} : ¬ blm f c p = none := by
  cases f with
  | none => simp [blm]
  | some x => simp [blm]
theorem sfl_n (h : sfl f k = none) : f = none ∧ k.2.1 = 3 := by
  unfold sfl at h
  split at h
  · rename_i c
    exact ⟨h, c⟩
  · exact absurd h bl_n
theorem nfl_n {lo hi : Nat} (h : nfl f k lo hi = none) : f = none ∧ k.2.1 = 2 ∧ lo ≤ k.2.2.2 ∧ k.2.2.2 ≤ hi := by
  unfold nfl at h
  split at h
  · rename_i c
    split at h
    · rename_i d
      exact ⟨h, c, d.1, d.2⟩
    · exact absurd h bl_n
  · exact absurd h bl_n
theorem nfl_0 {lo hi : Nat} (h : nfl f k lo hi = none) : nfl none k lo hi = none := by
  have h2 := nfl_n h
  rw [h2.1] at h
  exact h
theorem wfl_n {w : Nat} (h : wfl T f k w = none) : f = none ∧ isW T k w = true := by
  unfold wfl at h
  split at h
  · rename_i c
    exact ⟨h, c⟩
  · exact absurd h bl_n
theorem CS_o {M1 : px_Mem} (S : CS T k f M) (h : ∀ a, (a = 1 ∨ a = 2 ∨ a = 3 ∨ 163 ≤ a) → M1.1 a = M.1 a) : CS T k f M1 := by
  obtain ⟨P, K, W, Ro, F⟩ := S
  refine ⟨?_, ?_, W, iv_ro_fr Ro (fun a ha => h a (by omega)), FC_fr F (by rw [h 3 (by omega)]) (by rw [h 3 (by omega)])⟩
  · unfold TPc
    rw [h 1 (by omega), h 2 (by omega)]
    exact P
  · unfold CT
    rw [h 3 (by omega)]
    exact K
theorem cs_22 (S : CS T k none M) (h : ∀ M', (∀ a, a ≠ 3 → a ≠ 6 → M'.1 a = M.1 a) → M'.2 = M.2 → (∀ i, i ≠ 2 → i ≠ 3 → M'.1 6 i = M.1 6 i) → CS T (kt T k 6) (fHd T k) M' → (fHd T k = none → M'.1 6 2 = nI (kt T k 2).2.2.2 ∧ M'.1 6 3 = nI (kt T k 4).2.2.2) → Q none M') : px_T 0 22 0 [some (.ref 3), some (.ref 6)] [] M Q := by
  have i6 : px_isS 6 := Or.inr (Or.inl rfl)
  refine sg_22_0 i6 (cs_26 (w := 11) S (by omega) (fun M1 k1 S1 => sg_22_6 i6 (cs_26 (w := 12) S1 (by omega) (fun M2 k2 S2 => sg_22_12 i6 ?_))))
  refine cs_25 (lo := 0) (hi := 3) S2 (by omega) (by omega) (fun v2 M3 k3 S3 g3 => sg_22_19 i6 i6 ?_)
  have S3' : CS T _ _ (px_wI M3 6 2 v2) := CS_o S3 (fun a ha => by simp (disch := omega) only [me_II, me_Ii, me_Io, me_I2, me_L1, me_Li, me_LL, me_Lo, me_As, me_Ao, me_A2, me_Bs, me_Bo, me_B1])
  refine cs_26 (w := 13) S3' (by omega) (fun M4 k4 S4 => sg_22_28 i6 ?_)
  refine cs_25 (lo := 0) (hi := 10) S4 (by omega) (by omega) (fun v4 M5 k5 S5 g5 => sg_22_36 i6 ?_)
  have S5' : CS T _ _ (px_wI M5 6 3 v4) := CS_o S5 (fun a ha => by simp (disch := omega) only [me_II, me_Ii, me_Io, me_I2, me_L1, me_Li, me_LL, me_Lo, me_As, me_Ao, me_A2, me_Bs, me_Bo, me_B1])
  refine cs_27 S5' (fun M6 k6 S6 => sg_22_43 (h M6 (fun a a3 a6 => ?_) ?_ (fun i i2 i3 => ?_) S6 (fun hn => ?_)))
  · rw [k6.1 a a3, me_Io a6, k5.1 a a3, k4.1 a a3, me_Io a6, k3.1 a a3, k2.1 a a3, k1.1 a a3]
  · rw [k6.2]
    show M5.2 = M.2
    rw [k5.2, k4.2]
    show M3.2 = M.2
    rw [k3.2, k2.2, k1.2]
  · rw [k6.1 6 (by omega), me_Ii i3, k5.1 6 (by omega), k4.1 6 (by omega), me_Ii i2, k3.1 6 (by omega), k2.1 6 (by omega), k1.1 6 (by omega)]
  · have n1 := (sfl_n hn).1
    have n2 := (nfl_n n1).1
    have n3 := (wfl_n n2).1
    refine ⟨?_, ?_⟩
    · rw [k6.1 6 (by omega), me_Ii (by omega), k5.1 6 (by omega), k4.1 6 (by omega), me_II]
      exact (g3 (nfl_0 n3)).1
    · rw [k6.1 6 (by omega), me_II]
      exact (g5 (nfl_0 n1)).1
theorem fNm_ok {c : Nat} : ∀ {n : Nat}, fNm T k c n = none → ∀ w, 1 ≤ w → w ≤ n → (kt T k w).2.1 = 2 ∧ lsN c w ≤ (kt T k w).2.2.2 ∧ (kt T k w).2.2.2 ≤ msN c w
  | 0, _, w, h1, h2 => absurd h1 (by omega)
  | n + 1, h, w, h1, h2 => by
    have h3 := nfl_n (show nfl (fNm T k c n) (kt T k (n + 1)) (lsN c (n + 1)) (msN c (n + 1)) = none from h)
    by_cases e : w = n + 1
    · rw [e]
      exact h3.2
    · exact fNm_ok h3.1 w h1 (by omega)
theorem ms_b2 : ∀ c, c ≤ 9 → msN c 1 ≤ 15 ∧ msN c 2 ≤ 15 ∧ msN c 3 ≤ 30 := by decide
theorem pj_b {c : Nat} {v : Nat → Nat} (hc : c ≤ 9) {j : Nat} (hj : j ≤ 2) (h : ∀ w, 1 ≤ w → w ≤ j → v w ≤ msN c w) : pj c v j < 2 ^ (4 * (j + 1)) := by
  have hm := ms_b2 _ hc
  have hj3 : j = 0 ∨ j = 1 ∨ j = 2 := by omega
  rcases hj3 with rfl | rfl | rfl
  · show c < 16
    omega
  · have a1 := h 1 (by omega) (by omega)
    show c + v 1 * 16 < 256
    omega
  · have a1 := h 1 (by omega) (by omega)
    have a2 := h 2 (by omega) (by omega)
    show c + v 1 * 16 + v 2 * 256 < 4096
    omega
theorem nEv_e {c : Nat} {v : Nat → Nat} (hc : c ≤ 9) (h1 : ∀ w, 1 ≤ w → w ≤ nbk c → lsN c w ≤ v w ∧ v w ≤ msN c w) : iv_pk (evg c v) = pj c v (nbk c) ∧ iv_ok (evg c v) := by
  have hb := nbk_b _ hc
  have hl := ls1 _ hc
  have a1 := h1 1 (by omega) (by omega)
  have e1 : nvg c v 1 = v 1 := by unfold nvg; rw [if_pos (by omega)]
  have b2 : lsN c 2 ≤ nvg c v 2 ∧ nvg c v 2 ≤ msN c 2 := by
    unfold nvg
    by_cases q : 2 ≤ nbk c
    · rw [if_pos q]
      exact h1 2 (by omega) q
    · rw [if_neg q]
      unfold lsN msN
      rw [if_neg q, if_neg q]
      omega
  have b3 : lsN c 3 ≤ nvg c v 3 ∧ nvg c v 3 ≤ msN c 3 := by
    unfold nvg
    by_cases q : 3 ≤ nbk c
    · rw [if_pos q]
      exact h1 3 (by omega) q
    · rw [if_neg q]
      unfold lsN msN
      rw [if_neg q, if_neg q]
      omega
  refine ⟨?_, ok_of hc (by rw [e1]; omega) (by rw [e1]; omega) b2.1 b2.2 b3.1 b3.2⟩
  show c + 16 * nvg c v 1 + 256 * nvg c v 2 + 4096 * nvg c v 3 = _
  have hn : nbk c = 1 ∨ nbk c = 2 ∨ nbk c = 3 := by omega
  rw [e1]
  unfold nvg
  rcases hn with e | e | e
  · rw [e, if_neg (by omega), if_neg (by omega)]
    show _ = c + v 1 * 16
    omega
  · rw [e, if_pos (by omega), if_neg (by omega)]
    show _ = c + v 1 * 16 + v 2 * 256
    omega
  · rw [e, if_pos (by omega), if_pos (by omega)]
    show _ = c + v 1 * 16 + v 2 * 256 + v 3 * 4096
    omega
theorem cs_23 (S : CS T k none M) {td : Nat} (htd : td ≤ 40) (h4 : M.1 6 4 = nI td) (h5 : M.1 6 5 = 0) (h : ∀ M' k', (∀ a, a ≠ 3 → a ≠ 6 → a ≠ 7 → M'.1 a = M.1 a) → M'.2 = M.2 → (∀ i, i ≠ 4 → M'.1 6 i = M.1 6 i) → CS T k' (fEv T k td) M' → (fEv T k td = none → k' = kt T k (nbk (kx T k) + 2) ∧ M'.1 6 4 = nI (td + 1) ∧ M'.1 7 = upd (M.1 7) td (nI (iv_pk (eEv T k))) ∧ iv_ok (eEv T k)) → Q none M') : px_T 0 23 0 [some (.ref 3), some (.ref 6), none, none, none] [] M Q := by
  have i6 : px_isS 6 := Or.inr (Or.inl rfl)
  have hkx := kx_b (T := T) (k := k)
  unfold fEv eEv at h
  refine sg_23_0 i6 (cs_24 S ?_)
  generalize kx T k = c at h hkx ⊢
  unfold fEvc at h
  by_cases c10 : c = 10
  · rw [if_pos c10] at h
    rw [if_neg (show ¬ c < 10 by omega)]
    refine sg_23_4 i6 (fun q => absurd q (by decide)) (fun q => absurd q (by decide)) (fun _ => ?_)
    exact cs_28 (c := 1) S (by omega) (by omega) (fun M1 k1 _ S1 => sg_23_14 (h M1 k (fun a a3 _ _ => k1.1 a a3) k1.2 (fun i _ => by rw [k1.1 6 (by omega)]) S1 (fun q => absurd q (by simp))))
  · rw [if_neg c10] at h
    rw [if_pos (show c < 10 by omega)]
    have hc : c ≤ 9 := by omega
    have hb := nbk_b _ hc
    have pos : (0 : Int32) ≤ nI (c) := by rw [show (0 : Int32) = nI 0 from rfl, in_le (by omega) (by omega)]; omega
    by_cases c40 : td = 40
    · have n40 : ¬ M.1 6 4 < 40 := by rw [h4, c40]; decide
      rw [if_pos c40] at h
      refine sg_23_4 i6 (fun _ q => absurd q n40) (fun _ _ => ?_) (fun q => absurd pos q)
      exact cs_28 (c := 3) S (by omega) (by omega) (fun M1 k1 _ S1 => sg_23_29 (h M1 k (fun a a3 _ _ => k1.1 a a3) k1.2 (fun i _ => by rw [k1.1 6 (by omega)]) S1 (fun q => absurd q (by simp))))
    · have y40 : M.1 6 4 < 40 := by rw [h4, show (40 : Int32) = nI 40 from rfl, in_lt (by omega) (by omega)]; omega
      rw [if_neg c40] at h
      refine sg_23_4 i6 (fun _ _ => ?_) (fun _ q => absurd y40 q) (fun q => absurd pos q)
      refine cs_30 S (fun M1 k1 S1 => sg_23_36 i6 ?_)
      have lp : ∀ (n j : Nat) (N : px_Mem) (code : Int32), j + n = nbk (c) → r2_fr M N → CS T (kt T k (j + 1)) (fNm T k (c) j) N → (fNm T k (c) j = none → code = nI (pj c (vls T k) j)) → px_T 0 23 39 [some (.ref 3), some (.ref 6), some (.int code), some (.int (nI (c))), some (.int (nI (j + 1)))] [] N Q := by
        intro n
        induction n with
        | zero =>
          intro j N code hj hf SN hcode
          have ej : j = nbk (c) := by omega
          subst ej
          refine sg_23_39 i6 (sp_4 SN.2.2.2.1 hc (sg_23_45 i6 (fun _ => ?_) (fun q => absurd (by rw [in_lt (by omega) (by omega)]; omega) q)))
          refine cs_27 SN (fun M2 k2 S2 => sg_23_82 i6 ?_)
          have g4 : M2.1 6 4 = nI td := by rw [k2.1 6 (by omega), hf.1 6 (by omega)]; exact h4
          have g5 : M2.1 6 5 = 0 := by rw [k2.1 6 (by omega), hf.1 6 (by omega)]; exact h5
          have ev : M2.1 6 4 + M2.1 6 5 = nI td := by rw [g4, g5, Int32.add_zero]
          refine sg_55_0 i6 (sg_53_0 i6 ?_)
          rw [ev]
          refine sg_55_4 i6 (fun q => ?_) (fun _ => sg_53_0 i6 ?_)
          · rw [show (70 : Int32) = nI 70 from rfl, in_le (by omega) (by omega)] at q
            omega
          · rw [ev]
            refine sg_55_17 ⟨70, rfl, me_vin (by omega) (by omega)⟩ (sg_23_87 i6 ?_)
            rw [in_cl (by omega), show (px_wI M2 (6 + 1) td code).1 6 4 = nI td by rw [me_Io (by omega)]; exact g4, in_a1]
            refine h _ (kt T k (nbk (c) + 2)) (fun a a3 a6 a7 => ?_) ?_ (fun i hi => ?_) (CS_o S2 (fun a ha => by simp (disch := omega) only [me_II, me_Ii, me_Io, me_I2, me_L1, me_Li, me_LL, me_Lo, me_As, me_Ao, me_A2, me_Bs, me_Bo, me_B1])) (fun hn => ⟨rfl, by simp (disch := omega) only [me_II, me_Ii, me_Io, me_I2, me_L1, me_Li, me_LL, me_Lo, me_As, me_Ao, me_A2, me_Bs, me_Bo, me_B1], ?_, ?_⟩)
            · rw [me_Io a6, me_Io a7, k2.1 a a3, hf.1 a a3]
            · show M2.2 = M.2
              rw [k2.2, hf.2]
            · rw [me_Ii hi, me_Io (by omega), k2.1 6 (by omega), hf.1 6 (by omega)]
            · have hn2 := (sfl_n hn).1
              rw [me_Io (by omega), me_Is, k2.1 7 (by omega), hf.1 7 (by omega), hcode hn2, (nEv_e (v := vls T k) hc (fun w w1 w2 => (fNm_ok hn2 w w1 w2).2)).1]
            · exact (nEv_e hc (fun w w1 w2 => (fNm_ok (sfl_n hn).1 w w1 w2).2)).2
        | succ n ih =>
          intro j N code hj hf SN hcode
          have lb := lsN_b (c) (j + 1)
          have mb := msN_b (c) (j + 1)
          refine sg_23_39 i6 (sp_4 SN.2.2.2.1 hc (sg_23_45 i6 (fun q => ?_) (fun _ => ?_)))
          · rw [in_lt (by omega) (by omega)] at q
            omega
          · refine sp_5 SN.2.2.2.1 hc (by omega) (sg_23_56 i6 (sp_6 SN.2.2.2.1 hc (by omega) (sg_23_62 i6 ?_)))
            refine cs_25 SN (by omega) (by omega) (fun v M2 k2 S2 g2 => sg_23_65 i6 (sg_1_0 (sg_23_70 i6 ?_)))
            rw [in_a1]
            refine ih (j + 1) M2 _ (by omega) (r2_tr hf k2) S2 (fun hn => ?_)
            have hn2 := nfl_n (show nfl (fNm T k (c) j) (kt T k (j + 1)) (lsN (c) (j + 1)) (msN (c) (j + 1)) = none from hn)
            obtain ⟨v1, v2, v3⟩ := g2 (nfl_0 hn)
            have hpj := pj_b (v := vls T k) hc (show j ≤ 2 by omega) (fun w w1 w2 => (fNm_ok hn2.1 w w1 w2).2.2)
            rw [hcode hn2.1, v1]
            have e4 : (4 : Int32) * nI (j + 1) = nI (4 * (j + 1)) := by rw [il_4, in_mul]
            have hj3 : j = 0 ∨ j = 1 ∨ j = 2 := by omega
            have hsh : nI (kt T k (j + 1)).2.2.2 <<< ((4 * nI (j + 1)) &&& 31) = nI ((kt T k (j + 1)).2.2.2 * 2 ^ (4 * (j + 1))) := by
              rw [e4]
              refine in_shl (by omega) ?_
              rcases hj3 with rfl | rfl | rfl
              · show _ * 16 < _
                omega
              · show _ * 256 < _
                omega
              · show _ * 4096 < _
                omega
            rw [hsh, in_or]
            congr 1
            show _ = pj c (vls T k) j + _
            rw [Nat.or_comm, Nat.mul_comm, ← Nat.two_pow_add_eq_or_of_lt hpj, Nat.add_comm, Nat.mul_comm]
            rfl
      exact lp (nbk (c)) 0 M1 _ (by omega) k1 S1 (fun _ => rfl)
theorem TW_kt {n : Nat} (h : TW T k) : TW T (kt T k n) := by
  induction n with
  | zero => exact h
  | succ n ih => exact stp_w ih.2.1
theorem yhd_ok (h : iv_yok y) (hn : fHd T k = none) : iv_yok (yhd T k y) := by
  have n1 := (sfl_n hn).1
  have a4 := nfl_n n1
  have n3 := (wfl_n a4.1).1
  have a2 := nfl_n n3
  refine ⟨a2.2.2.2, a4.2.2.2, by show 0 ≤ 40; omega, by show 0 ≤ 30; omega, Or.inr rfl, fun e he => absurd he (Nat.not_lt_zero e)⟩
theorem yev_ok (h : iv_yok y) (h0 : iv_ac y = 0) (hl : iv_ln y ≠ 0) (ht : iv_td y < 40) (he : iv_ok (eEv T k)) : iv_yok (yev T k y) := by
  obtain ⟨h1, h2, h3, h4, h5, h6⟩ := h
  refine ⟨h1, h2, by show iv_td y + 1 ≤ 40; omega, by show 0 ≤ 30; omega, Or.inr ?_, fun e he2 => ?_⟩
  · rcases h5 with q | q
    · exact absurd q.1 hl
    · show iv_ln y + 1 = iv_td y + 1 + 1
      omega
  · have he3 : e < iv_td y + 1 + 0 := he2
    show iv_ok (if e = iv_td y then eEv T k else iv_ev y e)
    split
    · exact he
    · exact h6 e (by unfold iv_n; omega)
theorem fEv_t {td : Nat} (h : fEv T k td = none) : ¬ td = 40 ∧ ¬ kx T k = 10 := by
  unfold fEv at h
  generalize kx T k = c at h ⊢
  unfold fEvc at h
  split at h
  · simp at h
  · split at h
    · simp at h
    · exact ⟨by assumption, by assumption⟩
/-- the loop over the lines -/
theorem cs_21l {M0 : px_Mem} (h : ∀ M', (∀ a, a ≠ 3 → a ≠ 6 → a ≠ 7 → M'.1 a = M0.1 a) → M'.2 = M0.2 → (∃ k', CS T k' (pL T 43 (0, 0, 0, 0, 0, fun _ => (0, 0, 0, 0)) (stp T 0)).1 M') → ((pL T 43 (0, 0, 0, 0, 0, fun _ => (0, 0, 0, 0)) (stp T 0)).1 = none → iv_yok (pL T 43 (0, 0, 0, 0, 0, fun _ => (0, 0, 0, 0)) (stp T 0)).2 ∧ iv_ac (pL T 43 (0, 0, 0, 0, 0, fun _ => (0, 0, 0, 0)) (stp T 0)).2 = 0 ∧ iv_sc (pL T 43 (0, 0, 0, 0, 0, fun _ => (0, 0, 0, 0)) (stp T 0)).2 6 M') → Q none M') : ∀ (n : Nat) (y : iv_Y) (k : tkn) (N : px_Mem), iv_ln y + n = 43 → (∀ a, a ≠ 3 → a ≠ 6 → a ≠ 7 → N.1 a = M0.1 a) → N.2 = M0.2 → CS T k none N → iv_yok y → iv_ac y = 0 → iv_sc y 6 N → pL T 43 (0, 0, 0, 0, 0, fun _ => (0, 0, 0, 0)) (stp T 0) = pL T n y k → px_T 0 21 25 [some (.ref 3), some (.ref 6), some (.int (nI (iv_ln y)))] [] N Q := by
  have i6 : px_isS 6 := Or.inr (Or.inl rfl)
  generalize pL T 43 (0, 0, 0, 0, 0, fun _ => (0, 0, 0, 0)) (stp T 0) = G at h ⊢
  intro n
  induction n with
  | zero =>
    intro y k N hn hf h2 S Y A D hG
    obtain ⟨_, _, y3, _, y5, _⟩ := Y
    omega
  | succ n ih =>
    intro y k N hn hf h2 S Y A D hG
    have hk := CS_k S
    have f1 : N.1 3 1 = 0 := S.2.2.2.2.1
    have f3 : N.1 3 3 = nI k.2.1 := S.2.1.2.1
    have d1 : N.1 6 1 = nI (iv_ln y) := D.1
    have hl : iv_ln y ≤ 41 := by
      obtain ⟨_, _, y3, _, y5, _⟩ := Y
      omega
    have hpl : pL T (n + 1) y k = if k.2.1 = 0 then (none, y) else if iv_ln y = 0 then (if fHd T k = none then pL T n (yhd T k y) (kt T k 6) else (fHd T k, y)) else (if fEv T k (iv_td y) = none then pL T n (yev T k y) (kt T k (nbk (kx T k) + 2)) else (fEv T k (iv_td y), y)) := rfl
    rw [hpl] at hG
    have n900 : ¬ (900 : Int32) < nI (iv_ln y) := by rw [show (900 : Int32) = nI 900 from rfl, in_lt (by omega) (by omega)]; omega
    refine sg_21_25 i6 (fun q => absurd q n900) (fun _ _ c => ?_) (fun _ _ c d => ?_) (fun _ _ c d => ?_) (fun _ q => absurd f1 q)
    · rw [f3, show (0 : Int32) = nI 0 from rfl, in_eq (by omega) (by omega)] at c
      rw [if_pos c] at hG
      refine h N hf h2 ⟨k, ?_⟩ (fun _ => ?_)
      · rw [hG]; exact S
      · rw [hG]; exact ⟨Y, A, D⟩
    · rw [f3, show (0 : Int32) = nI 0 from rfl, in_eq (by omega) (by omega)] at c
      rw [d1, show (0 : Int32) = nI 0 from rfl, in_eq (by omega) (by omega)] at d
      rw [if_neg c, if_pos d] at hG
      refine cs_22 S (fun M1 k1 k2 k3 S1 k4 => sg_21_58 i6 ?_)
      have g1 : M1.1 6 1 = nI (iv_ln y) := by rw [k3 1 (by omega) (by omega)]; exact d1
      rw [g1, in_a1]
      cases hfl : fHd T k with
      | none =>
        rw [hfl] at S1
        rw [if_pos hfl] at hG
        obtain ⟨g2, g3⟩ := k4 hfl
        have h9 := ih (yhd T k y) (kt T k 6) (px_wI M1 6 1 (nI (iv_ln y + 1))) (by show 1 + n = 43; omega) (fun a a3 a6 a7 => by rw [me_Io a6, k1 a a3 a6, hf a a3 a6 a7]) (by show M1.2 = M0.2; rw [k2, h2]) (CS_o S1 (fun a ha => by simp (disch := omega) only [me_II, me_Ii, me_Io, me_I2, me_L1, me_Li, me_LL, me_Lo, me_As, me_Ao, me_A2, me_Bs, me_Bo, me_B1])) (yhd_ok Y hfl) rfl ?_ hG
        · rw [show iv_ln y + 1 = iv_ln (yhd T k y) by rw [d]; rfl]
          rw [show iv_ln y + 1 = iv_ln (yhd T k y) by rw [d]; rfl] at h9
          exact h9
        · refine ⟨?_, ?_, ?_, ?_, ?_, fun e he => absurd he (Nat.not_lt_zero e)⟩
          · simp (disch := omega) only [me_II, me_Ii, me_Io, me_I2, me_L1, me_Li, me_LL, me_Lo, me_As, me_Ao, me_A2, me_Bs, me_Bo, me_B1]; rw [d]; rfl
          · simp (disch := omega) only [me_II, me_Ii, me_Io, me_I2, me_L1, me_Li, me_LL, me_Lo, me_As, me_Ao, me_A2, me_Bs, me_Bo, me_B1]; exact g2
          · simp (disch := omega) only [me_II, me_Ii, me_Io, me_I2, me_L1, me_Li, me_LL, me_Lo, me_As, me_Ao, me_A2, me_Bs, me_Bo, me_B1]; exact g3
          · simp (disch := omega) only [me_II, me_Ii, me_Io, me_I2, me_L1, me_Li, me_LL, me_Lo, me_As, me_Ao, me_A2, me_Bs, me_Bo, me_B1]
            rw [k3 4 (by omega) (by omega), D.2.2.2.1]
            have : iv_td y = 0 := by
              obtain ⟨_, _, y3, _, y5, _⟩ := Y
              omega
            rw [this]
            rfl
          · simp (disch := omega) only [me_II, me_Ii, me_Io, me_I2, me_L1, me_Li, me_LL, me_Lo, me_As, me_Ao, me_A2, me_Bs, me_Bo, me_B1]
            rw [k3 5 (by omega) (by omega), D.2.2.2.2.1, A]
            rfl
      | some x =>
        rw [hfl] at S1
        rw [if_neg (by rw [hfl]; simp), hfl] at hG
        have fx := S1.2.2.2.2
        have n0 : ¬ (px_wI M1 6 1 (nI (iv_ln y + 1))).1 3 1 = 0 := by
          rw [me_Io (by omega), fx.2.2.2.1, show (0 : Int32) = nI 0 from rfl, in_eq (by have := fx.2.1; omega) (by omega)]
          exact fx.1
        have n901 : ¬ (900 : Int32) < nI (iv_ln y + 1) := by rw [show (900 : Int32) = nI 900 from rfl, in_lt (by omega) (by omega)]; omega
        refine sg_21_25 i6 (fun q => absurd q n901) (fun _ q => absurd q n0) (fun _ q => absurd q n0) (fun _ q => absurd q n0) (fun _ _ => h _ (fun a a3 a6 a7 => by rw [me_Io a6, k1 a a3 a6, hf a a3 a6 a7]) (by show M1.2 = M0.2; rw [k2, h2]) ⟨kt T k 6, ?_⟩ (fun q => ?_))
        · rw [hG]
          exact CS_o S1 (fun a ha => by simp (disch := omega) only [me_II, me_Ii, me_Io, me_I2, me_L1, me_Li, me_LL, me_Lo, me_As, me_Ao, me_A2, me_Bs, me_Bo, me_B1])
        · rw [hG] at q
          exact absurd q (by simp)
    · rw [f3, show (0 : Int32) = nI 0 from rfl, in_eq (by omega) (by omega)] at c
      rw [d1, show (0 : Int32) = nI 0 from rfl, in_eq (by omega) (by omega)] at d
      rw [if_neg c, if_neg d] at hG
      have ytd : iv_td y ≤ 40 := Y.2.2.1
      refine cs_23 (td := iv_td y) S ytd D.2.2.2.1 (by rw [D.2.2.2.2.1, A]; rfl) (fun M1 k' k1 k2 k3 S1 k4 => sg_21_66 i6 ?_)
      have g1 : M1.1 6 1 = nI (iv_ln y) := by rw [k3 1 (by omega)]; exact d1
      rw [g1, in_a1]
      cases hfl : fEv T k (iv_td y) with
      | none =>
        rw [hfl] at S1
        rw [if_pos hfl] at hG
        obtain ⟨g2, g3, g4, g5⟩ := k4 hfl
        have ht := (fEv_t hfl).1
        rw [g2] at S1
        refine ih (yev T k y) (kt T k (nbk (kx T k) + 2)) (px_wI M1 6 1 (nI (iv_ln y + 1))) (by show iv_ln y + 1 + n = 43; omega) (fun a a3 a6 a7 => by rw [me_Io a6, k1 a a3 a6 a7, hf a a3 a6 a7]) (by show M1.2 = M0.2; rw [k2, h2]) (CS_o S1 (fun a ha => by simp (disch := omega) only [me_II, me_Ii, me_Io, me_I2, me_L1, me_Li, me_LL, me_Lo, me_As, me_Ao, me_A2, me_Bs, me_Bo, me_B1])) (yev_ok Y A d (by omega) g5) rfl ?_ hG
        refine ⟨?_, ?_, ?_, ?_, ?_, fun e he => ?_⟩
        · simp (disch := omega) only [me_II, me_Ii, me_Io, me_I2, me_L1, me_Li, me_LL, me_Lo, me_As, me_Ao, me_A2, me_Bs, me_Bo, me_B1]; rfl
        · simp (disch := omega) only [me_II, me_Ii, me_Io, me_I2, me_L1, me_Li, me_LL, me_Lo, me_As, me_Ao, me_A2, me_Bs, me_Bo, me_B1]; rw [k3 2 (by omega)]; exact D.2.1
        · simp (disch := omega) only [me_II, me_Ii, me_Io, me_I2, me_L1, me_Li, me_LL, me_Lo, me_As, me_Ao, me_A2, me_Bs, me_Bo, me_B1]; rw [k3 3 (by omega)]; exact D.2.2.1
        · simp (disch := omega) only [me_II, me_Ii, me_Io, me_I2, me_L1, me_Li, me_LL, me_Lo, me_As, me_Ao, me_A2, me_Bs, me_Bo, me_B1]; exact g3
        · simp (disch := omega) only [me_II, me_Ii, me_Io, me_I2, me_L1, me_Li, me_LL, me_Lo, me_As, me_Ao, me_A2, me_Bs, me_Bo, me_B1]
          rw [k3 5 (by omega), D.2.2.2.2.1, A]
          rfl
        · have he2 : e < iv_td y + 1 + 0 := he
          rw [me_Io (by omega)]
          show M1.1 7 e = nI (iv_pk (if e = iv_td y then eEv T k else iv_ev y e))
          rw [g4]
          by_cases q : e = iv_td y
          · rw [if_pos q, q, px_upd_self]
          · rw [if_neg q, px_upd_ne q]
            exact D.2.2.2.2.2 e (by unfold iv_n; omega)
      | some x =>
        rw [hfl] at S1
        rw [if_neg (by rw [hfl]; simp), hfl] at hG
        have fx := S1.2.2.2.2
        have n0 : ¬ (px_wI M1 6 1 (nI (iv_ln y + 1))).1 3 1 = 0 := by
          rw [me_Io (by omega), fx.2.2.2.1, show (0 : Int32) = nI 0 from rfl, in_eq (by have := fx.2.1; omega) (by omega)]
          exact fx.1
        have n901 : ¬ (900 : Int32) < nI (iv_ln y + 1) := by rw [show (900 : Int32) = nI 900 from rfl, in_lt (by omega) (by omega)]; omega
        refine sg_21_25 i6 (fun q => absurd q n901) (fun _ q => absurd q n0) (fun _ q => absurd q n0) (fun _ q => absurd q n0) (fun _ _ => h _ (fun a a3 a6 a7 => by rw [me_Io a6, k1 a a3 a6 a7, hf a a3 a6 a7]) (by show M1.2 = M0.2; rw [k2, h2]) ⟨k', ?_⟩ (fun q => ?_))
        · rw [hG]
          exact CS_o S1 (fun a ha => by simp (disch := omega) only [me_II, me_Ii, me_Io, me_I2, me_L1, me_Li, me_LL, me_Lo, me_As, me_Ao, me_A2, me_Bs, me_Bo, me_B1])
        · rw [hG] at q
          exact absurd q (by simp)
end R79
