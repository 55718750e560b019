/-! the reference reads lines -/
def fH4 (T : tx) (k : tkn) : flt := nfl (wfl T (nfl (wfl T (wfl T none k 11) (kt T k 1) 12) (kt T k 2) 0 3) (kt T k 3) 13) (kt T k 4) 0 10
def fE4 (T : tx) (k : tkn) (told c : Nat) : flt := if c = 10 then some (1, k.1) else if told = 40 then some (3, k.1) else fNm T k c (nbk c)
def q3_fr (M M' : px_Mem) : Prop := (∀ a, a ≠ 56 → a ≠ 62 → M'.1 a = M.1 a) ∧ (∀ i, (i < 8 ∨ 13 < i) → M'.1 56 i = M.1 56 i) ∧ M'.2 = M.2
section R82
variable {M : px_Mem} {Q : px_Po} {T : tx} {k : tkn} {f : flt}
theorem q3_rf : q3_fr M M := ⟨fun _ _ _ => rfl, fun _ _ => rfl, rfl⟩
theorem q3_tr {M1 M2 : px_Mem} (h : q3_fr M M1) (h2 : q3_fr M1 M2) : q3_fr M M2 := ⟨fun a p q => (h2.1 a p q).trans (h.1 a p q), fun i p => (h2.2.1 i p).trans (h.2.1 i p), h2.2.2.trans h.2.2⟩
theorem q3_2 {M1 : px_Mem} (h : q2_fr M M1) : q3_fr M M1 := ⟨fun a p _ => h.1 a p, h.2.1, h.2.2⟩
theorem q3_I {M1 : px_Mem} {j : Nat} {x : Int32} (h : q3_fr M M1) : q3_fr M (px_wI M1 62 j x) := ⟨fun a p q => by rw [me_Io q]; exact h.1 a p q, fun i p => by rw [me_Io (by omega)]; exact h.2.1 i p, h.2.2⟩
theorem RS_I {j : Nat} {x : Int32} (S : RS T k f M) : RS T k f (px_wI M 62 j x) := by
  obtain ⟨P, Ro, F, K⟩ := S
  refine ⟨?_, iv_ro_fr Ro (fun a ha => by simp (disch := omega) only [me_II, me_Ii, me_Io, me_I2, me_L1, me_Li, me_LL, me_Lo, me_As, me_Ao, me_A2, me_Bs, me_Bo, me_B1]), FR_fr F (by simp (disch := omega) only [me_II, me_Ii, me_Io, me_I2, me_L1, me_Li, me_LL, me_Lo, me_As, me_Ao, me_A2, me_Bs, me_Bo, me_B1]) (by simp (disch := omega) only [me_II, me_Ii, me_Io, me_I2, me_L1, me_Li, me_LL, me_Lo, me_As, me_Ao, me_A2, me_Bs, me_Bo, me_B1]), fun q => ⟨?_, (K q).2⟩⟩
  · unfold TPr
    simp (disch := omega) only [me_II, me_Ii, me_Io, me_I2, me_L1, me_Li, me_LL, me_Lo, me_As, me_Ao, me_A2, me_Bs, me_Bo, me_B1]
    exact P
  · have K1 := (K q).1
    unfold RT
    simp (disch := omega) only [me_II, me_Ii, me_Io, me_I2, me_L1, me_Li, me_LL, me_Lo, me_As, me_Ao, me_A2, me_Bs, me_Bo, me_B1]
    exact K1
theorem rs_200 (S : RS T k f M) {w lo hi : Nat} (hw : w < 14) (hpos : 0 < wln w) (hlo : lo ≤ 30) (hh : hi ≤ 30) (h : ∀ (v : Int32) M', q2_fr M M' → RS T (kt T k 2) (nfl (wfl T f k w) (kt T k 1) lo hi) M' → (nfl (wfl T f k w) (kt T k 1) lo hi = none → v = nI (kt T k 1).2.2.2) → Q (some (.int v)) M') : px_T 0 200 0 [some (.ref 56), some (.ref (1100 + w)), some (.int (nI lo)), some (.int (nI hi))] [] M Q :=
  sg_200_0 (rs_198 S hw hpos (fun M1 k1 S1 => sg_200_5 (rs_199 S1 hlo hh (fun v M2 k2 S2 g => sg_200_11 (h v M2 (q2_tr k1 k2) S2 g)))))
theorem rs_203 (S : RS T k none M) (h : ∀ M', q3_fr M M' → (∀ j, 2 ≤ j → M'.1 62 j = M.1 62 j) → RS T (kt T k 5) (fH4 T k) M' → (fH4 T k = none → M'.1 62 0 = nI (kt T k 2).2.2.2 ∧ M'.1 62 1 = nI (kt T k 4).2.2.2) → Q none M') : px_T 0 203 0 [some (.ref 56)] [] M Q := by
  refine sg_203_0 (rs_198 (w := 11) S (by omega) (by decide) (fun M1 k1 S1 => sg_203_6 ?_))
  refine rs_200 (w := 12) (lo := 0) (hi := 3) S1 (by omega) (by decide) (by omega) (by omega) (fun v2 M2 k2 S2 g2 => sg_203_19 (me_vin (i := 0) (by omega) (by omega)) ?_)
  have S2' : RS T _ _ (px_wI M2 62 0 v2) := RS_I S2
  refine rs_200 (w := 13) (lo := 0) (hi := 10) S2' (by omega) (by decide) (by omega) (by omega) (fun v4 M3 k3 S3 g4 => sg_203_34 (me_vin (i := 1) (by omega) (by omega)) ?_)
  have e0 : (0 : Int32).toNatClampNeg = 0 := rfl
  have e1 : (1 : Int32).toNatClampNeg = 1 := rfl
  refine h (px_wI M3 62 1 v4) (q3_I (q3_tr (q3_I (q3_tr (q3_2 k1) (q3_2 k2))) (q3_2 k3))) (fun j hj => ?_) (RS_I S3) (fun hn => ⟨?_, ?_⟩)
  · rw [me_Ii (by omega), k3.1 62 (by omega)]
    show (px_wI M2 62 0 v2).1 62 j = _
    rw [me_Ii (by omega), k2.1 62 (by omega), k1.1 62 (by omega)]
  · rw [me_Ii (by omega), k3.1 62 (by omega)]
    show (px_wI M2 62 0 v2).1 62 0 = _
    rw [me_II]
    exact g2 (wfl_n (nfl_n hn).1).1
  · rw [me_II]
    exact g4 hn
theorem rs_204 (S : RS T k none M) {td : Nat} (htd : td ≤ 40) (h2 : M.1 62 2 = nI td) (hz : ∀ j, 5 + 4 * td ≤ j → j < 285 → M.1 62 j = 0) (h : ∀ M' k', q3_fr M M' → RS T k' (fE4 T k td (kx T k)) M' → (fE4 T k td (kx T k) = none → (∀ j, j ≠ 2 → (j < 5 + 4 * td ∨ 5 + 4 * td + 4 ≤ j) → M'.1 62 j = M.1 62 j) ∧ k' = kt T k (nbk (kx T k) + 1) ∧ M'.1 62 2 = nI (td + 1) ∧ M'.1 62 (5 + 4 * td) = nI (kx T k) ∧ ∀ w, 1 ≤ w → w ≤ 3 → M'.1 62 (5 + 4 * td + w) = nI (nvg (kx T k) (vls T k) w)) → M'.1 62 4 = M.1 62 4 → Q none M') : px_T 0 204 0 [some (.ref 56), none, none, none] [] M Q := by
  have hkx := kx_b (T := T) (k := k)
  refine sg_204_0 (rs_202 S ?_)
  generalize kx T k = c at h hkx ⊢
  unfold fE4 at h
  have z : ∀ x : Nat × Nat, in_b (decide ((some x : flt) = none)) = 0 := fun x => by simp [in_b]
  by_cases c10 : c = 10
  · rw [if_pos c10] at h
    rw [if_neg (show ¬ c < 10 by omega)]
    refine sg_204_4 (fun _ => ?_) (fun q => absurd rfl q) (fun q => absurd rfl q)
    refine rs_195 (c := 1) S (by omega) (by omega) (fun M1 k1 S1 => ?_)
    have fin : ∀ N, q2_fr M N → RS T k (some (1, k.1)) N → Q none N := fun N q SN => h N k (q3_2 q) SN (fun q => absurd q (by simp)) (by rw [q.1 62 (by omega)])
    refine sg_204_15 (fun _ => ?_) (fun _ => ?_)
    · exact rs_195 (c := 3) S1 (by omega) (by omega) (fun M2 k2 S2 => sg_204_31 (rs_194 S2.2.2.1 (sg_204_35 (fun _ => fin M2 (q2_tr k1 k2) S2) (fun q => absurd (z _) q))))
    · exact rs_194 S1.2.2.1 (sg_204_35 (fun _ => fin M1 k1 S1) (fun q => absurd (z _) q))
  · rw [if_neg c10] at h
    rw [if_pos (show c < 10 by omega)]
    have hc : c ≤ 9 := by omega
    have hb := nbk_b _ hc
    have nm : ¬ nI c = -1 := in_nm (by omega)
    by_cases c40 : td = 40
    · rw [if_pos c40] at h
      have y40 : M.1 62 2 = 40 := by rw [h2, c40]; rfl
      refine sg_204_4 (fun q => absurd q nm) (fun _ _ => ?_) (fun _ q => absurd y40 q)
      exact rs_195 (c := 3) S (by omega) (by omega) (fun M2 k2 S2 => sg_204_31 (rs_194 S2.2.2.1 (sg_204_35 (fun _ => h M2 k (q3_2 k2) S2 (fun q => absurd q (by simp)) (by rw [k2.1 62 (by omega)])) (fun q => absurd (z _) q))))
    · rw [if_neg c40] at h
      have n40 : ¬ M.1 62 2 = 40 := by rw [h2, show (40 : Int32) = nI 40 from rfl, in_eq (by omega) (by omega)]; exact c40
      refine sg_204_4 (fun q => absurd q nm) (fun _ q => absurd q n40) (fun _ _ => ?_)
      refine rs_194 S.2.2.1 ?_
      rw [decide_eq_true (show (none : flt) = none from rfl)]
      refine sg_204_35 (fun q => absurd q (by decide)) (fun _ => ?_)
      refine rs_193 S (fun M1 k1 S1 => ?_)
      have g2 : M1.1 62 2 = nI td := by rw [k1.1 62 (by omega)]; exact h2
      have ix : (5 : Int32) + 4 * M1.1 62 2 = nI (5 + 4 * td) := by rw [g2, il_5, il_4, in_mul, in_add]
      refine sg_204_43 (by rw [ix]; exact me_vin (by omega) (by omega)) ?_
      rw [ix, in_cl (by omega)]
      have S1' : RS T (kt T k 1) none (px_wI M1 62 (5 + 4 * td) (nI c)) := RS_I S1
      refine rs_199 (lo := 1) (hi := 15) S1' (by omega) (by omega) (fun v M2 k2 S2 gv => ?_)
      rw [in_a1]
      refine sg_204_75 (me_vin (by omega) (by omega)) ?_
      rw [in_cl (by omega)]
      have l1 := ls1 c hc
      have lp : ∀ (n s : Nat) (N : px_Mem), s + n = 3 → 1 ≤ s → q3_fr M N → (∀ j, (j < 5 + 4 * td ∨ 5 + 4 * td + 4 ≤ j) → N.1 62 j = M.1 62 j) → RS T (kt T k (min s (nbk c) + 1)) (fNm T k c (min s (nbk c))) N → (fNm T k c (min s (nbk c)) = none → N.1 62 (5 + 4 * td) = nI c ∧ ∀ w, 1 ≤ w → w ≤ s → N.1 62 (5 + 4 * td + w) = nI (nvg c (vls T k) w)) → (∀ w, s < w → w ≤ 3 → N.1 62 (5 + 4 * td + w) = 0) → px_T 0 204 78 [some (.ref 56), some (.int (nI c)), some (.int (nI (5 + 4 * td))), some (.int (nI s))] [] N Q := by
        intro n
        induction n with
        | zero =>
          intro s N hs s1 hq hr SN hn hzz
          have es : s = 3 := by omega
          subst es
          have eb : min 3 (nbk c) = nbk c := by omega
          rw [eb] at SN hn
          have g3 : N.1 62 2 = nI td := by rw [hr 2 (by omega)]; exact h2
          refine sg_204_78 (fun _ => ?_) (fun q => absurd (by decide) q)
          rw [g3, in_a1]
          refine h _ (kt T k (nbk c + 1)) (q3_I hq) (RS_I SN) (fun hnone => ⟨fun j hj hj2 => ?_, rfl, by rw [me_II], ?_, fun w w1 w3 => ?_⟩) (by rw [me_Ii (by omega)]; exact hr 4 (by omega))
          · rw [me_Ii hj]
            exact hr j hj2
          · rw [me_Ii (by omega)]
            exact (hn hnone).1
          · rw [me_Ii (by omega)]
            exact (hn hnone).2 w w1 (by omega)
        | succ n ih =>
          intro s N hs s1 hq hr SN hn hzz
          have hms := msN_b c (s + 1)
          have hls := lsN_b c (s + 1)
          refine sg_204_78 (fun q => ?_) (fun _ => sr_188 hc (by omega) ?_)
          · simp (disch := omega) only [in_lt, in_le, in_eq, in_add, in_mul, in_sb, in_cl, in_bz, in_bo, in_mo, not_true_eq_false, not_false_eq_true, il_0, il_1, il_2, il_3, il_4, il_5, il_6, il_7, il_8, il_9, il_10, il_11, il_12, il_13, il_14, il_15, il_16, il_31] at q
            omega
          · by_cases cb : s + 1 ≤ nbk c
            · rw [if_pos cb]
              have e1 : min s (nbk c) = s := by omega
              have e2 : min (s + 1) (nbk c) = s + 1 := by omega
              rw [e1] at SN hn
              refine sg_204_88 (fun q => absurd q (in_nm (by omega))) (fun _ => ?_)
              refine sr_189 hc (by omega) cb (sg_204_107 (sr_188 hc (by omega) ?_))
              rw [if_pos cb]
              refine sg_204_112 (rs_199 SN (by omega) (by omega) (fun v3 M3 k3 S3 g3 => ?_))
              have ix2 : nI (5 + 4 * td) + 1 + nI s = nI (5 + 4 * td + (s + 1)) := by rw [in_a1, in_add]; congr 1; omega
              rw [ix2]
              refine sg_204_115 (me_vin (by omega) (by omega)) ?_
              rw [in_cl (by omega), in_a1]
              refine ih (s + 1) _ (by omega) (by omega) (q3_I (q3_tr hq (q3_2 k3))) (fun j hj => ?_) ?_ (fun hnn => ?_) (fun w w1 w3 => ?_)
              · rw [me_Ii (by omega), k3.1 62 (by omega)]
                exact hr j hj
              · rw [e2]
                exact RS_I S3
              · rw [e2] at hnn
                have hn3 := nfl_n (show nfl (fNm T k c s) (kt T k (s + 1)) (lsN c (s + 1)) (msN c (s + 1)) = none from hnn)
                obtain ⟨q1, q2⟩ := hn hn3.1
                refine ⟨?_, fun w w1 w3 => ?_⟩
                · rw [me_Ii (by omega), k3.1 62 (by omega)]
                  exact q1
                · by_cases ew : w = s + 1
                  · subst ew
                    rw [me_II, g3 hnn]
                    congr 1
                    unfold nvg
                    rw [if_pos cb]
                    rfl
                  · rw [me_Ii (by omega), k3.1 62 (by omega)]
                    exact q2 w w1 (by omega)
              · rw [me_Ii (by omega), k3.1 62 (by omega)]
                exact hzz w (by omega) w3
            · rw [if_neg cb]
              have e2 : min (s + 1) (nbk c) = min s (nbk c) := by omega
              refine sg_204_88 (fun _ => ?_) (fun q => absurd rfl q)
              rw [in_a1]
              refine ih (s + 1) N (by omega) (by omega) hq hr (by rw [e2]; exact SN) (fun hnn => ?_) (fun w w1 w3 => hzz w (by omega) w3)
              rw [e2] at hnn
              obtain ⟨q1, q2⟩ := hn hnn
              refine ⟨q1, fun w w1 w3 => ?_⟩
              by_cases ew : w = s + 1
              · subst ew
                rw [hzz (s + 1) (by omega) (by omega)]
                unfold nvg
                rw [if_neg cb]
                rfl
              · exact q2 w w1 (by omega)
      have e1 : min 1 (nbk c) = 1 := by omega
      have ef : fNm T k c 1 = nfl none (kt T k 1) 1 15 := by
        show nfl none (kt T k 1) (lsN c 1) (msN c 1) = _
        rw [l1.1, l1.2]
      refine lp 2 1 _ (by omega) (by omega) (q3_I (q3_tr (q3_I (q3_2 k1)) (q3_2 k2))) (fun j hj => ?_) ?_ (fun hnn => ?_) (fun w w1 w3 => ?_)
      · rw [me_Ii (by omega), k2.1 62 (by omega), me_Ii (by omega), k1.1 62 (by omega)]
      · rw [e1, ef]
        exact RS_I S2
      · rw [e1, ef] at hnn
        refine ⟨?_, fun w w1 w3 => ?_⟩
        · rw [me_Ii (by omega), k2.1 62 (by omega), me_II]
        · have ew : w = 1 := by omega
          subst ew
          rw [me_II, gv hnn]
          congr 1
          unfold nvg
          rw [if_pos (by omega)]
          rfl
      · rw [me_Ii (by omega), k2.1 62 (by omega), me_Ii (by omega), k1.1 62 (by omega)]
        exact hz _ (by omega) (by omega)
theorem rs_205t (S : RS T k f M) (h : ∀ M', q2_fr M M' → RS T (stp T k.2.2.1) (sfl f k) M' → Q none (px_wI M' 62 4 (M'.1 62 4 + 1))) : px_T 0 194 0 [some (.ref 56)] [] M (fun r M1 => px_T 0 205 24 [some (.ref 56)] (r.toList ++ []) M1 Q) := by
  refine rs_194 S.2.2.1 ?_
  cases f with
  | none =>
    have K := S.2.2.2 rfl
    have w3 := K.2.2.2
    rw [decide_eq_true (show (none : flt) = none from rfl)]
    unfold sfl at h
    refine sg_205_24 (fun q => absurd q (by decide)) (fun _ c => ?_) (fun _ c => ?_)
    · rw [K.1.2.1, show (3 : Int32) = nI 3 from rfl, in_eq (by omega) (by omega)] at c
      rw [if_pos c] at h
      refine rs_194 S.2.2.1 ?_
      rw [decide_eq_true (show (none : flt) = none from rfl)]
      exact sg_205_44 (fun q => absurd q (by decide)) (fun _ => rs_193 S (fun M1 k1 S1 => sg_205_51 (h M1 k1 S1)))
    · rw [K.1.2.1, show (3 : Int32) = nI 3 from rfl, in_eq (by omega) (by omega)] at c
      rw [if_neg c] at h
      refine rs_195 (c := 1) S (by omega) (by omega) (fun M1 k1 S1 => sg_205_40 (rs_194 S1.2.2.1 (sg_205_44 (fun _ => h M1 k1 ⟨S1.1, S1.2.1, S1.2.2.1, fun q => absurd q (by simp [blm])⟩) (fun q => absurd (by simp [in_b, blm]) q))))
  | some x =>
    have z : in_b (decide ((some x : flt) = none)) = 0 := by simp [in_b]
    have hx : sfl (some x) k = some x := by
      unfold sfl
      split
      · rfl
      · rfl
    rw [hx] at h
    refine sg_205_24 (fun _ => rs_194 S.2.2.1 (sg_205_44 (fun _ => h M q2_rf ⟨S.1, S.2.1, S.2.2.1, fun q => absurd q (by simp)⟩) (fun q => absurd z q))) (fun q => absurd z q) (fun q => absurd z q)
end R82
