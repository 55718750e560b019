/-! system: the reference, and the pair -/
section Y83
variable {M : px_Mem} {Q : px_Po} {T : tx} {k : tkn} {f : flt} {y : iv_Y}
theorem sfl_s {x : Nat × Nat} : sfl (some x) k = some x := by
  unfold sfl
  split
  · rfl
  · rfl
theorem fE4_e {td c : Nat} {k' : tkn} (h : fE4 T k td c = none → k' = kt T k (nbk c + 1)) : sfl (fE4 T k td c) k' = fEvc T k td c := by
  unfold fEvc
  unfold fE4 at h ⊢
  by_cases c10 : c = 10
  · rw [if_pos c10, if_pos c10]
    exact sfl_s
  · rw [if_neg c10, if_neg c10]
    rw [if_neg c10] at h
    by_cases c40 : td = 40
    · rw [if_pos c40, if_pos c40]
      exact sfl_s
    · rw [if_neg c40, if_neg c40]
      rw [if_neg c40] at h
      cases e : fNm T k c (nbk c) with
      | none =>
        rw [h e]
      | some x => rw [sfl_s, sfl_s]
theorem fEv_4 {td : Nat} (h : fEvc T k td (kx T k) = none) : fE4 T k td (kx T k) = none := by
  unfold fEvc at h
  unfold fE4
  generalize kx T k = c at h ⊢
  by_cases c10 : c = 10
  · rw [if_pos c10] at h
    simp at h
  · rw [if_neg c10] at h ⊢
    by_cases c40 : td = 40
    · rw [if_pos c40] at h
      simp at h
    · rw [if_neg c40] at h ⊢
      exact (sfl_n h).1
theorem evg_p (c : Nat) (v : Nat → Nat) : (evg c v).1 = c ∧ (evg c v).2.1 = nvg c v 1 ∧ (evg c v).2.2.1 = nvg c v 2 ∧ (evg c v).2.2.2 = nvg c v 3 := ⟨rfl, rfl, rfl, rfl⟩
/-- the story under way, in the reference's row -/
def DRr (y : iv_Y) (M : px_Mem) : Prop := iv_sr y 62 0 M ∧ ∀ j, 5 + 4 * iv_td y ≤ j → j < 285 → M.1 62 j = 0
theorem rs_206l {M0 : px_Mem} {d : Option Value} (h1 : ∀ M' x, (pL T 43 y00 (stp T 0)).1 = some x → q3_fr M0 M' → FR (some x) M' → Q (some (.int (-4))) M') (h2 : ∀ M', (pL T 43 y00 (stp T 0)).1 = none → q3_fr M0 M' → FR none M' → iv_yok (pL T 43 y00 (stp T 0)).2 → iv_ac (pL T 43 y00 (stp T 0)).2 = 0 → iv_sr (pL T 43 y00 (stp T 0)).2 62 0 M' → px_T 0 206 87 [some (.ref 56), some (.int 0)] [] M' Q) : ∀ (n : Nat) (y : iv_Y) (k : tkn) (N : px_Mem), iv_ln y + n = 43 → q3_fr M0 N → RS T k none N → iv_yok y → iv_ac y = 0 → DRr y N → pL T 43 y00 (stp T 0) = pL T n y k → px_T 0 206 54 [some (.ref 56), d] [] N Q := by
  generalize pL T 43 y00 (stp T 0) = G at h1 h2 ⊢
  have bad : ∀ (x : Nat × Nat) (N : px_Mem) (k : tkn), G.1 = some x → q3_fr M0 N → RS T k (some x) N → px_T 0 206 54 [some (.ref 56), d] [] N Q := by
    intro x N k hx hq S
    have z : in_b (decide ((some x : flt) = none)) = 0 := by simp [in_b]
    exact sg_206_54 (rs_194 S.2.2.1 (sg_206_58 (fun _ => rs_194 S.2.2.1 (sg_206_79 (fun _ => h1 N x hx hq S.2.2.1) (fun q => absurd z q))) (fun q => absurd z q) (fun q => absurd z q)))
  intro n
  induction n with
  | zero =>
    intro y k N hn hq S Y A D hG
    obtain ⟨_, _, y3, _, y5, _⟩ := Y
    omega
  | succ n ih =>
    intro y k N hn hq S Y A D hG
    have K := S.2.2.2 rfl
    have w3 := K.2.2.2
    have hl : iv_ln y ≤ 41 := by
      obtain ⟨_, _, y3, _, y5, _⟩ := Y
      omega
    have ytd : iv_td y ≤ 40 := Y.2.2.1
    have d4 : N.1 62 4 = nI (iv_ln y) := D.1.2.2.2.2.1
    have d2 : N.1 62 2 = nI (iv_td y) := D.1.2.2.1
    have hpl : pL T (n + 1) y k = if k.2.1 = 0 then (none, y) else if iv_ln y = 0 then (if fHd T k = none then pL T n (yhd T k y) (kt T k 6) else (fHd T k, y)) else (if fEv T k (iv_td y) = none then pL T n (yev T k y) (kt T k (nbk (kx T k) + 2)) else (fEv T k (iv_td y), y)) := rfl
    rw [hpl] at hG
    refine sg_206_54 (rs_194 S.2.2.1 ?_)
    rw [decide_eq_true (show (none : flt) = none from rfl)]
    refine sg_206_58 (fun q => absurd q (by decide)) (fun _ c => ?_) (fun _ c => ?_)
    · rw [K.1.2.1, show (0 : Int32) = nI 0 from rfl, in_eq (by omega) (by omega)] at c
      rw [if_pos c] at hG
      refine rs_194 S.2.2.1 ?_
      rw [decide_eq_true (show (none : flt) = none from rfl)]
      refine sg_206_79 (fun q => absurd q (by decide)) (fun _ => ?_)
      exact h2 N (by rw [hG]) hq S.2.2.1 (by rw [hG]; exact Y) (by rw [hG]; exact A) (by rw [hG]; exact D.1)
    · rw [K.1.2.1, show (0 : Int32) = nI 0 from rfl, in_eq (by omega) (by omega)] at c
      rw [if_neg c] at hG
      refine sg_205_0 (fun e => ?_) (fun e => ?_)
      · rw [d4, show (0 : Int32) = nI 0 from rfl, in_eq (by omega) (by omega)] at e
        rw [if_pos e] at hG
        have td0 : iv_td y = 0 := by
          obtain ⟨_, _, y3, _, y5, _⟩ := Y
          omega
        refine rs_203 S (fun M1 k1 k2 S1 k3 => sg_205_13 (rs_205t S1 (fun M2 q2 S2 => sg_206_72 ?_)))
        have S2' : RS T (kt T k 6) (fHd T k) M2 := S2
        have g4 : M2.1 62 4 = nI (iv_ln y) := by rw [q2.1 62 (by omega), k2 4 (by omega)]; exact d4
        rw [g4, in_a1, e]
        have hq2 : q3_fr M0 (px_wI M2 62 4 (nI (0 + 1))) := q3_I (q3_tr hq (q3_tr k1 (q3_2 q2)))
        cases hfl : fHd T k with
        | none =>
          rw [hfl] at S2'
          rw [if_pos hfl] at hG
          obtain ⟨v0, v1⟩ := k3 (sfl_n hfl).1
          refine ih (yhd T k y) (kt T k 6) _ (by show 1 + n = 43; omega) hq2 (RS_I S2') (yhd_ok Y hfl) rfl ⟨⟨?_, ?_, ?_, ?_, ?_, fun i hi => absurd hi (Nat.not_lt_zero i)⟩, fun j hj hj2 => ?_⟩ hG
          · rw [me_Ii (by omega), q2.1 62 (by omega)]; exact v0
          · rw [me_Ii (by omega), q2.1 62 (by omega)]; exact v1
          · rw [me_Ii (by omega), q2.1 62 (by omega), k2 (0 + 2) (by omega)]
            rw [d2, td0]
            rfl
          · rw [me_Ii (by omega), q2.1 62 (by omega), k2 (0 + 3) (by omega)]
            have d3 : N.1 62 3 = nI (iv_ac y) := D.1.2.2.2.1
            rw [d3, A]
            rfl
          · rw [me_II]; rfl
          · have hj3 : 5 + 4 * 0 ≤ j := hj
            rw [me_Ii (by omega), q2.1 62 (by omega), k2 j (by omega)]
            exact D.2 j (by rw [td0]; omega) hj2
        | some x =>
          rw [hfl] at S2'
          rw [if_neg (by rw [hfl]; simp), hfl] at hG
          exact bad x _ _ (by rw [hG]) hq2 (RS_I S2')
      · rw [d4, show (0 : Int32) = nI 0 from rfl, in_eq (by omega) (by omega)] at e
        rw [if_neg e] at hG
        refine rs_204 S ytd d2 D.2 (fun M1 k' k1 S1 k3 k4 => sg_205_20 (rs_205t S1 (fun M2 q2 S2 => sg_206_72 ?_)))
        rw [fE4_e (fun q => (k3 q).2.1)] at S2
        have S2' : RS T _ (fEv T k (iv_td y)) M2 := S2
        have g4 : M2.1 62 4 = nI (iv_ln y) := by rw [q2.1 62 (by omega), k4]; exact d4
        rw [g4, in_a1]
        have hq2 : q3_fr M0 (px_wI M2 62 4 (nI (iv_ln y + 1))) := q3_I (q3_tr hq (q3_tr k1 (q3_2 q2)))
        cases hfl : fEv T k (iv_td y) with
        | none =>
          rw [hfl] at S2'
          rw [if_pos hfl] at hG
          obtain ⟨ht, hx10⟩ := fEv_t hfl
          have h4 := fEv_4 (show fEvc T k (iv_td y) (kx T k) = none from hfl)
          obtain ⟨r1, r2, r3, r4, r5⟩ := k3 h4
          rw [r2] at S2'
          have hkx := kx_b (T := T) (k := k)
          have hokE : iv_ok (eEv T k) := by
            unfold eEv
            refine (nEv_e (by omega) (fun w w1 w2 => (fNm_ok (T := T) (k := k) (c := kx T k) (n := nbk (kx T k)) ?_ w w1 w2).2)).2
            unfold fE4 at h4
            rw [if_neg hx10, if_neg ht] at h4
            exact h4
          refine ih (yev T k y) (kt T k (nbk (kx T k) + 2)) _ (by show iv_ln y + 1 + n = 43; omega) hq2 (RS_I S2') (yev_ok Y A e (by omega) hokE) rfl ⟨⟨?_, ?_, ?_, ?_, ?_, fun i hi => ?_⟩, fun j hj hj2 => ?_⟩ hG
          · rw [me_Ii (by omega), q2.1 62 (by omega), r1 0 (by omega) (by omega)]; exact D.1.1
          · rw [me_Ii (by omega), q2.1 62 (by omega), r1 (0 + 1) (by omega) (by omega)]; exact D.1.2.1
          · rw [me_Ii (by omega), q2.1 62 (by omega)]; exact r3
          · rw [me_Ii (by omega), q2.1 62 (by omega), r1 (0 + 3) (by omega) (by omega)]
            have d3 : N.1 62 3 = nI (iv_ac y) := D.1.2.2.2.1
            rw [d3, A]
            rfl
          · rw [me_II]; rfl
          · have hi2 : i < iv_td y + 1 + 0 := hi
            have rr : ∀ w, (px_wI M2 62 4 (nI (iv_ln y + 1))).1 62 (0 + 5 + 4 * i + w) = M1.1 62 (5 + 4 * i + w) := fun w => by rw [me_Ii (by omega), q2.1 62 (by omega), show 0 + 5 + 4 * i + w = 5 + 4 * i + w by omega]
            have r0 : (px_wI M2 62 4 (nI (iv_ln y + 1))).1 62 (0 + 5 + 4 * i) = M1.1 62 (5 + 4 * i) := rr 0
            rw [r0, rr 1, rr 2, rr 3]
            show M1.1 62 (5 + 4 * i) = nI (if i = iv_td y then eEv T k else iv_ev y i).1 ∧ M1.1 62 (5 + 4 * i + 1) = nI (if i = iv_td y then eEv T k else iv_ev y i).2.1 ∧ M1.1 62 (5 + 4 * i + 2) = nI (if i = iv_td y then eEv T k else iv_ev y i).2.2.1 ∧ M1.1 62 (5 + 4 * i + 3) = nI (if i = iv_td y then eEv T k else iv_ev y i).2.2.2
            by_cases q : i = iv_td y
            · rw [if_pos q, q]
              have x1 := r5 1 (by omega) (by omega)
              have x2 := r5 2 (by omega) (by omega)
              have x3 := r5 3 (by omega) (by omega)
              unfold eEv
              generalize kx T k = c at r4 x1 x2 x3 ⊢
              obtain ⟨p1, p2, p3, p4⟩ := evg_p c (vls T k)
              rw [p1, p2, p3, p4]
              exact ⟨r4, x1, x2, x3⟩
            · rw [if_neg q]
              obtain ⟨a1, a2, a3, a4⟩ := D.1.2.2.2.2.2 i (by unfold iv_n; omega)
              rw [r1 _ (by omega) (by omega), r1 _ (by omega) (by omega), r1 _ (by omega) (by omega), r1 _ (by omega) (by omega)]
              rw [Nat.zero_add] at a1 a2 a3 a4
              exact ⟨a1, a2, a3, a4⟩
          · have hj3 : 5 + 4 * (iv_td y + 1) ≤ j := hj
            rw [me_Ii (by omega), q2.1 62 (by omega), r1 j (by omega) (by omega)]
            exact D.2 j (by omega) hj2
        | some x =>
          rw [hfl] at S2'
          rw [if_neg (by rw [hfl]; simp), hfl] at hG
          exact bad x _ _ (by rw [hG]) hq2 (RS_I S2')
theorem iv_sr_cp {M1 : px_Mem} (hy : iv_yok y) (h : iv_sr y 62 0 M) (h1 : ∀ i, i < 285 → M1.1 57 i = M.1 62 i) : iv_sr y 57 0 M1 := by
  have hn := iv_yn hy
  obtain ⟨s1, s2, s3, s4, s5, s6⟩ := h
  refine ⟨by rw [h1 _ (by omega)]; exact s1, by rw [h1 _ (by omega)]; exact s2, by rw [h1 _ (by omega)]; exact s3, by rw [h1 _ (by omega)]; exact s4, by rw [h1 _ (by omega)]; exact s5, fun e he => ?_⟩
  obtain ⟨a1, a2, a3, a4⟩ := s6 e he
  exact ⟨by rw [h1 _ (by omega)]; exact a1, by rw [h1 _ (by omega)]; exact a2, by rw [h1 _ (by omega)]; exact a3, by rw [h1 _ (by omega)]; exact a4⟩
/-- the reference, from the tape on -/
def q4_fr (M M' : px_Mem) : Prop := (∀ a, a ≠ 56 → a ≠ 57 → a ≠ 62 → M'.1 a = M.1 a) ∧ (∀ i, (i < 5 ∨ i = 6 ∨ 13 < i) → M'.1 56 i = M.1 56 i) ∧ M'.2 = M.2 ∧ M'.1 56 5 = 0
theorem rs_206 (Ro : iv_ro M) {v : Nat → Nat} {t : Nat} (ht : t ≤ 900) (h5 : M.1 56 5 = nI t) (hv : ∀ i, i < t → v i < 256 ∧ M.1 60 i = (nI (v i)).toInt8.toInt32) (h1 : ∀ M' x, (pL (v, t) 43 y00 (stp (v, t) 0)).1 = some x → q4_fr M M' → M'.1 57 = M.1 57 → FR (some x) M' → Q (some (.int (-4))) M') (h2 : ∀ M', (pL (v, t) 43 y00 (stp (v, t) 0)).1 = none → q4_fr M M' → FR none M' → iv_sr (pL (v, t) 43 y00 (stp (v, t) 0)).2 57 0 M' → Q (some (.int (nI (iv_ln (pL (v, t) 43 y00 (stp (v, t) 0)).2)))) M') : px_T 0 206 0 [some (.ref 56), none] [] M Q := by
  refine sg_206_0 ?_
  rw [h5]
  have e5 : (px_wI (px_wI (px_wI (px_wI (px_wI M 56 7 (nI t)) 56 5 0) 56 8 0) 56 12 0) 56 13 (-1)).1 56 5 = 0 := by simp (disch := omega) only [me_II, me_Ii, me_Io, me_I2, me_L1, me_Li, me_LL, me_Lo, me_As, me_Ao, me_A2, me_Bs, me_Bo, me_B1]
  have e7 : (px_wI (px_wI (px_wI (px_wI (px_wI M 56 7 (nI t)) 56 5 0) 56 8 0) 56 12 0) 56 13 (-1)).1 56 7 = nI t := by simp (disch := omega) only [me_II, me_Ii, me_Io, me_I2, me_L1, me_Li, me_LL, me_Lo, me_As, me_Ao, me_A2, me_Bs, me_Bo, me_B1]
  have e8 : (px_wI (px_wI (px_wI (px_wI (px_wI M 56 7 (nI t)) 56 5 0) 56 8 0) 56 12 0) 56 13 (-1)).1 56 8 = 0 := by simp (disch := omega) only [me_II, me_Ii, me_Io, me_I2, me_L1, me_Li, me_LL, me_Lo, me_As, me_Ao, me_A2, me_Bs, me_Bo, me_B1]
  have e12 : (px_wI (px_wI (px_wI (px_wI (px_wI M 56 7 (nI t)) 56 5 0) 56 8 0) 56 12 0) 56 13 (-1)).1 56 12 = 0 := by simp (disch := omega) only [me_II, me_Ii, me_Io, me_I2, me_L1, me_Li, me_LL, me_Lo, me_As, me_Ao, me_A2, me_Bs, me_Bo, me_B1]
  have e13 : (px_wI (px_wI (px_wI (px_wI (px_wI M 56 7 (nI t)) 56 5 0) 56 8 0) 56 12 0) 56 13 (-1)).1 56 13 = -1 := by simp (disch := omega) only [me_II, me_Ii, me_Io, me_I2, me_L1, me_Li, me_LL, me_Lo, me_As, me_Ao, me_A2, me_Bs, me_Bo, me_B1]
  have ea : ∀ a, a ≠ 56 → (px_wI (px_wI (px_wI (px_wI (px_wI M 56 7 (nI t)) 56 5 0) 56 8 0) 56 12 0) 56 13 (-1)).1 a = M.1 a := fun a ha => by simp (disch := omega) only [me_II, me_Ii, me_Io, me_I2, me_L1, me_Li, me_LL, me_Lo, me_As, me_Ao, me_A2, me_Bs, me_Bo, me_B1]
  have ei : ∀ i, (i < 5 ∨ i = 6 ∨ 13 < i) → (px_wI (px_wI (px_wI (px_wI (px_wI M 56 7 (nI t)) 56 5 0) 56 8 0) 56 12 0) 56 13 (-1)).1 56 i = M.1 56 i := fun i hi => by simp (disch := omega) only [me_II, me_Ii, me_Io, me_I2, me_L1, me_Li, me_LL, me_Lo, me_As, me_Ao, me_A2, me_Bs, me_Bo, me_B1]
  have eL : (px_wI (px_wI (px_wI (px_wI (px_wI M 56 7 (nI t)) 56 5 0) 56 8 0) 56 12 0) 56 13 (-1)).2 = M.2 := rfl
  generalize px_wI (px_wI (px_wI (px_wI (px_wI M 56 7 (nI t)) 56 5 0) 56 8 0) 56 12 0) 56 13 (-1) = N at e5 e7 e8 e12 e13 ea ei eL ⊢
  have q34 : ∀ M', q3_fr N M' → q4_fr M M' := fun M' q => ⟨fun a a1 _ a3 => by rw [q.1 a a1 a3]; exact ea a a1, fun i hi => by rw [q.2.1 i (by omega)]; exact ei i hi, q.2.2.trans eL, by rw [q.2.1 5 (by omega)]; exact e5⟩
  have lp : ∀ (n i : Nat) (N1 : px_Mem), i + n = 285 → q3_fr N N1 → (∀ j, 8 ≤ j → j ≤ 13 → N1.1 56 j = N.1 56 j) → (∀ j, j < i → N1.1 62 j = 0) → px_T 0 206 30 [some (.ref 56), some (.int (nI i))] [] N1 Q := by
    intro n
    induction n with
    | zero =>
      intro i N1 hi hq hk hz
      have e : i = 285 := by omega
      subst e
      refine sg_206_30 (fun _ => ?_) (fun q => absurd (by decide) q) (fun q => absurd (by decide) q)
      have P : TPr (v, t) N1 := ⟨by rw [hq.2.1 7 (by omega)]; exact e7, ht, fun i hi => ⟨(hv i hi).1, by rw [hq.1 60 (by omega) (by omega), ea 60 (by omega)]; exact (hv i hi).2⟩⟩
      refine sr_193 (sp := 0) P (Nat.zero_le _) (by rw [hk 8 (by omega) (by omega), e8]; rfl) (fun M1 k1 K1 => ?_)
      have S : RS (v, t) (stp (v, t) 0) none M1 := ⟨TPr_fr P k1, iv_ro_fr Ro (fun a ha => by rw [k1.1 a (by omega), hq.1 a (by omega) (by omega)]; exact ea a (by omega)), ⟨by rw [k1.2.1 12 (by omega), hk 12 (by omega) (by omega)]; exact e12, by rw [k1.2.1 13 (by omega), hk 13 (by omega) (by omega)]; exact e13⟩, fun _ => ⟨K1, stp_w (Nat.zero_le _)⟩⟩
      have z62 : ∀ j, j < 285 → M1.1 62 j = 0 := fun j hj => by rw [k1.1 62 (by omega)]; exact hz j hj
      refine rs_206l (M0 := N) (fun M' x hx q F => h1 M' x hx (q34 M' q) (by rw [q.1 57 (by omega) (by omega)]; exact ea 57 (by omega)) F) (fun M' hx q F Y A D => ?_) 43 y00 (stp (v, t) 0) M1 rfl (q3_tr hq (q3_2 (q2_rr k1))) S y00_ok rfl ⟨⟨?_, ?_, ?_, ?_, ?_, fun e he => absurd he (Nat.not_lt_zero e)⟩, fun j _ hj => z62 j hj⟩ rfl
      · have cp : ∀ (n i : Nat) (N2 : px_Mem), i + n = 285 → (∀ a, a ≠ 57 → N2.1 a = M'.1 a) → N2.2 = M'.2 → (∀ j, j < i → N2.1 57 j = M'.1 62 j) → px_T 0 206 87 [some (.ref 56), some (.int (nI i))] [] N2 Q := by
          intro n
          induction n with
          | zero =>
            intro i N2 hi hf hL hc
            have e : i = 285 := by omega
            subst e
            have D2 := iv_sr_cp (M1 := N2) Y D hc
            have d4 : N2.1 57 4 = nI (iv_ln (pL (v, t) 43 y00 (stp (v, t) 0)).2) := D2.2.2.2.2.1
            refine sg_206_87 (fun _ => ?_) (fun q => absurd (by decide) q) (fun q => absurd (by decide) q)
            rw [d4]
            have q4 := q34 M' q
            refine h2 N2 hx ⟨fun a a1 a2 a3 => by rw [hf a a2]; exact q4.1 a a1 a2 a3, fun i hi => by rw [hf 56 (by omega)]; exact q4.2.1 i hi, hL.trans q4.2.2.1, by rw [hf 56 (by omega)]; exact q4.2.2.2⟩ (FR_fr F (by rw [hf 56 (by omega)]) (by rw [hf 56 (by omega)])) D2
          | succ n ih2 =>
            intro i N2 hi hf hL hc
            refine sg_206_87 (fun q => ?_) (fun _ => me_vin (by omega) (by omega)) (fun _ => ?_)
            · rw [show (285 : Int32) = nI 285 from rfl, in_le (by omega) (by omega)] at q
              omega
            · rw [in_cl (by omega), in_a1, hf 62 (by omega)]
              refine ih2 (i + 1) _ (by omega) (fun a ha => by rw [me_Io ha]; exact hf a ha) hL (fun j hj => ?_)
              by_cases e : j = i
              · subst e
                rw [me_II]
              · rw [me_Ii e]
                exact hc j (by omega)
        exact cp 285 0 M' (by omega) (fun _ _ => rfl) rfl (fun j hj => absurd hj (Nat.not_lt_zero j))
      · rw [z62 _ (by omega)]; rfl
      · rw [z62 _ (by omega)]; rfl
      · rw [z62 _ (by omega)]; rfl
      · rw [z62 _ (by omega)]; rfl
      · rw [z62 _ (by omega)]; rfl
    | succ n ih =>
      intro i N1 hi hq hk hz
      refine sg_206_30 (fun q => ?_) (fun _ => me_vin (by omega) (by omega)) (fun _ => ?_)
      · rw [show (285 : Int32) = nI 285 from rfl, in_le (by omega) (by omega)] at q
        omega
      · rw [in_cl (by omega), in_a1]
        refine ih (i + 1) _ (by omega) (q3_I hq) (fun j j1 j2 => by rw [me_Io (by omega)]; exact hk j j1 j2) (fun j hj => ?_)
        by_cases e : j = i
        · subst e
          rw [me_II]
        · rw [me_Ii e]
          exact hz j (by omega)
  exact lp 285 0 N (by omega) q3_rf (fun _ _ _ => rfl) (fun j hj => absurd hj (Nat.not_lt_zero j))
end Y83
