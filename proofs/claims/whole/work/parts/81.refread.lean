/-! the reference's reader -/
def FR (f : flt) (M : px_Mem) : Prop := match f with
  | none => M.1 56 12 = 0 ∧ M.1 56 13 = -1
  | some x => x.1 ≠ 0 ∧ x.1 ≤ 3 ∧ M.1 56 12 = nI x.1 ∧ M.1 56 13 = nI x.2
def RS (T : tx) (k : tkn) (f : flt) (M : px_Mem) : Prop := TPr T M ∧ iv_ro M ∧ FR f M ∧ (f = none → RT k M ∧ TW T k)
def q2_fr (M M' : px_Mem) : Prop := (∀ a, a ≠ 56 → M'.1 a = M.1 a) ∧ (∀ i, (i < 8 ∨ 13 < i) → M'.1 56 i = M.1 56 i) ∧ M'.2 = M.2
section R81
variable {M : px_Mem} {Q : px_Po} {T : tx} {k : tkn} {f : flt}
theorem q2_rf : q2_fr M M := ⟨fun _ _ => rfl, fun _ _ => rfl, rfl⟩
theorem q2_tr {M1 M2 : px_Mem} (h : q2_fr M M1) (h2 : q2_fr M1 M2) : q2_fr M M2 := ⟨fun a p => (h2.1 a p).trans (h.1 a p), fun i p => (h2.2.1 i p).trans (h.2.1 i p), h2.2.2.trans h.2.2⟩
theorem q2_rr {M1 : px_Mem} (h : rr_fr M M1) : q2_fr M M1 := ⟨h.1, fun i hi => h.2.1 i (by omega), h.2.2⟩
theorem FR_fr {M1 : px_Mem} (h : FR f M) (h1 : M1.1 56 12 = M.1 56 12) (h2 : M1.1 56 13 = M.1 56 13) : FR f M1 := by
  cases f with
  | none => exact ⟨h1.trans h.1, h2.trans h.2⟩
  | some x => exact ⟨h.1, h.2.1, h1.trans h.2.2.1, h2.trans h.2.2.2⟩
theorem FR_z (F : FR f M) : (M.1 56 12 = 0) ↔ (decide (f = none)) = true := by
  cases f with
  | none => exact ⟨fun _ => rfl, fun _ => F.1⟩
  | some x =>
    constructor
    · intro q
      rw [F.2.2.1, show (0 : Int32) = nI 0 from rfl, in_eq (by have := F.2.1; omega) (by omega)] at q
      exact absurd q F.1
    · intro q
      simp at q
theorem rs_194 (F : FR f M) (h : Q (some (.int (in_b (decide (f = none))))) M) : px_T 0 194 0 [some (.ref 56)] [] M Q := sr_194 (FR_z F) h
theorem rs_193 (S : RS T k none M) (h : ∀ M', q2_fr M M' → RS T (stp T k.2.2.1) none M' → Q none M') : px_T 0 193 0 [some (.ref 56), none] [] M Q := by
  obtain ⟨P, Ro, F, K⟩ := S
  obtain ⟨K1, W⟩ := K rfl
  exact sr_193 P W.2.1 K1.2.2.1 (fun M1 k1 K2 => h M1 (q2_rr k1) ⟨TPr_fr P k1, iv_ro_fr Ro (fun a ha => k1.1 a (by omega)), FR_fr F (k1.2.1 12 (by omega)) (k1.2.1 13 (by omega)), fun _ => ⟨K2, stp_w W.2.1⟩⟩)
theorem rs_195 (S : RS T k f M) {c : Nat} (h1 : c ≠ 0) (h3 : c ≤ 3) (h : ∀ M', q2_fr M M' → RS T k (blm f c k.1) M' → Q none M') : px_T 0 195 0 [some (.ref 56), some (.int (nI c))] [] M Q := by
  have S0 := S
  obtain ⟨P, Ro, F, K⟩ := S
  refine sg_195_0 (rs_194 F ?_)
  cases f with
  | none =>
    refine sg_195_4 (fun q => absurd q (by decide)) (fun _ => ?_)
    rw [(K rfl).1.1]
    refine h _ ⟨fun a ha => by simp (disch := omega) only [me_II, me_Ii, me_Io, me_I2, me_L1, me_Li, me_LL, me_Lo, me_As, me_Ao, me_A2, me_Bs, me_Bo, me_B1], fun i hi => by simp (disch := omega) only [me_II, me_Ii, me_Io, me_I2, me_L1, me_Li, me_LL, me_Lo, me_As, me_Ao, me_A2, me_Bs, me_Bo, me_B1], rfl⟩ ⟨?_, iv_ro_fr Ro (fun a ha => by simp (disch := omega) only [me_II, me_Ii, me_Io, me_I2, me_L1, me_Li, me_LL, me_Lo, me_As, me_Ao, me_A2, me_Bs, me_Bo, me_B1]), ⟨h1, h3, by simp (disch := omega) only [me_II, me_Ii, me_Io, me_I2, me_L1, me_Li, me_LL, me_Lo, me_As, me_Ao, me_A2, me_Bs, me_Bo, me_B1], by simp (disch := omega) only [me_II, me_Ii, me_Io, me_I2, me_L1, me_Li, me_LL, me_Lo, me_As, me_Ao, me_A2, me_Bs, me_Bo, me_B1]⟩, fun q => absurd q (by simp [blm])⟩
    unfold TPr
    simp (disch := omega) only [me_II, me_Ii, me_Io, me_I2, me_L1, me_Li, me_LL, me_Lo, me_As, me_Ao, me_A2, me_Bs, me_Bo, me_B1]
    exact P
  | some x =>
    exact sg_195_4 (fun _ => h M q2_rf S0) (fun q => absurd rfl q)
theorem rs_196 (S : RS T k f M) {w : Nat} (hw : w < 14) (hpos : 0 < wln w) (h : Q (some (.int (in_b (decide (f = none) && isW T k w)))) M) : px_T 0 196 0 [some (.ref 56), some (.ref (1100 + w)), none, none] [] M Q := by
  obtain ⟨P, Ro, F, K⟩ := S
  cases f with
  | none =>
    obtain ⟨K1, W⟩ := K rfl
    refine sr_196 Ro P K1 W hw hpos F.1 ?_
    rw [decide_eq_true (show (none : flt) = none from rfl), Bool.true_and] at h
    exact h
  | some x =>
    have e : (decide ((some x : flt) = none) && isW T k w) = false := by simp
    rw [e] at h
    refine sg_196_0 (rs_194 F (sg_196_4 (fun _ => ?_) (fun q => absurd (by simp [in_b]) q) (fun q => absurd (by simp [in_b]) q) (fun q => absurd (by simp [in_b]) q)))
    exact sg_196_39 (sp_333 Ro hw (sg_196_44 (fun _ => Or.inl rfl) (fun _ => h) (fun _ _ => Or.inl rfl) (fun _ _ => h) (fun _ q => absurd rfl q) (fun _ q => absurd rfl q) (fun _ q => absurd rfl q))) (sh_11 w hw)
theorem rs_198 (S : RS T k f M) {w : Nat} (hw : w < 14) (hpos : 0 < wln w) (h : ∀ M', q2_fr M M' → RS T (stp T k.2.2.1) (wfl T f k w) M' → Q none M') : px_T 0 198 0 [some (.ref 56), some (.ref (1100 + w))] [] M Q := by
  unfold wfl at h
  cases f with
  | none =>
    refine sg_198_0 (sg_197_0 (rs_196 S hw hpos ?_))
    rw [decide_eq_true (show (none : flt) = none from rfl), Bool.true_and]
    refine sg_197_5 (fun c => Or.inl c) (fun c => ?_) (fun c => ?_)
    · have c2 := (in_b0 _).mp c
      rw [if_neg (by rw [c2]; decide)] at h
      rw [c]
      exact sg_198_5 (fun _ => rs_195 (c := 1) S (by omega) (by omega) (fun M1 k1 S1 => sg_198_13 (h M1 k1 ⟨S1.1, S1.2.1, S1.2.2.1, fun q => absurd q (by simp [blm])⟩))) (fun q => absurd rfl q)
    · have c2 : isW T k w = true := by
        rw [in_b0, Bool.not_eq_false] at c
        exact c
      rw [if_pos c2] at h
      refine rs_193 S (fun M1 k1 S1 => sg_197_14 (in_b01 _) (sg_198_5 (fun q => absurd q c) (fun _ => h M1 k1 S1)))
  | some x =>
    have h9 : ∀ M', q2_fr M M' → RS T k (some x) M' → Q none M' := by
      intro M' q S'
      refine h M' q ⟨S'.1, S'.2.1, ?_, fun q => ?_⟩
      · split
        · exact S'.2.2.1
        · exact S'.2.2.1
      · split at q
        · simp at q
        · simp [blm] at q
    refine sg_198_0 (sg_197_0 (rs_196 S hw hpos ?_))
    have e : (decide ((some x : flt) = none) && isW T k w) = false := by simp
    rw [e]
    refine sg_197_5 (fun _ => Or.inl rfl) (fun _ => ?_) (fun q => absurd rfl q)
    exact sg_198_5 (fun _ => rs_195 (c := 1) S (by omega) (by omega) (fun M1 k1 S1 => sg_198_13 (h9 M1 k1 S1))) (fun q => absurd rfl q)
theorem rs_199 (S : RS T k f M) {lo hi : Nat} (hlo : lo ≤ 30) (hh : hi ≤ 30) (h : ∀ (v : Int32) M', q2_fr M M' → RS T (stp T k.2.2.1) (nfl f k lo hi) M' → (nfl f k lo hi = none → v = nI k.2.2.2) → Q (some (.int v)) M') : px_T 0 199 0 [some (.ref 56), some (.int (nI lo)), some (.int (nI hi)), none] [] M Q := by
  -- behind a fault
  have bad : ∀ (x : Nat × Nat) (N : px_Mem), nfl f k lo hi = some x → q2_fr M N → RS T k (some x) N → Q (some (.int 0)) N := by
    intro x N hx q S'
    refine h 0 N q ⟨S'.1, S'.2.1, by rw [hx]; exact S'.2.2.1, fun q => ?_⟩ (fun q => ?_)
    · rw [hx] at q
      simp at q
    · rw [hx] at q
      simp at q
  cases f with
  | none =>
    have S0 := S
    obtain ⟨P, Ro, F, K⟩ := S
    obtain ⟨K1, W⟩ := K rfl
    have w3 := W.2.2
    refine sg_199_0 (rs_194 F ?_)
    rw [decide_eq_true (show (none : flt) = none from rfl)]
    refine sg_199_4 (fun q => absurd q (by decide)) (fun _ c => ?_) (fun _ c => ?_)
    · rw [K1.2.1, show (2 : Int32) = nI 2 from rfl, in_eq (by omega) (by omega)] at c
      have k11 := K1.2.2.2 c
      refine rs_194 F ?_
      rw [decide_eq_true (show (none : flt) = none from rfl)]
      refine sg_199_24 (fun q => absurd q (by decide)) (fun _ => ?_)
      rw [nI_l (by omega), nI_l (by omega)]
      refine sr_175i (by omega) (by omega) ?_
      rw [k11, rg_n (by omega)]
      refine sg_199_39 (fun d => ?_) (fun d => ?_)
      · have d2 := of_decide_eq_false ((in_b0 _).mp d)
        have hx : nfl none k lo hi = some (2, k.1) := by
          unfold nfl
          rw [if_pos c, if_neg (by omega)]
          rfl
        refine rs_195 (c := 2) S0 (by omega) (by omega) (fun M1 k1 S1 => sg_199_47 (rs_194 S1.2.2.1 (sg_199_51 (fun _ => bad (2, k.1) M1 hx k1 S1) (fun q => absurd (by simp [in_b, blm]) q))))
      · have d2 := of_decide_eq_true (show decide _ = true by rw [in_b0, Bool.not_eq_false] at d; exact d)
        have hx : nfl none k lo hi = none := by
          unfold nfl
          rw [if_pos c, if_pos (by omega)]
        refine rs_194 F ?_
        rw [decide_eq_true (show (none : flt) = none from rfl)]
        refine sg_199_51 (fun q => absurd q (by decide)) (fun _ => ?_)
        rw [k11]
        refine rs_193 S0 (fun M1 k1 S1 => sg_199_65 (h _ M1 k1 (by rw [hx]; exact S1) (fun _ => ?_)))
        congr 1
        omega
    · rw [K1.2.1, show (2 : Int32) = nI 2 from rfl, in_eq (by omega) (by omega)] at c
      have hx : nfl none k lo hi = some (1, k.1) := by
        unfold nfl
        rw [if_neg c]
        rfl
      refine rs_195 (c := 1) S0 (by omega) (by omega) (fun M1 k1 S1 => sg_199_20 (rs_194 S1.2.2.1 (sg_199_24 (fun _ => rs_194 S1.2.2.1 (sg_199_51 (fun _ => bad (1, k.1) M1 hx k1 S1) (fun q => absurd (by simp [in_b, blm]) q))) (fun q => absurd (by simp [in_b, blm]) q))))
  | some x =>
    have hx : nfl (some x) k lo hi = some x := by
      unfold nfl
      split
      · split
        · rfl
        · rfl
      · rfl
    have z : in_b (decide ((some x : flt) = none)) = 0 := by simp [in_b]
    refine sg_199_0 (rs_194 S.2.2.1 (sg_199_4 (fun _ => ?_) (fun q => absurd z q) (fun q => absurd z q)))
    exact rs_194 S.2.2.1 (sg_199_24 (fun _ => rs_194 S.2.2.1 (sg_199_51 (fun _ => bad x M hx q2_rf S) (fun q => absurd z q))) (fun q => absurd z q))
theorem wpos : ∀ w, w < 14 → w ≠ 10 → 0 < wln w := by decide
theorem rs_202 (S : RS T k none M) (h : Q (some (.int (if kx T k < 10 then nI (kx T k) else -1))) M) : px_T 0 202 0 [some (.ref 56)] [] M Q := by
  have st : ∀ (j : Nat) (Q' : px_Po), j < 10 → Q' (some (.int (in_b (isW T k j)))) M → px_T 0 196 0 [some (.ref 56), some (.ref (1100 + j)), none, none] [] M Q' := by
    intro j Q' hj h'
    refine rs_196 S (by omega) (wpos j (by omega) (by omega)) ?_
    rw [decide_eq_true (show (none : flt) = none from rfl), Bool.true_and]
    exact h'
  have at_ : ∀ j, j < 10 → (∀ i, i < j → isW T k i = false) → ¬ in_b (isW T k j) = 0 → Q (some (.int (nI j))) M := by
    intro j hj ha c
    rw [in_b0, Bool.not_eq_false] at c
    have e1 : kx T k = j := fa_first_at hj ha c
    rw [e1, if_pos hj] at h
    exact h
  have nx : ∀ j, (∀ i, i < j → isW T k i = false) → in_b (isW T k j) = 0 → ∀ i, i < j + 1 → isW T k i = false := by
    intro j ha c i hi
    by_cases e : i = j
    · rw [e]; exact (in_b0 _).mp c
    · exact ha i (by omega)
  refine sg_202_0 (st 0 _ (by omega) (sg_202_6 (fun c0 => ?_) (fun c => at_ 0 (by omega) (fun i hi => absurd hi (Nat.not_lt_zero i)) c)))
  have a0 := nx 0 (fun i hi => absurd hi (Nat.not_lt_zero i)) c0
  refine st 1 _ (by omega) (sg_202_17 (fun c1 => ?_) (fun c => at_ 1 (by omega) a0 c))
  have a1 := nx 1 a0 c1
  refine st 2 _ (by omega) (sg_202_28 (fun c2 => ?_) (fun c => at_ 2 (by omega) a1 c))
  have a2 := nx 2 a1 c2
  refine st 3 _ (by omega) (sg_202_39 (fun c3 => ?_) (fun c => at_ 3 (by omega) a2 c))
  have a3 := nx 3 a2 c3
  refine st 4 _ (by omega) (sg_202_50 (fun c4 => ?_) (fun c => at_ 4 (by omega) a3 c))
  have a4 := nx 4 a3 c4
  refine st 5 _ (by omega) (sg_202_61 (fun c5 => ?_) (fun c => at_ 5 (by omega) a4 c))
  have a5 := nx 5 a4 c5
  refine st 6 _ (by omega) (sg_202_72 (fun c6 => ?_) (fun c => at_ 6 (by omega) a5 c))
  have a6 := nx 6 a5 c6
  refine st 7 _ (by omega) (sg_202_84 (fun c7 => ?_) (fun c => at_ 7 (by omega) a6 c))
  have a7 := nx 7 a6 c7
  refine st 8 _ (by omega) (sg_202_96 (fun c8 => ?_) (fun c => at_ 8 (by omega) a7 c))
  have a8 := nx 8 a7 c8
  refine st 9 _ (by omega) (sg_202_108 (fun c9 => ?_) (fun c => at_ 9 (by omega) a8 c))
  have a9 := nx 9 a8 c9
  have e1 : kx T k = 10 := fa_first_n a9
  rw [e1, if_neg (by omega)] at h
  exact h
end R81
