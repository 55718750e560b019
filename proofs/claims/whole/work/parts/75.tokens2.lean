/-! tokens: the reference -/
def sv_ (T : tx) (i : Nat) : Int32 := if i < T.2 then nI (T.1 i) else -1
section T75
variable {M : px_Mem} {Q : px_Po} {T : tx}
theorem by_16 : ∀ a, a < 16 → ∀ b, b < 16 → (nI (16 * a + b)).toInt8.toInt32 &&& 255 = nI (16 * a + b) := by decide
theorem by_255 {c : Nat} (hc : c < 256) : (nI c).toInt8.toInt32 &&& 255 = nI c := by
  have h := by_16 (c / 16) (by omega) (c % 16) (by omega)
  rw [show 16 * (c / 16) + c % 16 = c by omega] at h
  exact h
theorem sr_192 (P : TPr T M) {i : Nat} (hi : i ≤ T.2) (h : Q (some (.int (sv_ T i))) M) : px_T 0 192 0 [some (.ref 56), some (.int (nI i))] [] M Q := by
  obtain ⟨p1, p2, p3⟩ := P
  unfold sv_ at h
  refine sg_192_0 (fun c => ?_) (fun _ => ?_) (fun c => ?_)
  · rw [p1, in_le (by omega) (by omega)] at c
    rw [if_neg (by omega)] at h
    exact h
  · exact me_vin (by rename_i c; rw [p1, in_le (by omega) (by omega)] at c; omega) (by omega)
  · rw [p1, in_le (by omega) (by omega)] at c
    rw [if_pos (by omega)] at h
    rw [in_cl (by omega), (p3 i (by omega)).2, by_255 (p3 i (by omega)).1]
    exact h
theorem sv_y {i : Nat} (h : i < T.2) : sv_ T i = nI (T.1 i) := if_pos h
theorem sv_n {i : Nat} (h : T.2 ≤ i) : sv_ T i = -1 := if_neg (by omega)
theorem rg_lt {c : Nat} (hc : c < 256) : rg (nI c) ((97 : Nat) : Int) ((122 : Nat) : Int) = isLt c := by
  rw [rg_n (by omega)]
  unfold isLt
  by_cases h1 : 97 ≤ c
  · by_cases h2 : c ≤ 122
    · rw [decide_eq_true h1, decide_eq_true h2, decide_eq_true (by omega)]
      rfl
    · rw [decide_eq_false h2, Bool.and_false, decide_eq_false (by omega)]
  · rw [decide_eq_false h1, Bool.false_and, decide_eq_false (by omega)]
theorem rg_dg {c : Nat} (hc : c < 256) : rg (nI c) ((48 : Nat) : Int) ((57 : Nat) : Int) = isDg c := by
  rw [rg_n (by omega)]
  unfold isDg
  by_cases h1 : 48 ≤ c
  · by_cases h2 : c ≤ 57
    · rw [decide_eq_true h1, decide_eq_true h2, decide_eq_true (by omega)]
      rfl
    · rw [decide_eq_false h2, Bool.and_false, decide_eq_false (by omega)]
  · rw [decide_eq_false h1, Bool.false_and, decide_eq_false (by omega)]
theorem rg_m1 {a b : Nat} : rg (-1 : Int32) (a : Int) (b : Int) = false := rg_f (Or.inl (by show (-1 : Int) < _; omega))
/-- letters -/
theorem sr_193w (P : TPr T M) {d1 : Option Value} {i : Nat} (hi : i ≤ T.2) (h8 : M.1 56 8 = nI i) (h : ∀ M', rr_fr M M' → M'.1 56 9 = M.1 56 9 → M'.1 56 10 = 1 → M'.1 56 8 = nI (rne isLt T i) → Q none M') : px_T 0 193 83 [some (.ref 56), d1] [] M Q := by
  have hp := P.2.1
  have hl : ∀ (n i : Nat) (N : px_Mem), i + n = T.2 → rr_fr M N → N.1 56 9 = M.1 56 9 → N.1 56 8 = nI i → (∀ M', rr_fr M M' → M'.1 56 9 = M.1 56 9 → M'.1 56 10 = 1 → M'.1 56 8 = nI (rne isLt T i) → Q none M') → px_T 0 193 83 [some (.ref 56), d1] [] N Q := by
    intro n
    induction n with
    | zero =>
      intro i N hi hf f9 f8 h
      have P1 := TPr_fr P hf
      refine sg_193_83 ?_
      rw [f8]
      refine sr_192 P1 (by omega) (sg_193_91 (sr_175i (a := 97) (b := 122) (by omega) (by omega) (sg_193_101 (fun _ => ?_) (fun c => ?_))))
      · rw [rne_e (by omega)] at h
        refine h _ (rr_I hf (by omega) (by omega)) ?_ ?_ ?_
        · simp (disch := omega) only [me_II, me_Ii, me_Io, me_I2, me_L1, me_Li, me_LL, me_Lo, me_As, me_Ao, me_A2, me_Bs, me_Bo, me_B1]; exact f9
        · simp (disch := omega) only [me_II, me_Ii, me_Io, me_I2, me_L1, me_Li, me_LL, me_Lo, me_As, me_Ao, me_A2, me_Bs, me_Bo, me_B1]
        · simp (disch := omega) only [me_II, me_Ii, me_Io, me_I2, me_L1, me_Li, me_LL, me_Lo, me_As, me_Ao, me_A2, me_Bs, me_Bo, me_B1]; exact f8
      · rw [sv_n (by omega), rg_m1] at c
        exact absurd rfl c
    | succ n ih =>
      intro i N hi hf f9 f8 h
      have P1 := TPr_fr P hf
      have hv := (P.2.2 i (by omega)).1
      refine sg_193_83 ?_
      rw [f8]
      refine sr_192 P1 (by omega) (sg_193_91 (sr_175i (a := 97) (b := 122) (by omega) (by omega) (sg_193_101 (fun c => ?_) (fun c => ?_))))
      · rw [sv_y (by omega), rg_lt hv, in_b0] at c
        rw [rne_n (by omega) c] at h
        refine h _ (rr_I hf (by omega) (by omega)) ?_ ?_ ?_
        · simp (disch := omega) only [me_II, me_Ii, me_Io, me_I2, me_L1, me_Li, me_LL, me_Lo, me_As, me_Ao, me_A2, me_Bs, me_Bo, me_B1]; exact f9
        · simp (disch := omega) only [me_II, me_Ii, me_Io, me_I2, me_L1, me_Li, me_LL, me_Lo, me_As, me_Ao, me_A2, me_Bs, me_Bo, me_B1]
        · simp (disch := omega) only [me_II, me_Ii, me_Io, me_I2, me_L1, me_Li, me_LL, me_Lo, me_As, me_Ao, me_A2, me_Bs, me_Bo, me_B1]; exact f8
      · rw [sv_y (by omega), rg_lt hv, in_b0, Bool.not_eq_false] at c
        rw [rne_y (by omega) c] at h
        rw [f8, in_a1]
        exact ih (i + 1) _ (by omega) (rr_I hf (by omega) (by omega)) (by simp (disch := omega) only [me_II, me_Ii, me_Io, me_I2, me_L1, me_Li, me_LL, me_Lo, me_As, me_Ao, me_A2, me_Bs, me_Bo, me_B1]; exact f9) (by simp (disch := omega) only [me_II, me_Ii, me_Io, me_I2, me_L1, me_Li, me_LL, me_Lo, me_As, me_Ao, me_A2, me_Bs, me_Bo, me_B1]) h
  exact hl (T.2 - i) i M (by omega) rr_rf rfl h8 h
/-- digits -/
theorem sr_193d (P : TPr T M) {d1 : Option Value} {i : Nat} (hi : i ≤ T.2) (h8 : M.1 56 8 = nI i) (h11 : M.1 56 11 = 0) (h : ∀ M', rr_fr M M' → M'.1 56 9 = M.1 56 9 → M'.1 56 10 = 2 → M'.1 56 8 = nI (rne isDg T i) → M'.1 56 11 = nI (min (nvl T.1 (T.2 - i) i 0) 99999) → Q none M') : px_T 0 193 144 [some (.ref 56), d1] [] M Q := by
  have hp := P.2.1
  have hl : ∀ (n i a : Nat) (N : px_Mem), i + n = T.2 → rr_fr M N → N.1 56 9 = M.1 56 9 → N.1 56 8 = nI i → N.1 56 11 = nI (min a 99999) → (∀ M', rr_fr M M' → M'.1 56 9 = M.1 56 9 → M'.1 56 10 = 2 → M'.1 56 8 = nI (rne isDg T i) → M'.1 56 11 = nI (min (nvl T.1 (T.2 - i) i a) 99999) → Q none M') → px_T 0 193 144 [some (.ref 56), d1] [] N Q := by
    intro n
    induction n with
    | zero =>
      intro i a N hi hf f9 f8 f11 h
      have P1 := TPr_fr P hf
      refine sg_193_144 ?_
      rw [f8]
      refine sr_192 P1 (by omega) (sg_193_152 (sr_175i (a := 48) (b := 57) (by omega) (by omega) (sg_193_162 (fun _ => ?_) (fun c => ?_))))
      · rw [rne_e (by omega), show T.2 - i = 0 by omega] at h
        refine h _ (rr_I hf (by omega) (by omega)) ?_ ?_ ?_ ?_
        · simp (disch := omega) only [me_II, me_Ii, me_Io, me_I2, me_L1, me_Li, me_LL, me_Lo, me_As, me_Ao, me_A2, me_Bs, me_Bo, me_B1]; exact f9
        · simp (disch := omega) only [me_II, me_Ii, me_Io, me_I2, me_L1, me_Li, me_LL, me_Lo, me_As, me_Ao, me_A2, me_Bs, me_Bo, me_B1]
        · simp (disch := omega) only [me_II, me_Ii, me_Io, me_I2, me_L1, me_Li, me_LL, me_Lo, me_As, me_Ao, me_A2, me_Bs, me_Bo, me_B1]; exact f8
        · simp (disch := omega) only [me_II, me_Ii, me_Io, me_I2, me_L1, me_Li, me_LL, me_Lo, me_As, me_Ao, me_A2, me_Bs, me_Bo, me_B1]; exact f11
      · rw [sv_n (by omega), rg_m1] at c
        exact absurd rfl c
    | succ n ih =>
      intro i a N hi hf f9 f8 f11 h
      have P1 := TPr_fr P hf
      have hv := (P.2.2 i (by omega)).1
      have env : nvl T.1 (T.2 - i) i a = if isDg (T.1 i) = true then nvl T.1 (T.2 - (i + 1)) (i + 1) (10 * a + (T.1 i - 48)) else a := by
        rw [show T.2 - i = (T.2 - (i + 1)) + 1 by omega]
        rfl
      refine sg_193_144 ?_
      rw [f8]
      refine sr_192 P1 (by omega) (sg_193_152 (sr_175i (a := 48) (b := 57) (by omega) (by omega) (sg_193_162 (fun c => ?_) (fun c => ?_))))
      · rw [sv_y (by omega), rg_dg hv, in_b0] at c
        rw [if_neg (by rw [c]; decide)] at env
        rw [rne_n (by omega) c, env] at h
        refine h _ (rr_I hf (by omega) (by omega)) ?_ ?_ ?_ ?_
        · simp (disch := omega) only [me_II, me_Ii, me_Io, me_I2, me_L1, me_Li, me_LL, me_Lo, me_As, me_Ao, me_A2, me_Bs, me_Bo, me_B1]; exact f9
        · simp (disch := omega) only [me_II, me_Ii, me_Io, me_I2, me_L1, me_Li, me_LL, me_Lo, me_As, me_Ao, me_A2, me_Bs, me_Bo, me_B1]
        · simp (disch := omega) only [me_II, me_Ii, me_Io, me_I2, me_L1, me_Li, me_LL, me_Lo, me_As, me_Ao, me_A2, me_Bs, me_Bo, me_B1]; exact f8
        · simp (disch := omega) only [me_II, me_Ii, me_Io, me_I2, me_L1, me_Li, me_LL, me_Lo, me_As, me_Ao, me_A2, me_Bs, me_Bo, me_B1]; exact f11
      · rw [sv_y (by omega), rg_dg hv, in_b0, Bool.not_eq_false] at c
        rw [if_pos c] at env
        rw [env, rne_y (by omega) c] at h
        have hd : 48 ≤ T.1 i ∧ T.1 i ≤ 57 := by
          unfold isDg at c
          rw [Bool.and_eq_true] at c
          exact ⟨of_decide_eq_true c.1, of_decide_eq_true c.2⟩
        rw [f8]
        refine sr_192 P1 (by omega) (sg_193_183 ?_)
        rw [sv_y (by omega)]
        have ev : (if (10 * N.1 56 11 + nI (T.1 i)) - 48 < (99999 : Int32) then (10 * N.1 56 11 + nI (T.1 i)) - 48 else 99999) = nI (min (10 * a + (T.1 i - 48)) 99999) := by
          rw [f11, il_10, show (48 : Int32) = nI 48 from rfl, show (99999 : Int32) = nI 99999 from rfl, in_mul, in_add, in_sb (by omega)]
          by_cases hlt : 10 * min a 99999 + T.1 i - 48 < 99999
          · rw [if_pos (by rw [in_lt (by omega) (by omega)]; exact hlt)]
            congr 1
            omega
          · rw [if_neg (by rw [in_lt (by omega) (by omega)]; exact hlt)]
            congr 1
            omega
        rw [ev, f8, in_a1]
        refine ih (i + 1) (10 * a + (T.1 i - 48)) _ (by omega) (rr_I (rr_I hf (by omega) (by omega)) (by omega) (by omega)) ?_ ?_ ?_ h
        · simp (disch := omega) only [me_II, me_Ii, me_Io, me_I2, me_L1, me_Li, me_LL, me_Lo, me_As, me_Ao, me_A2, me_Bs, me_Bo, me_B1]; exact f9
        · simp (disch := omega) only [me_II, me_Ii, me_Io, me_I2, me_L1, me_Li, me_LL, me_Lo, me_As, me_Ao, me_A2, me_Bs, me_Bo, me_B1]
        · simp (disch := omega) only [me_II, me_Ii, me_Io, me_I2, me_L1, me_Li, me_LL, me_Lo, me_As, me_Ao, me_A2, me_Bs, me_Bo, me_B1]
  exact hl (T.2 - i) i 0 M (by omega) rr_rf rfl h8 (by rw [h11]; rfl) h
theorem sr_193 (P : TPr T M) {sp : Nat} (hs : sp ≤ T.2) (h8 : M.1 56 8 = nI sp) (h : ∀ M', rr_fr M M' → RT (stp T sp) M' → Q none M') : px_T 0 193 0 [some (.ref 56), none] [] M Q := by
  have hp := P.2.1
  have hl : ∀ (n st : Nat) (N : px_Mem), st + n = T.2 → rr_fr M N → N.1 56 8 = nI st → (∀ M', rr_fr M M' → RT (stq T (rne isBl T st)) M' → Q none M') → px_T 0 193 0 [some (.ref 56), none] [] N Q := by
    intro n
    induction n with
    | zero =>
      intro st N hst hf f8 h
      have P1 := TPr_fr P hf
      rw [rne_e (by omega)] at h
      refine sg_193_0 ?_
      rw [f8]
      refine sr_192 P1 (by omega) ?_
      rw [sv_n (by omega)]
      refine sg_193_8 (fun q => absurd q (by decide)) (fun _ => ?_)
      rw [f8]
      refine sr_192 P1 (by omega) ?_
      rw [sv_n (by omega)]
      refine sg_193_21 (fun q => absurd q (by decide)) (fun _ => ?_)
      rw [f8]
      have hf2 : rr_fr M (px_wI N 56 9 (nI st)) := rr_I hf (by omega) (by omega)
      refine sr_192 (TPr_fr P hf2) (by omega) ?_
      rw [sv_n (by omega)]
      refine sg_193_55 (fun _ => h _ (rr_I hf2 (by omega) (by omega)) ?_) (fun q => absurd rfl q)
      unfold stq
      rw [if_neg (by omega)]
      refine ⟨?_, ?_, ?_, fun q => absurd q (show ¬ (0 : Nat) = 2 by decide)⟩
      · simp (disch := omega) only [me_II, me_Ii, me_Io, me_I2, me_L1, me_Li, me_LL, me_Lo, me_As, me_Ao, me_A2, me_Bs, me_Bo, me_B1]
      · simp (disch := omega) only [me_II, me_Ii, me_Io, me_I2, me_L1, me_Li, me_LL, me_Lo, me_As, me_Ao, me_A2, me_Bs, me_Bo, me_B1]; rfl
      · simp (disch := omega) only [me_II, me_Ii, me_Io, me_I2, me_L1, me_Li, me_LL, me_Lo, me_As, me_Ao, me_A2, me_Bs, me_Bo, me_B1]; exact f8
    | succ n ih =>
      intro st N hst hf f8 h
      have P1 := TPr_fr P hf
      have hv := (P.2.2 st (by omega)).1
      have go : isBl (T.1 st) = true → px_T 0 193 0 [some (.ref 56), none] [] (px_wI N 56 8 (N.1 56 8 + 1)) Q := by
        intro c
        rw [rne_y (by omega) c] at h
        rw [f8, in_a1]
        exact ih (st + 1) _ (by omega) (rr_I hf (by omega) (by omega)) (by simp (disch := omega) only [me_II, me_Ii, me_Io, me_I2, me_L1, me_Li, me_LL, me_Lo, me_As, me_Ao, me_A2, me_Bs, me_Bo, me_B1]) h
      refine sg_193_0 ?_
      rw [f8]
      refine sr_192 P1 (by omega) ?_
      rw [sv_y (by omega)]
      refine sg_193_8 (fun q => ?_) (fun q => ?_)
      · rw [show (32 : Int32) = nI 32 from rfl, in_eq (by omega) (by omega)] at q
        exact go (by unfold isBl; rw [decide_eq_true q]; rfl)
      · rw [show (32 : Int32) = nI 32 from rfl, in_eq (by omega) (by omega)] at q
        rw [f8]
        refine sr_192 P1 (by omega) ?_
        rw [sv_y (by omega)]
        refine sg_193_21 (fun r => ?_) (fun r => ?_)
        · rw [show (10 : Int32) = nI 10 from rfl, in_eq (by omega) (by omega)] at r
          exact go (by unfold isBl; rw [decide_eq_true r, Bool.or_true])
        · rw [show (10 : Int32) = nI 10 from rfl, in_eq (by omega) (by omega)] at r
          have hb : isBl (T.1 st) = false := by unfold isBl; rw [decide_eq_false q, decide_eq_false r]; rfl
          rw [rne_n (by omega) hb] at h
          have esq : stq T st = if isLt (T.1 st) = true then (st, 1, rne isLt T st, 0) else if isDg (T.1 st) = true then (st, 2, rne isDg T st, nvl T.1 (T.2 - st) st 0) else (st, if T.1 st = 59 then 3 else 4, st + 1, 0) := by
            unfold stq
            rw [if_pos (by omega)]
          rw [esq] at h
          rw [f8]
          have hf2 : rr_fr M (px_wI N 56 9 (nI st)) := rr_I hf (by omega) (by omega)
          have P2 := TPr_fr P hf2
          have g8 : (px_wI N 56 9 (nI st)).1 56 8 = nI st := by simp (disch := omega) only [me_II, me_Ii, me_Io, me_I2, me_L1, me_Li, me_LL, me_Lo, me_As, me_Ao, me_A2, me_Bs, me_Bo, me_B1]; exact f8
          have g9 : (px_wI N 56 9 (nI st)).1 56 9 = nI st := by simp (disch := omega) only [me_II, me_Ii, me_Io, me_I2, me_L1, me_Li, me_LL, me_Lo, me_As, me_Ao, me_A2, me_Bs, me_Bo, me_B1]
          generalize px_wI N 56 9 (nI st) = N2 at hf2 P2 g8 g9 ⊢
          refine sr_192 P2 (by omega) ?_
          rw [sv_y (by omega)]
          refine sg_193_55 (fun q => absurd q (in_nm (by omega))) (fun _ => ?_)
          refine sr_175i (a := 97) (b := 122) (by omega) (by omega) ?_
          rw [rg_lt hv]
          refine sg_193_80 (fun d => ?_) (fun d => ?_)
          · rw [in_b0] at d
            rw [if_neg (by rw [d]; decide)] at h
            refine sr_175i (a := 48) (b := 57) (by omega) (by omega) ?_
            rw [rg_dg hv]
            refine sg_193_136 (fun e f => ?_) (fun e f => ?_) (fun e => ?_)
            · rw [in_b0] at e
              rw [show (59 : Int32) = nI 59 from rfl, in_eq (by omega) (by omega)] at f
              rw [if_neg (by rw [e]; decide), if_pos f] at h
              rw [g8, in_a1]
              refine h _ (rr_I (rr_I hf2 (by omega) (by omega)) (by omega) (by omega)) ⟨?_, ?_, ?_, fun q => absurd q (show ¬ (3 : Nat) = 2 by decide)⟩
              · simp (disch := omega) only [me_II, me_Ii, me_Io, me_I2, me_L1, me_Li, me_LL, me_Lo, me_As, me_Ao, me_A2, me_Bs, me_Bo, me_B1]; exact g9
              · simp (disch := omega) only [me_II, me_Ii, me_Io, me_I2, me_L1, me_Li, me_LL, me_Lo, me_As, me_Ao, me_A2, me_Bs, me_Bo, me_B1]; rfl
              · simp (disch := omega) only [me_II, me_Ii, me_Io, me_I2, me_L1, me_Li, me_LL, me_Lo, me_As, me_Ao, me_A2, me_Bs, me_Bo, me_B1]
            · rw [in_b0] at e
              rw [show (59 : Int32) = nI 59 from rfl, in_eq (by omega) (by omega)] at f
              rw [if_neg (by rw [e]; decide), if_neg f] at h
              rw [g8, in_a1]
              refine h _ (rr_I (rr_I hf2 (by omega) (by omega)) (by omega) (by omega)) ⟨?_, ?_, ?_, fun q => absurd q (show ¬ (4 : Nat) = 2 by decide)⟩
              · simp (disch := omega) only [me_II, me_Ii, me_Io, me_I2, me_L1, me_Li, me_LL, me_Lo, me_As, me_Ao, me_A2, me_Bs, me_Bo, me_B1]; exact g9
              · simp (disch := omega) only [me_II, me_Ii, me_Io, me_I2, me_L1, me_Li, me_LL, me_Lo, me_As, me_Ao, me_A2, me_Bs, me_Bo, me_B1]; rfl
              · simp (disch := omega) only [me_II, me_Ii, me_Io, me_I2, me_L1, me_Li, me_LL, me_Lo, me_As, me_Ao, me_A2, me_Bs, me_Bo, me_B1]
            · rw [in_b0, Bool.not_eq_false] at e
              rw [if_pos e] at h
              have hf3 : rr_fr M (px_wI N2 56 11 0) := rr_I hf2 (by omega) (by omega)
              refine sr_193d (TPr_fr P hf3) (i := st) (by omega) (by simp (disch := omega) only [me_II, me_Ii, me_Io, me_I2, me_L1, me_Li, me_LL, me_Lo, me_As, me_Ao, me_A2, me_Bs, me_Bo, me_B1]; exact g8) (by simp (disch := omega) only [me_II, me_Ii, me_Io, me_I2, me_L1, me_Li, me_LL, me_Lo, me_As, me_Ao, me_A2, me_Bs, me_Bo, me_B1]) (fun M3 k1 k2 k3 k4 k5 => h M3 (rr_tr hf3 k1) ⟨?_, ?_, k4, fun _ => k5⟩)
              · rw [k2]
                simp (disch := omega) only [me_II, me_Ii, me_Io, me_I2, me_L1, me_Li, me_LL, me_Lo, me_As, me_Ao, me_A2, me_Bs, me_Bo, me_B1]
                exact g9
              · rw [k3]; rfl
          · rw [in_b0, Bool.not_eq_false] at d
            rw [if_pos d] at h
            refine sr_193w P2 (i := st) (by omega) g8 (fun M3 k1 k2 k3 k4 => h M3 (rr_tr hf2 k1) ⟨?_, ?_, k4, fun q => absurd q (show ¬ (1 : Nat) = 2 by decide)⟩)
            · rw [k2]; exact g9
            · rw [k3]; rfl
  exact hl (T.2 - sp) sp M (by omega) rr_rf h8 h
end T75
