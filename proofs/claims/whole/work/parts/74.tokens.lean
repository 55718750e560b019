/-! tokens of a text: bytes and size; a token: start, kind, stop, value -/
abbrev tx : Type := (Nat → Nat) × Nat
abbrev tkn : Type := Nat × Nat × Nat × Nat
def isBl (c : Nat) : Bool := decide (c = 32) || decide (c = 10)
def isLt (c : Nat) : Bool := decide (97 ≤ c) && decide (c ≤ 122)
def isDg (c : Nat) : Bool := decide (48 ≤ c) && decide (c ≤ 57)
def rnn (p : Nat → Bool) (v : Nat → Nat) : Nat → Nat → Nat
  | 0, i => i
  | n + 1, i => if p (v i) = true then rnn p v n (i + 1) else i
def rne (p : Nat → Bool) (T : tx) (i : Nat) : Nat := rnn p T.1 (T.2 - i) i
def nvl (v : Nat → Nat) : Nat → Nat → Nat → Nat
  | 0, _, a => a
  | n + 1, i, a => if isDg (v i) = true then nvl v n (i + 1) (10 * a + (v i - 48)) else a
def stq (T : tx) (st : Nat) : tkn := if st < T.2 then (if isLt (T.1 st) = true then (st, 1, rne isLt T st, 0) else if isDg (T.1 st) = true then (st, 2, rne isDg T st, nvl T.1 (T.2 - st) st 0) else (st, if T.1 st = 59 then 3 else 4, st + 1, 0)) else (st, 0, st, 0)
def stp (T : tx) (sp : Nat) : tkn := stq T (rne isBl T sp)
def TPc (T : tx) (M : px_Mem) : Prop := M.1 1 1 = nI T.2 ∧ T.2 ≤ 900 ∧ ∀ i, i < T.2 → T.1 i < 256 ∧ M.1 2 i = nI (T.1 i)
def TPr (T : tx) (M : px_Mem) : Prop := M.1 56 7 = nI T.2 ∧ T.2 ≤ 900 ∧ ∀ i, i < T.2 → T.1 i < 256 ∧ M.1 60 i = (nI (T.1 i)).toInt8.toInt32
def CT (k : tkn) (M : px_Mem) : Prop := M.1 3 4 = nI k.1 ∧ M.1 3 3 = nI k.2.1 ∧ M.1 3 5 = nI k.2.2.1 ∧ M.1 3 6 = (if k.2.1 = 2 then nI (min k.2.2.2 1000) else -1)
def RT (k : tkn) (M : px_Mem) : Prop := M.1 56 9 = nI k.1 ∧ M.1 56 10 = nI k.2.1 ∧ M.1 56 8 = nI k.2.2.1 ∧ (k.2.1 = 2 → M.1 56 11 = nI (min k.2.2.2 99999))
def TW (T : tx) (k : tkn) : Prop := k.1 ≤ k.2.2.1 ∧ k.2.2.1 ≤ T.2 ∧ k.2.1 ≤ 4
def rd_fr (M M' : px_Mem) : Prop := (∀ a, a ≠ 3 → M'.1 a = M.1 a) ∧ (∀ i, (i < 3 ∨ 6 < i) → M'.1 3 i = M.1 3 i) ∧ M'.2 = M.2
def rr_fr (M M' : px_Mem) : Prop := (∀ a, a ≠ 56 → M'.1 a = M.1 a) ∧ (∀ i, (i < 8 ∨ 11 < i) → M'.1 56 i = M.1 56 i) ∧ M'.2 = M.2
section T74
variable {M : px_Mem} {Q : px_Po} {T : tx}
theorem rd_rf : rd_fr M M := ⟨fun _ _ => rfl, fun _ _ => rfl, rfl⟩
theorem rd_tr {M1 M2 : px_Mem} (h : rd_fr M M1) (h2 : rd_fr M1 M2) : rd_fr M M2 := ⟨fun a p => (h2.1 a p).trans (h.1 a p), fun i p => (h2.2.1 i p).trans (h.2.1 i p), h2.2.2.trans h.2.2⟩
theorem rr_rf : rr_fr M M := ⟨fun _ _ => rfl, fun _ _ => rfl, rfl⟩
theorem rr_tr {M1 M2 : px_Mem} (h : rr_fr M M1) (h2 : rr_fr M1 M2) : rr_fr M M2 := ⟨fun a p => (h2.1 a p).trans (h.1 a p), fun i p => (h2.2.1 i p).trans (h.2.1 i p), h2.2.2.trans h.2.2⟩
theorem rd_I {M1 : px_Mem} {i : Nat} {x : Int32} (h : rd_fr M M1) (h1 : 3 ≤ i) (h2 : i ≤ 6) : rd_fr M (px_wI M1 3 i x) := ⟨fun a ha => by rw [me_Io ha]; exact h.1 a ha, fun j hj => by rw [me_Ii (by omega)]; exact h.2.1 j hj, h.2.2⟩
theorem rr_I {M1 : px_Mem} {i : Nat} {x : Int32} (h : rr_fr M M1) (h1 : 8 ≤ i) (h2 : i ≤ 11) : rr_fr M (px_wI M1 56 i x) := ⟨fun a ha => by rw [me_Io ha]; exact h.1 a ha, fun j hj => by rw [me_Ii (by omega)]; exact h.2.1 j hj, h.2.2⟩
theorem TPc_fr {M1 : px_Mem} (h : TPc T M) (k : rd_fr M M1) : TPc T M1 := by
  unfold TPc
  rw [k.1 1 (by omega), k.1 2 (by omega)]
  exact h
theorem TPr_fr {M1 : px_Mem} (h : TPr T M) (k : rr_fr M M1) : TPr T M1 := by
  unfold TPr
  rw [k.2.1 7 (by omega), k.1 60 (by omega)]
  exact h
theorem rnn_b {p : Nat → Bool} {v : Nat → Nat} : ∀ n i, i ≤ rnn p v n i ∧ rnn p v n i ≤ i + n
  | 0, i => ⟨Nat.le_refl _, Nat.le_refl _⟩
  | n + 1, i => by
    have := rnn_b (p := p) (v := v) n (i + 1)
    unfold rnn
    split <;> omega
theorem rne_b {p : Nat → Bool} {i : Nat} (h : i ≤ T.2) : i ≤ rne p T i ∧ rne p T i ≤ T.2 := by
  have := rnn_b (p := p) (v := T.1) (T.2 - i) i
  unfold rne
  omega
theorem rne_y {p : Nat → Bool} {i : Nat} (h : i < T.2) (hp : p (T.1 i) = true) : rne p T i = rne p T (i + 1) := by
  unfold rne
  rw [show T.2 - i = (T.2 - (i + 1)) + 1 by omega]
  show (if p (T.1 i) = true then _ else _) = _
  rw [if_pos hp]
theorem rne_n {p : Nat → Bool} {i : Nat} (h : i < T.2) (hp : p (T.1 i) = false) : rne p T i = i := by
  unfold rne
  rw [show T.2 - i = (T.2 - (i + 1)) + 1 by omega]
  show (if p (T.1 i) = true then _ else _) = _
  rw [if_neg (by rw [hp]; decide)]
theorem rne_e {p : Nat → Bool} {i : Nat} (h : T.2 ≤ i) : rne p T i = i := by
  unfold rne
  rw [show T.2 - i = 0 by omega]
  rfl
theorem stq_w {st : Nat} (h : st ≤ T.2) : TW T (stq T st) := by
  unfold stq TW
  split
  · split
    · have := rne_b (p := isLt) h
      exact ⟨this.1, this.2, by show 1 ≤ 4; omega⟩
    · split
      · have := rne_b (p := isDg) h
        exact ⟨this.1, this.2, by show 2 ≤ 4; omega⟩
      · exact ⟨by show st ≤ st + 1; omega, by show st + 1 ≤ T.2; omega, by show (if T.1 st = 59 then 3 else 4) ≤ 4; split <;> omega⟩
  · exact ⟨by show st ≤ st; omega, h, by show 0 ≤ 4; omega⟩
theorem stp_w {sp : Nat} (h : sp ≤ T.2) : TW T (stp T sp) := stq_w (rne_b (p := isBl) h).2
/-! the class -/
theorem sc_59 (P : TPc T M) {i : Nat} (hi : i < T.2) (h : Q (some (.int (nI (T.1 i)))) M) : px_T 0 59 0 [some (.ref 1), some (.int (nI i))] [] M Q := by
  obtain ⟨p1, p2, p3⟩ := P
  refine sg_59_0 (fun c => ?_) (fun _ c => ?_) (fun _ _ => me_vin (by omega) (by omega)) (fun _ _ => ?_)
  · simp (disch := omega) only [in_lt, in_le, in_eq, in_add, in_mul, in_sb, in_cl, in_bz, in_bo, in_mo, not_true_eq_false, not_false_eq_true, il_0, il_1, il_2, il_3, il_4, il_5, il_6, il_7, il_8, il_9, il_10, il_11, il_12, il_13, il_14, il_15, il_16, il_31] at c
    omega
  · rw [p1, in_le (by omega) (by omega)] at c
    omega
  · rw [in_cl (by omega), (p3 i hi).2]
    exact h
theorem sc_33 {c : Nat} (hc : c < 256) (h : Q (some (.int (in_b (isBl c)))) M) : px_T 0 33 0 [some (.int (nI c))] [] M Q := by
  unfold isBl at h
  refine sg_33_0 (fun q => ?_) (fun q r => ?_) (fun q r => ?_)
  · rw [show (32 : Int32) = nI 32 from rfl, in_eq (by omega) (by omega)] at q
    rw [decide_eq_true q] at h
    exact h
  · rw [show (32 : Int32) = nI 32 from rfl, in_eq (by omega) (by omega)] at q
    rw [show (10 : Int32) = nI 10 from rfl, in_eq (by omega) (by omega)] at r
    rw [decide_eq_false q, decide_eq_true r] at h
    exact h
  · rw [show (32 : Int32) = nI 32 from rfl, in_eq (by omega) (by omega)] at q
    rw [show (10 : Int32) = nI 10 from rfl, in_eq (by omega) (by omega)] at r
    rw [decide_eq_false q, decide_eq_false r] at h
    exact h
theorem sc_34 {c : Nat} (hc : c < 256) (h : Q (some (.int (in_b (isLt c)))) M) : px_T 0 34 0 [some (.int (nI c))] [] M Q := by
  unfold isLt at h
  refine sg_34_0 (fun q => ?_) (fun q r => ?_) (fun q r => ?_)
  · rw [show (97 : Int32) = nI 97 from rfl, in_lt (by omega) (by omega)] at q
    rw [decide_eq_false (show ¬ 97 ≤ c by omega)] at h
    exact h
  · rw [show (97 : Int32) = nI 97 from rfl, in_lt (by omega) (by omega)] at q
    rw [show (122 : Int32) = nI 122 from rfl, in_lt (by omega) (by omega)] at r
    rw [decide_eq_false (show ¬ c ≤ 122 by omega), Bool.and_false] at h
    exact h
  · rw [show (97 : Int32) = nI 97 from rfl, in_lt (by omega) (by omega)] at q
    rw [show (122 : Int32) = nI 122 from rfl, in_lt (by omega) (by omega)] at r
    rw [decide_eq_true (show 97 ≤ c by omega), decide_eq_true (show c ≤ 122 by omega)] at h
    exact h
theorem sc_35 {c : Nat} (hc : c < 256) (h : Q (some (.int (in_b (isDg c)))) M) : px_T 0 35 0 [some (.int (nI c))] [] M Q := by
  unfold isDg at h
  refine sg_35_0 (fun q => ?_) (fun q r => ?_) (fun q r => ?_)
  · rw [show (48 : Int32) = nI 48 from rfl, in_lt (by omega) (by omega)] at q
    rw [decide_eq_false (show ¬ 48 ≤ c by omega)] at h
    exact h
  · rw [show (48 : Int32) = nI 48 from rfl, in_lt (by omega) (by omega)] at q
    rw [show (57 : Int32) = nI 57 from rfl, in_lt (by omega) (by omega)] at r
    rw [decide_eq_false (show ¬ c ≤ 57 by omega), Bool.and_false] at h
    exact h
  · rw [show (48 : Int32) = nI 48 from rfl, in_lt (by omega) (by omega)] at q
    rw [show (57 : Int32) = nI 57 from rfl, in_lt (by omega) (by omega)] at r
    rw [decide_eq_true (show 48 ≤ c by omega), decide_eq_true (show c ≤ 57 by omega)] at h
    exact h
theorem sc_31 (P : TPc T M) {i : Nat} (hi : i ≤ T.2) (h5 : M.1 3 5 = nI i) (h : ∀ M', rd_fr M M' → M'.1 3 4 = M.1 3 4 → M'.1 3 6 = M.1 3 6 → M'.1 3 3 = 1 → M'.1 3 5 = nI (rne isLt T i) → Q none M') : px_T 0 31 0 [some (.ref 3)] [] M Q := by
  have hl : ∀ (n i : Nat) (N : px_Mem), i + n = T.2 → rd_fr M N → N.1 3 4 = M.1 3 4 → N.1 3 6 = M.1 3 6 → N.1 3 3 = 1 → N.1 3 5 = nI i → (∀ M', rd_fr M M' → M'.1 3 4 = M.1 3 4 → M'.1 3 6 = M.1 3 6 → M'.1 3 3 = 1 → M'.1 3 5 = nI (rne isLt T i) → Q none M') → px_T 0 31 5 [some (.ref 3)] [] N Q := by
    intro n
    induction n with
    | zero =>
      intro i N hi hf f4 f6 f3 f5 h
      have P1 := TPc_fr P hf
      have hc : N.1 1 1 ≤ N.1 3 5 := by rw [P1.1, f5, in_le (by have := P.2.1; omega) (by have := P.2.1; omega)]; omega
      refine sg_31_5 (fun _ => h N hf f4 f6 f3 ?_) (fun q => absurd hc q)
      rw [rne_e (by omega)]
      exact f5
    | succ n ih =>
      intro i N hi hf f4 f6 f3 f5 h
      have P1 := TPc_fr P hf
      have hp := P.2.1
      have hc : ¬ N.1 1 1 ≤ N.1 3 5 := by rw [P1.1, f5, in_le (by omega) (by omega)]; omega
      have hv := (P.2.2 i (by omega)).1
      refine sg_31_5 (fun q => absurd q hc) (fun _ => ?_)
      rw [f5]
      refine sc_59 P1 (by omega) (sg_31_30 (sc_34 hv (sg_31_33 (fun c => ?_) (fun c => ?_))))
      · rw [in_b0] at c
        refine h N hf f4 f6 f3 ?_
        rw [rne_n (by omega) c]
        exact f5
      · rw [in_b0, Bool.not_eq_false] at c
        rw [f5, in_a1]
        rw [rne_y (by omega) c] at h
        refine ih (i + 1) _ (by omega) (rd_I hf (by omega) (by omega)) ?_ ?_ ?_ ?_ h
        · simp (disch := omega) only [me_II, me_Ii, me_Io, me_I2, me_L1, me_Li, me_LL, me_Lo, me_As, me_Ao, me_A2, me_Bs, me_Bo, me_B1]; exact f4
        · simp (disch := omega) only [me_II, me_Ii, me_Io, me_I2, me_L1, me_Li, me_LL, me_Lo, me_As, me_Ao, me_A2, me_Bs, me_Bo, me_B1]; exact f6
        · simp (disch := omega) only [me_II, me_Ii, me_Io, me_I2, me_L1, me_Li, me_LL, me_Lo, me_As, me_Ao, me_A2, me_Bs, me_Bo, me_B1]; exact f3
        · simp (disch := omega) only [me_II, me_Ii, me_Io, me_I2, me_L1, me_Li, me_LL, me_Lo, me_As, me_Ao, me_A2, me_Bs, me_Bo, me_B1]
  refine sg_31_0 (hl (T.2 - i) i _ (by omega) (rd_I rd_rf (by omega) (by omega)) ?_ ?_ ?_ ?_ h)
  · simp (disch := omega) only [me_II, me_Ii, me_Io, me_I2, me_L1, me_Li, me_LL, me_Lo, me_As, me_Ao, me_A2, me_Bs, me_Bo, me_B1]
  · simp (disch := omega) only [me_II, me_Ii, me_Io, me_I2, me_L1, me_Li, me_LL, me_Lo, me_As, me_Ao, me_A2, me_Bs, me_Bo, me_B1]
  · simp (disch := omega) only [me_II, me_Ii, me_Io, me_I2, me_L1, me_Li, me_LL, me_Lo, me_As, me_Ao, me_A2, me_Bs, me_Bo, me_B1]
  · simp (disch := omega) only [me_II, me_Ii, me_Io, me_I2, me_L1, me_Li, me_LL, me_Lo, me_As, me_Ao, me_A2, me_Bs, me_Bo, me_B1]; exact h5
theorem min_10 (H a d : Nat) (h1 : 1 ≤ H) (hd : d ≤ 9) : min H (10 * min H a + d) = min H (10 * a + d) := by
  omega
theorem sc_32 (P : TPc T M) {i : Nat} (hi : i ≤ T.2) (h5 : M.1 3 5 = nI i) (h : ∀ M', rd_fr M M' → M'.1 3 4 = M.1 3 4 → M'.1 3 6 = nI (min (nvl T.1 (T.2 - i) i 0) 1000) → M'.1 3 3 = 2 → M'.1 3 5 = nI (rne isDg T i) → Q none M') : px_T 0 32 0 [some (.ref 3)] [] M Q := by
  have hl : ∀ (n i a : Nat) (N : px_Mem), i + n = T.2 → rd_fr M N → N.1 3 4 = M.1 3 4 → N.1 3 6 = nI (min a 1000) → N.1 3 3 = 2 → N.1 3 5 = nI i → (∀ M', rd_fr M M' → M'.1 3 4 = M.1 3 4 → M'.1 3 6 = nI (min (nvl T.1 (T.2 - i) i a) 1000) → M'.1 3 3 = 2 → M'.1 3 5 = nI (rne isDg T i) → Q none M') → px_T 0 32 10 [some (.ref 3)] [] N Q := by
    intro n
    induction n with
    | zero =>
      intro i a N hi hf f4 f6 f3 f5 h
      have P1 := TPc_fr P hf
      have hc : N.1 1 1 ≤ N.1 3 5 := by rw [P1.1, f5, in_le (by have := P.2.1; omega) (by have := P.2.1; omega)]; omega
      refine sg_32_10 (fun _ => h N hf f4 ?_ f3 ?_) (fun q => absurd hc q)
      · rw [show T.2 - i = 0 by omega]
        exact f6
      · rw [rne_e (by omega)]
        exact f5
    | succ n ih =>
      intro i a N hi hf f4 f6 f3 f5 h
      have P1 := TPc_fr P hf
      have hp := P.2.1
      have hc : ¬ N.1 1 1 ≤ N.1 3 5 := by rw [P1.1, f5, in_le (by omega) (by omega)]; omega
      have hv := (P.2.2 i (by omega)).1
      have env : nvl T.1 (T.2 - i) i a = if isDg (T.1 i) = true then nvl T.1 (T.2 - (i + 1)) (i + 1) (10 * a + (T.1 i - 48)) else a := by
        rw [show T.2 - i = (T.2 - (i + 1)) + 1 by omega]
        rfl
      refine sg_32_10 (fun q => absurd q hc) (fun _ => ?_)
      rw [f5]
      refine sc_59 P1 (by omega) (sg_32_35 (sc_35 hv (sg_32_38 (fun c => ?_) (fun c => ?_))))
      · rw [in_b0] at c
        rw [if_neg (by rw [c]; decide)] at env
        refine h N hf f4 ?_ f3 ?_
        · rw [env]
          exact f6
        · rw [rne_n (by omega) c]
          exact f5
      · rw [in_b0, Bool.not_eq_false] at c
        rw [if_pos c] at env
        rw [env, rne_y (by omega) c] at h
        have hd : 48 ≤ T.1 i ∧ T.1 i ≤ 57 := by
          unfold isDg at c
          rw [Bool.and_eq_true] at c
          exact ⟨of_decide_eq_true c.1, of_decide_eq_true c.2⟩
        rw [f5]
        refine sc_59 P1 (by omega) (sg_32_63 ?_)
        have ev : (if (10 * N.1 3 6 + nI (T.1 i)) - 48 < (1000 : Int32) then (10 * N.1 3 6 + nI (T.1 i)) - 48 else 1000) = nI (min (10 * a + (T.1 i - 48)) 1000) := by
          rw [f6, il_10, show (48 : Int32) = nI 48 from rfl, show (1000 : Int32) = nI 1000 from rfl, in_mul, in_add, in_sb (by omega)]
          have h8 := min_10 1000 a (T.1 i - 48) (by omega) (by omega)
          by_cases hlt : 10 * min a 1000 + T.1 i - 48 < 1000
          · rw [if_pos (by rw [in_lt (by omega) (by omega)]; exact hlt)]
            congr 1
            omega
          · rw [if_neg (by rw [in_lt (by omega) (by omega)]; exact hlt)]
            congr 1
            omega
        rw [ev]
        have g5 : (px_wI N 3 6 (nI (min (10 * a + (T.1 i - 48)) 1000))).1 3 5 = nI i := by simp (disch := omega) only [me_II, me_Ii, me_Io, me_I2, me_L1, me_Li, me_LL, me_Lo, me_As, me_Ao, me_A2, me_Bs, me_Bo, me_B1]; exact f5
        rw [f5, in_a1]
        refine ih (i + 1) (10 * a + (T.1 i - 48)) _ (by omega) (rd_I (rd_I hf (by omega) (by omega)) (by omega) (by omega)) ?_ ?_ ?_ ?_ h
        · simp (disch := omega) only [me_II, me_Ii, me_Io, me_I2, me_L1, me_Li, me_LL, me_Lo, me_As, me_Ao, me_A2, me_Bs, me_Bo, me_B1]; exact f4
        · simp (disch := omega) only [me_II, me_Ii, me_Io, me_I2, me_L1, me_Li, me_LL, me_Lo, me_As, me_Ao, me_A2, me_Bs, me_Bo, me_B1]
        · simp (disch := omega) only [me_II, me_Ii, me_Io, me_I2, me_L1, me_Li, me_LL, me_Lo, me_As, me_Ao, me_A2, me_Bs, me_Bo, me_B1]; exact f3
        · simp (disch := omega) only [me_II, me_Ii, me_Io, me_I2, me_L1, me_Li, me_LL, me_Lo, me_As, me_Ao, me_A2, me_Bs, me_Bo, me_B1]
  refine sg_32_0 (hl (T.2 - i) i 0 _ (by omega) (rd_I (rd_I rd_rf (by omega) (by omega)) (by omega) (by omega)) ?_ ?_ ?_ ?_ h)
  · simp (disch := omega) only [me_II, me_Ii, me_Io, me_I2, me_L1, me_Li, me_LL, me_Lo, me_As, me_Ao, me_A2, me_Bs, me_Bo, me_B1]
  · simp (disch := omega) only [me_II, me_Ii, me_Io, me_I2, me_L1, me_Li, me_LL, me_Lo, me_As, me_Ao, me_A2, me_Bs, me_Bo, me_B1]; rfl
  · simp (disch := omega) only [me_II, me_Ii, me_Io, me_I2, me_L1, me_Li, me_LL, me_Lo, me_As, me_Ao, me_A2, me_Bs, me_Bo, me_B1]
  · simp (disch := omega) only [me_II, me_Ii, me_Io, me_I2, me_L1, me_Li, me_LL, me_Lo, me_As, me_Ao, me_A2, me_Bs, me_Bo, me_B1]; exact h5
theorem sc_30 (P : TPc T M) {sp : Nat} (hs : sp ≤ T.2) (h5 : M.1 3 5 = nI sp) (h : ∀ M', rd_fr M M' → CT (stp T sp) M' → Q none M') : px_T 0 30 0 [some (.ref 3)] [] M Q := by
  have hp := P.2.1
  have hl : ∀ (n st : Nat) (N : px_Mem), st + n = T.2 → rd_fr M N → N.1 3 4 = nI st → (∀ M', rd_fr M M' → CT (stq T (rne isBl T st)) M' → Q none M') → px_T 0 30 8 [some (.ref 3)] [] N Q := by
    intro n
    induction n with
    | zero =>
      intro st N hst hf f4 h
      have P1 := TPc_fr P hf
      have hc : N.1 1 1 ≤ N.1 3 4 := by rw [P1.1, f4, in_le (by omega) (by omega)]; omega
      have hc2 : ¬ N.1 3 4 < N.1 1 1 := by rw [P1.1, f4, in_lt (by omega) (by omega)]; omega
      rw [rne_e (by omega)] at h
      refine sg_30_8 (fun _ q => absurd q hc2) (fun _ _ => h _ (rd_I (rd_I (rd_I hf (by omega) (by omega)) (by omega) (by omega)) (by omega) (by omega)) ?_) (fun q => absurd hc q)
      unfold stq
      rw [if_neg (by omega)]
      refine ⟨?_, ?_, ?_, ?_⟩
      · simp (disch := omega) only [me_II, me_Ii, me_Io, me_I2, me_L1, me_Li, me_LL, me_Lo, me_As, me_Ao, me_A2, me_Bs, me_Bo, me_B1]; exact f4
      · simp (disch := omega) only [me_II, me_Ii, me_Io, me_I2, me_L1, me_Li, me_LL, me_Lo, me_As, me_Ao, me_A2, me_Bs, me_Bo, me_B1]; rfl
      · simp (disch := omega) only [me_II, me_Ii, me_Io, me_I2, me_L1, me_Li, me_LL, me_Lo, me_As, me_Ao, me_A2, me_Bs, me_Bo, me_B1]; exact f4
      · simp (disch := omega) only [me_II, me_Ii, me_Io, me_I2, me_L1, me_Li, me_LL, me_Lo, me_As, me_Ao, me_A2, me_Bs, me_Bo, me_B1]; rfl
    | succ n ih =>
      intro st N hst hf f4 h
      have P1 := TPc_fr P hf
      have hc : ¬ N.1 1 1 ≤ N.1 3 4 := by rw [P1.1, f4, in_le (by omega) (by omega)]; omega
      have hc2 : N.1 3 4 < N.1 1 1 := by rw [P1.1, f4, in_lt (by omega) (by omega)]; omega
      have hv := (P.2.2 st (by omega)).1
      refine sg_30_8 (fun q => absurd q hc) (fun q => absurd q hc) (fun _ => ?_)
      rw [f4]
      refine sc_59 P1 (by omega) (sg_30_33 (sc_33 hv (sg_30_36 (fun c _ => ?_) (fun _ q => absurd hc2 q) (fun c => ?_))))
      · rw [in_b0] at c
        rw [rne_n (by omega) c] at h
        have esq : stq T st = if isLt (T.1 st) = true then (st, 1, rne isLt T st, 0) else if isDg (T.1 st) = true then (st, 2, rne isDg T st, nvl T.1 (T.2 - st) st 0) else (st, if T.1 st = 59 then 3 else 4, st + 1, 0) := by
          unfold stq
          rw [if_pos (by omega)]
        rw [esq] at h
        rw [f4]
        have hf2 : rd_fr M (px_wI (px_wI N 3 5 (nI st)) 3 6 (-1)) := rd_I (rd_I hf (by omega) (by omega)) (by omega) (by omega)
        have P2 := TPc_fr P hf2
        have g4 : (px_wI (px_wI N 3 5 (nI st)) 3 6 (-1)).1 3 4 = nI st := by simp (disch := omega) only [me_II, me_Ii, me_Io, me_I2, me_L1, me_Li, me_LL, me_Lo, me_As, me_Ao, me_A2, me_Bs, me_Bo, me_B1]; exact f4
        have g5 : (px_wI (px_wI N 3 5 (nI st)) 3 6 (-1)).1 3 5 = nI st := by simp (disch := omega) only [me_II, me_Ii, me_Io, me_I2, me_L1, me_Li, me_LL, me_Lo, me_As, me_Ao, me_A2, me_Bs, me_Bo, me_B1]
        have g6 : (px_wI (px_wI N 3 5 (nI st)) 3 6 (-1)).1 3 6 = -1 := by simp (disch := omega) only [me_II, me_Ii, me_Io, me_I2, me_L1, me_Li, me_LL, me_Lo, me_As, me_Ao, me_A2, me_Bs, me_Bo, me_B1]
        generalize px_wI (px_wI N 3 5 (nI st)) 3 6 (-1) = N2 at hf2 P2 g4 g5 g6 ⊢
        refine sc_59 P2 (by omega) (sg_30_98 (sc_34 hv (sg_30_101 (fun d => ?_) (fun d => ?_))))
        · rw [in_b0] at d
          rw [if_neg (by rw [d]; decide)] at h
          rw [g4]
          refine sc_59 P2 (by omega) (sg_30_122 (sc_35 hv (sg_30_125 (fun e => ?_) (fun e => ?_))))
          · rw [in_b0] at e
            rw [if_neg (by rw [e]; decide)] at h
            rw [g4]
            refine sc_59 P2 (by omega) (sg_30_147 (fun q => ?_) (fun q => ?_))
            · rw [show (59 : Int32) = nI 59 from rfl, in_eq (by omega) (by omega)] at q
              rw [if_pos q] at h
              rw [g4, in_a1]
              refine h _ (rd_I (rd_I hf2 (by omega) (by omega)) (by omega) (by omega)) ⟨?_, ?_, ?_, ?_⟩
              · simp (disch := omega) only [me_II, me_Ii, me_Io, me_I2, me_L1, me_Li, me_LL, me_Lo, me_As, me_Ao, me_A2, me_Bs, me_Bo, me_B1]; exact g4
              · simp (disch := omega) only [me_II, me_Ii, me_Io, me_I2, me_L1, me_Li, me_LL, me_Lo, me_As, me_Ao, me_A2, me_Bs, me_Bo, me_B1]; rfl
              · simp (disch := omega) only [me_II, me_Ii, me_Io, me_I2, me_L1, me_Li, me_LL, me_Lo, me_As, me_Ao, me_A2, me_Bs, me_Bo, me_B1]
              · simp (disch := omega) only [me_II, me_Ii, me_Io, me_I2, me_L1, me_Li, me_LL, me_Lo, me_As, me_Ao, me_A2, me_Bs, me_Bo, me_B1]; exact g6
            · rw [show (59 : Int32) = nI 59 from rfl, in_eq (by omega) (by omega)] at q
              rw [if_neg q] at h
              rw [g4, in_a1]
              refine h _ (rd_I (rd_I hf2 (by omega) (by omega)) (by omega) (by omega)) ⟨?_, ?_, ?_, ?_⟩
              · simp (disch := omega) only [me_II, me_Ii, me_Io, me_I2, me_L1, me_Li, me_LL, me_Lo, me_As, me_Ao, me_A2, me_Bs, me_Bo, me_B1]; exact g4
              · simp (disch := omega) only [me_II, me_Ii, me_Io, me_I2, me_L1, me_Li, me_LL, me_Lo, me_As, me_Ao, me_A2, me_Bs, me_Bo, me_B1]; rfl
              · simp (disch := omega) only [me_II, me_Ii, me_Io, me_I2, me_L1, me_Li, me_LL, me_Lo, me_As, me_Ao, me_A2, me_Bs, me_Bo, me_B1]
              · simp (disch := omega) only [me_II, me_Ii, me_Io, me_I2, me_L1, me_Li, me_LL, me_Lo, me_As, me_Ao, me_A2, me_Bs, me_Bo, me_B1]; exact g6
          · rw [in_b0, Bool.not_eq_false] at e
            rw [if_pos e] at h
            refine sc_32 P2 (by omega) g5 (fun M3 k1 k2 k3 k4 k5 => sg_30_132 (h M3 (rd_tr hf2 k1) ⟨?_, ?_, k5, ?_⟩))
            · rw [k2]; exact g4
            · rw [k4]; rfl
            · rw [if_pos rfl]; exact k3
        · rw [in_b0, Bool.not_eq_false] at d
          rw [if_pos d] at h
          refine sc_31 P2 (by omega) g5 (fun M3 k1 k2 k3 k4 k5 => sg_30_108 (h M3 (rd_tr hf2 k1) ⟨?_, ?_, k5, ?_⟩))
          · rw [k2]; exact g4
          · rw [k4]; rfl
          · rw [if_neg (show ¬ (1 : Nat) = 2 by decide), k3]; exact g6
      · rw [in_b0, Bool.not_eq_false] at c
        rw [rne_y (by omega) c] at h
        rw [f4, in_a1]
        exact ih (st + 1) _ (by omega) (rd_I hf (by omega) (by omega)) (by simp (disch := omega) only [me_II, me_Ii, me_Io, me_I2, me_L1, me_Li, me_LL, me_Lo, me_As, me_Ao, me_A2, me_Bs, me_Bo, me_B1]) h
  refine sg_30_0 ?_
  rw [h5]
  exact hl (T.2 - sp) sp _ (by omega) (rd_I rd_rf (by omega) (by omega)) (by simp (disch := omega) only [me_II, me_Ii, me_Io, me_I2, me_L1, me_Li, me_LL, me_Lo, me_As, me_Ao, me_A2, me_Bs, me_Bo, me_B1]) h
end T74
