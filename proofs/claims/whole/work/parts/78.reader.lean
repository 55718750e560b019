/-! reading a system: what is read, and the class's reader -/
abbrev flt : Type := Option (Nat × Nat)
def blm (f : flt) (c p : Nat) : flt := match f with
  | none => some (c, p)
  | some x => some x
def kt (T : tx) (k : tkn) : Nat → tkn
  | 0 => k
  | n + 1 => stp T (kt T k n).2.2.1
def nfl (f : flt) (k : tkn) (lo hi : Nat) : flt := if k.2.1 = 2 then (if lo ≤ k.2.2.2 ∧ k.2.2.2 ≤ hi then f else blm f 2 k.1) else blm f 1 k.1
def wfl (T : tx) (f : flt) (k : tkn) (w : Nat) : flt := if isW T k w = true then f else blm f 1 k.1
def sfl (f : flt) (k : tkn) : flt := if k.2.1 = 3 then f else blm f 1 k.1
def kx (T : tx) (k : tkn) : Nat := fa_first (fun j => isW T k j) 10
def fNm (T : tx) (k : tkn) (c : Nat) : Nat → flt
  | 0 => none
  | n + 1 => nfl (fNm T k c n) (kt T k (n + 1)) (lsN c (n + 1)) (msN c (n + 1))
def fEvc (T : tx) (k : tkn) (told c : Nat) : flt := if c = 10 then some (1, k.1) else if told = 40 then some (3, k.1) else sfl (fNm T k c (nbk c)) (kt T k (nbk c + 1))
def fEv (T : tx) (k : tkn) (told : Nat) : flt := fEvc T k told (kx T k)
def nvg (c : Nat) (v : Nat → Nat) (w : Nat) : Nat := if w ≤ nbk c then v w else 0
def evg (c : Nat) (v : Nat → Nat) : ws_E := (c, nvg c v 1, nvg c v 2, nvg c v 3)
def vls (T : tx) (k : tkn) (w : Nat) : Nat := (kt T k w).2.2.2
def eEv (T : tx) (k : tkn) : ws_E := evg (kx T k) (vls T k)
def fHd (T : tx) (k : tkn) : flt := sfl (nfl (wfl T (nfl (wfl T (wfl T none k 11) (kt T k 1) 12) (kt T k 2) 0 3) (kt T k 3) 13) (kt T k 4) 0 10) (kt T k 5)
def FC (f : flt) (M : px_Mem) : Prop := match f with
  | none => M.1 3 1 = 0 ∧ M.1 3 2 = -1
  | some x => x.1 ≠ 0 ∧ x.1 ≤ 3 ∧ x.2 ≤ 900 ∧ M.1 3 1 = nI x.1 ∧ M.1 3 2 = nI x.2
def CS (T : tx) (k : tkn) (f : flt) (M : px_Mem) : Prop := TPc T M ∧ CT k M ∧ TW T k ∧ iv_ro M ∧ FC f M
/-- only the reader's fields are changed -/
def r2_fr (M M' : px_Mem) : Prop := (∀ a, a ≠ 3 → M'.1 a = M.1 a) ∧ M'.2 = M.2
section R78
variable {M : px_Mem} {Q : px_Po} {T : tx} {k : tkn} {f : flt}
theorem r2_rf : r2_fr M M := ⟨fun _ _ => rfl, rfl⟩
theorem r2_tr {M1 M2 : px_Mem} (h : r2_fr M M1) (h2 : r2_fr M1 M2) : r2_fr M M2 := ⟨fun a p => (h2.1 a p).trans (h.1 a p), h2.2.trans h.2⟩
theorem r2_rd {M1 : px_Mem} (h : rd_fr M M1) : r2_fr M M1 := ⟨h.1, h.2.2⟩
theorem FC_fr {M1 : px_Mem} (h : FC f M) (h1 : M1.1 3 1 = M.1 3 1) (h2 : M1.1 3 2 = M.1 3 2) : FC f M1 := by
  cases f with
  | none => exact ⟨h1.trans h.1, h2.trans h.2⟩
  | some x => exact ⟨h.1, h.2.1, h.2.2.1, h1.trans h.2.2.2.1, h2.trans h.2.2.2.2⟩
theorem CS_k (S : CS T k f M) : k.1 ≤ 900 ∧ k.2.2.1 ≤ 900 ∧ k.2.1 ≤ 4 ∧ k.2.2.1 ≤ T.2 := by
  have h1 := S.1.2.1
  have h2 := S.2.2.1
  unfold TW at h2
  omega
/-- step -/
theorem cs_30 (S : CS T k f M) (h : ∀ M', r2_fr M M' → CS T (stp T k.2.2.1) f M' → Q none M') : px_T 0 30 0 [some (.ref 3)] [] M Q := by
  have hk := CS_k S
  obtain ⟨P, K, W, Ro, F⟩ := S
  refine sc_30 P hk.2.2.2 K.2.2.1 (fun M1 k1 K1 => h M1 (r2_rd k1) ⟨TPc_fr P k1, K1, stp_w hk.2.2.2, iv_ro_fr Ro (fun a ha => k1.1 a (by omega)), FC_fr F (k1.2.1 1 (by omega)) (k1.2.1 2 (by omega))⟩)
/-- blame -/
theorem cs_28 (S : CS T k f M) {c : Nat} (h1 : c ≠ 0) (h3 : c ≤ 3) (h : ∀ M', r2_fr M M' → M'.1 3 6 = M.1 3 6 → CS T k (blm f c k.1) M' → Q none M') : px_T 0 28 0 [some (.ref 3), some (.int (nI c))] [] M Q := by
  have hk := CS_k S
  have S0 := S
  obtain ⟨P, K, W, Ro, F⟩ := S
  cases f with
  | none =>
    have f1 : M.1 3 1 = 0 := F.1
    refine sg_28_0 (fun _ => ?_) (fun q => absurd f1 q)
    rw [K.1]
    have hf : r2_fr M (px_wI (px_wI M 3 1 (nI c)) 3 2 (nI k.1)) := ⟨fun a ha => by simp (disch := omega) only [me_II, me_Ii, me_Io, me_I2, me_L1, me_Li, me_LL, me_Lo, me_As, me_Ao, me_A2, me_Bs, me_Bo, me_B1], rfl⟩
    refine h _ hf (by simp (disch := omega) only [me_II, me_Ii, me_Io, me_I2, me_L1, me_Li, me_LL, me_Lo, me_As, me_Ao, me_A2, me_Bs, me_Bo, me_B1]) ⟨?_, ?_, W, iv_ro_fr Ro (fun a ha => hf.1 a (by omega)), ⟨h1, h3, by show k.1 ≤ 900; omega, by simp (disch := omega) only [me_II, me_Ii, me_Io, me_I2, me_L1, me_Li, me_LL, me_Lo, me_As, me_Ao, me_A2, me_Bs, me_Bo, me_B1], by simp (disch := omega) only [me_II, me_Ii, me_Io, me_I2, me_L1, me_Li, me_LL, me_Lo, me_As, me_Ao, me_A2, me_Bs, me_Bo, me_B1]⟩⟩
    · unfold TPc
      rw [hf.1 1 (by omega), hf.1 2 (by omega)]
      exact P
    · obtain ⟨a1, a2, a3, a4⟩ := K
      refine ⟨?_, ?_, ?_, ?_⟩
      · simp (disch := omega) only [me_II, me_Ii, me_Io, me_I2, me_L1, me_Li, me_LL, me_Lo, me_As, me_Ao, me_A2, me_Bs, me_Bo, me_B1]; exact a1
      · simp (disch := omega) only [me_II, me_Ii, me_Io, me_I2, me_L1, me_Li, me_LL, me_Lo, me_As, me_Ao, me_A2, me_Bs, me_Bo, me_B1]; exact a2
      · simp (disch := omega) only [me_II, me_Ii, me_Io, me_I2, me_L1, me_Li, me_LL, me_Lo, me_As, me_Ao, me_A2, me_Bs, me_Bo, me_B1]; exact a3
      · simp (disch := omega) only [me_II, me_Ii, me_Io, me_I2, me_L1, me_Li, me_LL, me_Lo, me_As, me_Ao, me_A2, me_Bs, me_Bo, me_B1]; exact a4
  | some x =>
    have f1 : ¬ M.1 3 1 = 0 := by
      have e := F.2.2.2.1
      rw [e, show (0 : Int32) = nI 0 from rfl, in_eq (by have := F.2.1; omega) (by omega)]
      exact F.1
    exact sg_28_0 (fun q => absurd q f1) (fun _ => h M r2_rf rfl S0)
theorem cs_26 (S : CS T k f M) {w : Nat} (hw : w < 14) (h : ∀ M', r2_fr M M' → CS T (stp T k.2.2.1) (wfl T f k w) M' → Q none M') : px_T 0 26 0 [some (.ref 3), some (.ref (1100 + w))] [] M Q := by
  unfold wfl at h
  refine sg_26_0 (sc_29 S.2.2.2.1 S.1 S.2.1 S.2.2.1 hw (sg_26_5 (fun c => ?_) (fun c => ?_)))
  · rw [in_b0] at c
    rw [if_neg (by rw [c]; decide)] at h
    exact cs_28 (c := 1) S (by omega) (by omega) (fun M1 k1 _ S1 => sg_26_13 (cs_30 S1 (fun M2 k2 S2 => sg_26_17 (h M2 (r2_tr k1 k2) S2))))
  · rw [in_b0, Bool.not_eq_false] at c
    rw [if_pos c] at h
    exact cs_30 S (fun M2 k2 S2 => sg_26_17 (h M2 k2 S2))
theorem cs_27 (S : CS T k f M) (h : ∀ M', r2_fr M M' → CS T (stp T k.2.2.1) (sfl f k) M' → Q none M') : px_T 0 27 0 [some (.ref 3)] [] M Q := by
  have hk := CS_k S
  unfold sfl at h
  refine sg_27_0 (fun c => ?_) (fun c => ?_)
  · rw [S.2.1.2.1, show (3 : Int32) = nI 3 from rfl, in_eq (by omega) (by omega)] at c
    rw [if_pos c] at h
    exact cs_30 S (fun M2 k2 S2 => sg_27_17 (h M2 k2 S2))
  · rw [S.2.1.2.1, show (3 : Int32) = nI 3 from rfl, in_eq (by omega) (by omega)] at c
    rw [if_neg c] at h
    exact cs_28 (c := 1) S (by omega) (by omega) (fun M1 k1 _ S1 => sg_27_13 (cs_30 S1 (fun M2 k2 S2 => sg_27_17 (h M2 (r2_tr k1 k2) S2))))
theorem cs_25 (S : CS T k f M) {lo hi : Nat} (hh : hi ≤ 30) (hlo : lo ≤ 30) (h : ∀ (v : Int32) M', r2_fr M M' → CS T (stp T k.2.2.1) (nfl f k lo hi) M' → (nfl none k lo hi = none → v = nI k.2.2.2 ∧ k.2.2.2 ≤ hi ∧ lo ≤ k.2.2.2) → Q (some (.int v)) M') : px_T 0 25 0 [some (.ref 3), some (.int (nI lo)), some (.int (nI hi)), none] [] M Q := by
  have hk := CS_k S
  have k3 := S.2.1.2.1
  have k6 := S.2.1.2.2.2
  unfold nfl at h
  by_cases h2 : k.2.1 = 2
  · rw [if_pos h2] at k6
    rw [if_pos h2, if_pos h2] at h
    have e2 : M.1 3 3 = 2 := by rw [k3, h2]; rfl
    refine sg_25_0 (fun _ c => ?_) (fun _ c d => ?_) (fun _ c d => ?_) (fun q => absurd e2 q)
    · rw [k6, in_lt (by omega) (by omega)] at c
      have hn : ¬ (lo ≤ k.2.2.2 ∧ k.2.2.2 ≤ hi) := by omega
      rw [if_neg hn, if_neg hn] at h
      exact cs_28 (c := 2) S (by omega) (by omega) (fun M1 k1 _ S1 => sg_25_36 (cs_30 S1 (fun M2 k2 S2 => sg_25_40 (h _ M2 (r2_tr k1 k2) S2 (fun q => absurd q (by simp [blm]))))))
    · rw [k6, in_lt (by omega) (by omega)] at c
      rw [k6, in_le (by omega) (by omega)] at d
      have hn : lo ≤ k.2.2.2 ∧ k.2.2.2 ≤ hi := by omega
      rw [if_pos hn, if_pos hn] at h
      rw [k6]
      refine cs_30 S (fun M2 k2 S2 => sg_25_40 (h _ M2 k2 S2 (fun _ => ⟨?_, hn.2, hn.1⟩)))
      congr 1
      omega
    · rw [k6, in_lt (by omega) (by omega)] at c
      rw [k6, in_le (by omega) (by omega)] at d
      have hn : ¬ (lo ≤ k.2.2.2 ∧ k.2.2.2 ≤ hi) := by omega
      rw [if_neg hn, if_neg hn] at h
      exact cs_28 (c := 2) S (by omega) (by omega) (fun M1 k1 _ S1 => sg_25_36 (cs_30 S1 (fun M2 k2 S2 => sg_25_40 (h _ M2 (r2_tr k1 k2) S2 (fun q => absurd q (by simp [blm]))))))
  · rw [if_neg h2, if_neg h2] at h
    have e2 : ¬ M.1 3 3 = 2 := by rw [k3, show (2 : Int32) = nI 2 from rfl, in_eq (by omega) (by omega)]; exact h2
    refine sg_25_0 (fun q => absurd q e2) (fun q => absurd q e2) (fun q => absurd q e2) (fun _ => ?_)
    exact cs_28 (c := 1) S (by omega) (by omega) (fun M1 k1 _ S1 => sg_25_18 (cs_30 S1 (fun M2 k2 S2 => sg_25_40 (h _ M2 (r2_tr k1 k2) S2 (fun q => absurd q (by simp [blm]))))))
theorem sp_9 {j : Nat} (hj : j < 10) (h : Q (some (.ref (1100 + j))) M) : px_T 0 9 0 [some (.int (nI j))] [] M Q := by
  have h10 : j = 0 ∨ j = 1 ∨ j = 2 ∨ j = 3 ∨ j = 4 ∨ j = 5 ∨ j = 6 ∨ j = 7 ∨ j = 8 ∨ j = 9 := by omega
  refine sg_9_0 ?_
  have ne : ∀ a b : Nat, a < 10 → b < 10 → a ≠ b → ¬ nI a = nI b := fun a b h1 h2 h3 q => h3 (nI_ij (by omega) (by omega) q)
  rcases h10 with rfl | rfl | rfl | rfl | rfl | rfl | rfl | rfl | rfl | rfl <;>
    exact sg_9_1 (fun q => by first | exact sg_9_56 h | exact absurd q (by decide)) (fun q => by first | exact sg_9_59 h | exact absurd q (by decide)) (fun q => by first | exact sg_9_62 h | exact absurd q (by decide)) (fun q => by first | exact sg_9_65 h | exact absurd q (by decide)) (fun q => by first | exact sg_9_68 h | exact absurd q (by decide)) (fun q => by first | exact sg_9_71 h | exact absurd q (by decide)) (fun q => by first | exact sg_9_74 h | exact absurd q (by decide)) (fun q => by first | exact sg_9_77 h | exact absurd q (by decide)) (fun q => by first | exact sg_9_80 h | exact absurd q (by decide)) (fun q => by first | exact sg_9_83 h | exact absurd q (by decide)) (fun q0 q1 q2 q3 q4 q5 q6 q7 q8 q9 => by first | exact absurd rfl q0 | exact absurd rfl q1 | exact absurd rfl q2 | exact absurd rfl q3 | exact absurd rfl q4 | exact absurd rfl q5 | exact absurd rfl q6 | exact absurd rfl q7 | exact absurd rfl q8 | exact absurd rfl q9)
theorem fa_first_n {p : Nat → Bool} {n : Nat} (h : ∀ j, j < n → p j = false) : fa_first p n = n := by
  rcases Nat.lt_or_ge (fa_first p n) n with c | c
  · have h1 := fa_first_yes p n c
    rw [h _ c] at h1
    exact absurd h1 (by decide)
  · have := fa_first_le p n
    omega
theorem fa_first_at {p : Nat → Bool} {n i : Nat} (hi : i < n) (h : ∀ j, j < i → p j = false) (h2 : p i = true) : fa_first p n = i := by
  have h3 := fa_first_le p n
  rcases Nat.lt_trichotomy (fa_first p n) i with c | c | c
  · have h1 := fa_first_yes p n (by omega)
    rw [h _ c] at h1
    exact absurd h1 (by decide)
  · exact c
  · rw [fa_first_no p n i c] at h2
    exact absurd h2 (by decide)
theorem cs_24 (S : CS T k f M) (h : Q (some (.int (if kx T k < 10 then nI (kx T k) else -1))) M) : px_T 0 24 0 [some (.ref 3), none] [] M Q := by
  have lp : ∀ (n j : Nat), j + n = 10 → (∀ i, i < j → isW T k i = false) → px_T 0 24 2 [some (.ref 3), some (.int (nI j))] [] M Q := by
    intro n
    induction n with
    | zero =>
      intro j hj ha
      have e : j = 10 := by omega
      subst e
      refine sg_24_2 (fun _ => ?_) (fun c => absurd (by decide) c)
      have e1 : kx T k = 10 := fa_first_n ha
      rw [e1, if_neg (by omega)] at h
      exact h
    | succ n ih =>
      intro j hj ha
      refine sg_24_2 (fun c => ?_) (fun _ => sp_9 (by omega) (sg_24_13 (sc_29 S.2.2.2.1 S.1 S.2.1 S.2.2.1 (by omega) (sg_24_16 (fun c => ?_) (fun c => ?_)))))
      · simp (disch := omega) only [in_lt, in_le, in_eq, in_add, in_mul, in_sb, in_cl, in_bz, in_bo, in_mo, not_true_eq_false, not_false_eq_true, il_0, il_1, il_2, il_3, il_4, il_5, il_6, il_7, il_8, il_9, il_10, il_11, il_12, il_13, il_14, il_15, il_16, il_31] at c
        omega
      · rw [in_b0] at c
        rw [in_a1]
        refine ih (j + 1) (by omega) (fun i hi => ?_)
        by_cases e : i = j
        · rw [e]; exact c
        · exact ha i (by omega)
      · rw [in_b0, Bool.not_eq_false] at c
        have e1 : kx T k = j := fa_first_at (by omega) ha c
        rw [e1, if_pos (by omega)] at h
        exact h
  exact sg_24_0 (lp 10 0 (by omega) (fun i hi => absurd hi (Nat.not_lt_zero i)))
end R78
