/-! feed -/
theorem nar_by (x : Int32) : vp_nar .byte x = x.toInt8.toInt32 := rfl
theorem by_v (x : BitVec 32) (k : Nat) (hk : k ≤ 24) : (x >>> k &&& 255#32) = BitVec.ofNat 32 (x.toNat / 2 ^ k % 256) := by
  apply BitVec.eq_of_toNat_eq
  rw [BitVec.toNat_and, BitVec.toNat_ushiftRight, BitVec.toNat_ofNat, BitVec.toNat_ofNat, Nat.shiftRight_eq_div_pow, show 255 % 2 ^ 32 = 2 ^ 8 - 1 from rfl, Nat.and_two_pow_sub_one_eq_mod]
  omega
theorem by_w (x : BitVec 32) (k : Nat) (hk : k ≤ 24) : BitVec.setWidth 8 (BitVec.sshiftRight x k) = BitVec.setWidth 8 (BitVec.ofNat 32 (x.toNat / 2 ^ k % 256)) := by
  rw [← by_v x k hk]
  apply BitVec.eq_of_getLsbD_eq
  intro i hi
  rw [BitVec.getLsbD_setWidth, BitVec.getLsbD_setWidth, BitVec.getLsbD_and, BitVec.getLsbD_ushiftRight, BitVec.getLsbD_sshiftRight]
  have h1 : (255#32).getLsbD i = true := by
    have : ∀ i, i < 8 → (255#32).getLsbD i = true := by decide
    exact this i hi
  have h2 : decide (32 ≤ i) = false := decide_eq_false (by omega)
  rw [h1, if_pos (show k + i < 32 by omega), h2]
  simp
theorem by_x (x : BitVec 32) (k : Nat) (hk : k ≤ 24) : BitVec.signExtend 8 (BitVec.sshiftRight x k) = BitVec.signExtend 8 (BitVec.ofNat 32 (x.toNat / 2 ^ k % 256)) := by
  rw [BitVec.signExtend_eq_setWidth_of_le _ (by omega), BitVec.signExtend_eq_setWidth_of_le _ (by omega)]
  exact by_w x k hk
/-- the bytes of a number, as the class and as the reference keep them -/
def by_c (x : Int32) (j : Nat) : Int32 := (x.toUInt32 >>> ((nI (24 - 8 * j)).toUInt32 &&& Int32.toUInt32 31)).toInt32 &&& 255
def by_r (x : Int32) (j : Nat) : Int32 := (x >>> (nI (24 - 8 * j) &&& 31)).toInt8.toInt32
theorem by_e (x : Int32) {j : Nat} (hj : j < 4) : ∃ v : Nat, v < 256 ∧ by_c x j = nI v ∧ by_r x j = (nI v).toInt8.toInt32 := by
  refine ⟨x.toBitVec.toNat / 2 ^ (24 - 8 * j) % 256, by omega, ?_, ?_⟩
  · apply Int32.toBitVec_inj.1
    have h4 : j = 0 ∨ j = 1 ∨ j = 2 ∨ j = 3 := by omega
    rcases h4 with rfl | rfl | rfl | rfl
    · exact by_v x.toBitVec 24 (by omega)
    · exact by_v x.toBitVec 16 (by omega)
    · exact by_v x.toBitVec 8 (by omega)
    · exact by_v x.toBitVec 0 (by omega)
  · unfold by_r
    congr 1
    apply Int8.toBitVec_inj.1
    have h4 : j = 0 ∨ j = 1 ∨ j = 2 ∨ j = 3 := by omega
    rcases h4 with rfl | rfl | rfl | rfl
    · exact by_x x.toBitVec 24 (by omega)
    · exact by_x x.toBitVec 16 (by omega)
    · exact by_x x.toBitVec 8 (by omega)
    · exact by_x x.toBitVec 0 (by omega)
section F73
variable {M M1 M2 : px_Mem} {Q : px_Po} {y : iv_Y}
def tp_fr (M M' : px_Mem) : Prop := (∀ a, a ≠ 1 → a ≠ 2 → M'.1 a = M.1 a) ∧ (∀ i, i ≠ 1 → M'.1 1 i = M.1 1 i) ∧ M'.2 = M.2
theorem sp_58 {x : Int32} {t : Nat} (ht : t + 4 ≤ 900) (hM : M.1 1 1 = nI t) (h : ∀ M', tp_fr M M' → M'.1 1 1 = nI (t + 4) → (∀ i, i < t → M'.1 2 i = M.1 2 i) → (∀ j, j < 4 → M'.1 2 (t + j) = by_c x j) → Q none M') : px_T 0 58 0 [some (.ref 1), some (.int x), none] [] M Q := by
  refine sg_58_0 ?_
  have hl : ∀ (k j : Nat) (N : px_Mem), j + k = 4 → tp_fr M N → N.1 1 1 = nI (t + j) → (∀ i, i < t → N.1 2 i = M.1 2 i) → (∀ i, i < j → N.1 2 (t + i) = by_c x i) → px_T 0 58 3 [some (.ref 1), some (.int x), some (.int (24 - 8 * nI j))] [] N Q := by
    intro k
    induction k with
    | zero =>
      intro j N hj hf h1 h2 h3
      have e : j = 4 := by omega
      subst e
      exact sg_58_3 (fun _ => h N hf h1 h2 h3) (fun c => absurd (by decide) c) (fun c => absurd (by decide) c) (fun c => absurd (by decide) c)
    | succ k ih =>
      intro j N hj hf h1 h2 h3
      have e1 : (24 : Int32) - 8 * nI j = nI (24 - 8 * j) := by rw [show (24 : Int32) = nI 24 from rfl, il_8, in_mul, in_sb (by omega)]
      have hc : ¬ (900 : Int32) ≤ N.1 1 1 := by rw [h1, show (900 : Int32) = nI 900 from rfl, in_le (by omega) (by omega)]; omega
      refine sg_58_3 (fun c => ?_) (fun _ c => absurd c hc) (fun _ _ => by rw [h1]; exact me_vin (by omega) (by omega)) (fun _ _ => sg_58_43 ?_)
      · rw [e1] at c
        simp (disch := omega) only [in_lt, in_le, in_eq, in_add, in_mul, in_sb, in_cl, in_bz, in_bo, in_mo, not_true_eq_false, not_false_eq_true, il_0, il_1, il_2, il_3, il_4, il_5, il_6, il_7, il_8, il_9, il_10, il_11, il_12, il_13, il_14, il_15, il_16, il_31] at c
        omega
      · have e2 : (24 : Int32) - 8 * nI j + Int32.ofInt (-8) = 24 - 8 * nI (j + 1) := by
          have h4 : j = 0 ∨ j = 1 ∨ j = 2 ∨ j = 3 := by omega
          rcases h4 with rfl | rfl | rfl | rfl <;> decide
        rw [e2, e1, h1, in_cl (by omega), in_a1]
        refine ih (j + 1) _ (by omega) ⟨fun a a1 a2 => ?_, fun i hi => ?_, hf.2.2⟩ ?_ (fun i hi => ?_) (fun i hi => ?_)
        · simp (disch := omega) only [me_II, me_Ii, me_Io, me_I2, me_L1, me_Li, me_LL, me_Lo, me_As, me_Ao, me_A2, me_Bs, me_Bo, me_B1]
          exact hf.1 a a1 a2
        · simp (disch := omega) only [me_II, me_Ii, me_Io, me_I2, me_L1, me_Li, me_LL, me_Lo, me_As, me_Ao, me_A2, me_Bs, me_Bo, me_B1]
          exact hf.2.1 i hi
        · simp (disch := omega) only [me_II, me_Ii, me_Io, me_I2, me_L1, me_Li, me_LL, me_Lo, me_As, me_Ao, me_A2, me_Bs, me_Bo, me_B1]
          rfl
        · simp (disch := omega) only [me_II, me_Ii, me_Io, me_I2, me_L1, me_Li, me_LL, me_Lo, me_As, me_Ao, me_A2, me_Bs, me_Bo, me_B1]
          exact h2 i hi
        · by_cases e : i = j
          · subst e
            simp (disch := omega) only [me_II, me_Ii, me_Io, me_I2, me_L1, me_Li, me_LL, me_Lo, me_As, me_Ao, me_A2, me_Bs, me_Bo, me_B1]
            rfl
          · simp (disch := omega) only [me_II, me_Ii, me_Io, me_I2, me_L1, me_Li, me_LL, me_Lo, me_As, me_Ao, me_A2, me_Bs, me_Bo, me_B1]
            exact h3 i (by omega)
  exact hl 4 0 M (by omega) ⟨fun _ _ _ => rfl, fun _ _ => rfl, rfl⟩ hM (fun _ _ => rfl) (fun i hi => absurd hi (Nat.not_lt_zero i))
def fd (x1 x2 x3 x4 x5 : Int32) (m : Nat) : Int32 := if m = 0 then x1 else if m = 1 then x2 else if m = 2 then x3 else if m = 3 then x4 else x5
theorem tp_tr {M1 M2 : px_Mem} (h : tp_fr M M1) (h2 : tp_fr M1 M2) : tp_fr M M2 := ⟨fun a p q => (h2.1 a p q).trans (h.1 a p q), fun i p => (h2.2.1 i p).trans (h.2.1 i p), h2.2.2.trans h.2.2⟩
/-- m numbers are put -/
def tpP (f : Nat → Int32) (t : Nat) (M : px_Mem) (m : Nat) (N : px_Mem) : Prop := tp_fr M N ∧ N.1 1 1 = nI (t + 4 * m) ∧ (∀ i, i < t → N.1 2 i = M.1 2 i) ∧ ∀ i, i < 4 * m → N.1 2 (t + i) = by_c (f (i / 4)) (i % 4)
theorem sp_58p {f : Nat → Int32} {x : Int32} {t m : Nat} {N : px_Mem} (ht : t + 20 ≤ 900) (hm : m < 5) (hx : f m = x) (P : tpP f t M m N) (h : ∀ N', tpP f t M (m + 1) N' → Q none N') : px_T 0 58 0 [some (.ref 1), some (.int x), none] [] N Q := by
  obtain ⟨p1, p2, p3, p4⟩ := P
  refine sp_58 (t := t + 4 * m) (by omega) p2 (fun N' k1 k2 k3 k4 => h N' ⟨tp_tr p1 k1, by rw [k2]; congr 1, fun i hi => by rw [k3 i (by omega)]; exact p3 i hi, fun i hi => ?_⟩)
  by_cases c : i < 4 * m
  · rw [k3 (t + i) (by omega)]
    exact p4 i c
  · have h9 := k4 (i - 4 * m) (by omega)
    rw [show t + 4 * m + (i - 4 * m) = t + i by omega] at h9
    rw [h9, show i / 4 = m by omega, show i % 4 = i - 4 * m by omega, hx]
theorem sc_86 {x1 x2 x3 x4 x5 : Int32} {t : Nat} (ht : t + 20 ≤ 900) (hM : M.1 1 1 = nI t) (h : ∀ M', tpP (fd x1 x2 x3 x4 x5) t M 5 M' → Q (some (.int (nI (t + 20)))) M') : px_T 0 86 0 [some (.ref 0), some (.int x1), some (.int x2), some (.int x3), some (.int x4), some (.int x5)] [] M Q := by
  refine sg_86_0 (fun _ => ?_) (fun c => ?_)
  · refine sp_58p (m := 0) (f := fd x1 x2 x3 x4 x5) ht (by omega) rfl ⟨⟨fun _ _ _ => rfl, fun _ _ => rfl, rfl⟩, hM, fun _ _ => rfl, fun i hi => absurd hi (by omega)⟩ (fun N1 P1 => sg_86_26 ?_)
    refine sp_58p ht (by omega) rfl P1 (fun N2 P2 => sg_86_34 ?_)
    refine sp_58p ht (by omega) rfl P2 (fun N3 P3 => sg_86_42 ?_)
    refine sp_58p ht (by omega) rfl P3 (fun N4 P4 => sg_86_51 ?_)
    refine sp_58p ht (by omega) rfl P4 (fun N5 P5 => sg_86_60 ?_)
    rw [P5.2.1]
    exact h N5 P5
  · rw [hM, show (20 : Int32) = nI 20 from rfl, show (900 : Int32) = nI 900 from rfl, in_add, in_le (by omega) (by omega)] at c
    omega
def fr_fr (t : Nat) (M M' : px_Mem) : Prop := (∀ a, a ≠ 56 → a ≠ 60 → a ≠ 61 → M'.1 a = M.1 a) ∧ (∀ i, i ≠ 5 → M'.1 56 i = M.1 56 i) ∧ M'.2 = M.2 ∧ ∀ i, i < t → M'.1 60 i = M.1 60 i
theorem sr_190 {x1 x2 x3 x4 x5 : Int32} {t : Nat} (ht : t + 20 ≤ 900) (hM : M.1 56 5 = nI t) (h : ∀ M', fr_fr t M M' → M'.1 56 5 = nI (t + 20) → (∀ i, i < 20 → M'.1 60 (t + i) = by_r (fd x1 x2 x3 x4 x5 (i / 4)) (i % 4)) → Q (some (.int (nI (t + 20)))) M') : px_T 0 190 0 [some (.ref 56), some (.int x1), some (.int x2), some (.int x3), some (.int x4), some (.int x5), none] [] M Q := by
  refine sg_190_0 (fun _ => sg_190_44 ?_) (fun c => ?_)
  · have hl : ∀ (k i : Nat) (N : px_Mem), i + k = 20 → (∀ a, a ≠ 60 → a ≠ 61 → N.1 a = M.1 a) → N.2 = M.2 → (∀ j, j < t → N.1 60 j = M.1 60 j) → (∀ m, m < 5 → N.1 61 m = fd x1 x2 x3 x4 x5 m) → (∀ j, j < i → N.1 60 (t + j) = by_r (fd x1 x2 x3 x4 x5 (j / 4)) (j % 4)) → px_T 0 190 55 [some (.ref 56), some (.int x1), some (.int x2), some (.int x3), some (.int x4), some (.int x5), some (.int (nI i))] [] N Q := by
      intro k
      induction k with
      | zero =>
        intro i N hi f1 f2 f3 f4 f5
        have e : i = 20 := by omega
        subst e
        have g5 : N.1 56 5 = nI t := by rw [f1 56 (by omega) (by omega)]; exact hM
        refine sg_190_55 (fun _ => ?_) (fun c => absurd (by decide) c) (fun c => absurd (by decide) c) (fun c => absurd (by decide) c)
        rw [g5, show (20 : Int32) = nI 20 from rfl, in_add]
        refine h _ ⟨fun a a1 a2 a3 => ?_, fun i hi => ?_, f2, fun i hi => ?_⟩ ?_ (fun i hi => ?_)
        · rw [me_Io a1]
          exact f1 a a2 a3
        · rw [me_Ii hi, f1 56 (by omega) (by omega)]
        · rw [me_Io (by omega)]
          exact f3 i hi
        · rw [me_II]
        · rw [me_Io (by omega)]
          exact f5 i hi
      | succ k ih =>
        intro i N hi f1 f2 f3 f4 f5
        have g5 : N.1 56 5 = nI t := by rw [f1 56 (by omega) (by omega)]; exact hM
        have e4 : nI i / 4 = nI (i / 4) := pk_div (d := 4) (by omega) (by omega) (by omega)
        have er : nI i - nI i / 4 * 4 = nI (i % 4) := pk_rem (d := 4) (by omega) (by omega) (by omega)
        have es : (24 : Int32) - 8 * (nI i - nI i / 4 * 4) = nI (24 - 8 * (i % 4)) := by rw [er, show (24 : Int32) = nI 24 from rfl, il_8, in_mul, in_sb (by omega)]
        refine sg_190_55 (fun c => ?_) (fun _ => by rw [e4]; exact me_vin (by omega) (by omega)) (fun _ => by rw [g5, in_add]; exact me_vin (by omega) (by omega)) (fun _ => sg_190_95 ?_)
        · rw [show (20 : Int32) = nI 20 from rfl, in_le (by omega) (by omega)] at c
          omega
        · rw [es, e4, g5, in_add, in_cl (by omega), in_cl (by omega), f4 _ (by omega), nar_by, in_a1]
          refine ih (i + 1) _ (by omega) (fun a a1 a2 => by rw [me_Io a1]; exact f1 a a1 a2) f2 (fun j hj => by rw [me_Ii (by omega)]; exact f3 j hj) (fun m hm => by rw [me_Io (by omega)]; exact f4 m hm) (fun j hj => ?_)
          by_cases e : j = i
          · subst e
            rw [me_II]
            unfold by_r
            simp
          · rw [me_Ii (by omega)]
            exact f5 j (by omega)
    refine hl 20 0 _ (by omega) (fun a a1 a2 => ?_) rfl (fun j hj => ?_) (fun m hm => ?_) (fun j hj => absurd hj (Nat.not_lt_zero j))
    · simp (disch := omega) only [me_II, me_Ii, me_Io, me_I2, me_L1, me_Li, me_LL, me_Lo, me_As, me_Ao, me_A2, me_Bs, me_Bo, me_B1]
    · simp (disch := omega) only [me_II, me_Ii, me_Io, me_I2, me_L1, me_Li, me_LL, me_Lo, me_As, me_Ao, me_A2, me_Bs, me_Bo, me_B1]
    · have h5 : m = 0 ∨ m = 1 ∨ m = 2 ∨ m = 3 ∨ m = 4 := by omega
      rcases h5 with rfl | rfl | rfl | rfl | rfl
      · simp (disch := omega) only [me_II, me_Ii, me_Io, me_I2, me_L1, me_Li, me_LL, me_Lo, me_As, me_Ao, me_A2, me_Bs, me_Bo, me_B1]; rfl
      · simp (disch := omega) only [me_II, me_Ii, me_Io, me_I2, me_L1, me_Li, me_LL, me_Lo, me_As, me_Ao, me_A2, me_Bs, me_Bo, me_B1]; rfl
      · simp (disch := omega) only [me_II, me_Ii, me_Io, me_I2, me_L1, me_Li, me_LL, me_Lo, me_As, me_Ao, me_A2, me_Bs, me_Bo, me_B1]; rfl
      · simp (disch := omega) only [me_II, me_Ii, me_Io, me_I2, me_L1, me_Li, me_LL, me_Lo, me_As, me_Ao, me_A2, me_Bs, me_Bo, me_B1]; rfl
      · simp (disch := omega) only [me_II, me_Ii, me_Io, me_I2, me_L1, me_Li, me_LL, me_Lo, me_As, me_Ao, me_A2, me_Bs, me_Bo, me_B1]; rfl
  · rw [hM, show (20 : Int32) = nI 20 from rfl, show (900 : Int32) = nI 900 from rfl, in_add, in_le (by omega) (by omega)] at c
    omega
theorem pr_86 {x1 x2 x3 x4 x5 : Int32} : PR 86 [some (.ref 0), some (.int x1), some (.int x2), some (.int x3), some (.int x4), some (.int x5)] 190 [some (.ref 56), some (.int x1), some (.int x2), some (.int x3), some (.int x4), some (.int x5), none] := by
  intro M Q I h
  have I2 := I
  obtain ⟨y, C, R, ⟨t, t1, t2, t3, t4⟩, V2, V3, V4⟩ := I2
  by_cases c : t + 20 ≤ 900
  · refine sc_86 c t2 (fun M1 P => h _ M1 ⟨P.1.1 999 (by omega) (by omega), P.1.1 1000 (by omega) (by omega)⟩ (fun Q' h' => ?_))
    obtain ⟨⟨p1, p2, p3⟩, q2, q3, q4⟩ := P
    refine sr_190 (x1 := x1) (x2 := x2) (x3 := x3) (x4 := x4) (x5 := x5) c (by rw [p1 56 (by omega) (by omega)]; exact t3) (fun M2 k k5 k6 => h' M2 ?_ ?_)
    · obtain ⟨k1, k2, k3, k4⟩ := k
      have fr : ∀ a, a ≠ 1 → a ≠ 2 → a ≠ 56 → a ≠ 60 → a ≠ 61 → M2.1 a = M.1 a := fun a a1 a2 a3 a4 a5 => by rw [k1 a a3 a4 a5, p1 a a1 a2]
      have f2 : M2.2 = M.2 := k3.trans p3
      have f56 : ∀ i, i ≠ 5 → M2.1 56 i = M.1 56 i := fun i hi => by rw [k2 i hi, p1 56 (by omega) (by omega)]
      refine ⟨y, ic_fr C (fun a ha => fr a (by omega) (by omega) (by omega) (by omega) (by omega)) (fun a _ => by rw [f2]), ⟨R.1, iv_sr_fr R.2 (fr 57 (by omega) (by omega) (by omega) (by omega) (by omega))⟩, ⟨t + 20, c, ?_, k5, fun i hi => ?_⟩, ?_, ?_, ?_⟩
      · rw [k1 1 (by omega) (by omega) (by omega)]
        exact q2
      · rw [k1 2 (by omega) (by omega) (by omega)]
        by_cases hi2 : i < t
        · rw [k4 i hi2, q3 i hi2, p1 60 (by omega) (by omega)]
          exact t4 i hi2
        · have g1 := q4 (i - t) (by omega)
          have g2 := k6 (i - t) (by omega)
          rw [show t + (i - t) = i by omega] at g1 g2
          rw [g1, g2]
          exact by_e _ (by omega)
      · exact iv_flt_fr V2 (fr 3 (by omega) (by omega) (by omega) (by omega) (by omega)) (f56 12 (by omega)) (f56 13 (by omega))
      · exact iv_img_fr V3 (fun a h1 h2 => fr a (by omega) (by omega) (by omega) (by omega) (by omega)) (fr 58 (by omega) (by omega) (by omega) (by omega) (by omega)) (fr 59 (by omega) (by omega) (by omega) (by omega) (by omega))
      · exact iv_rows_fr V4 (fun a h1 h2 => ⟨fr a (by omega) (by omega) (by omega) (by omega) (by omega), by rw [f2]⟩) (fr 88 (by omega) (by omega) (by omega) (by omega) (by omega)) (fr 89 (by omega) (by omega) (by omega) (by omega) (by omega)) (by rw [f2])
    · exact ⟨by rw [k.1 999 (by omega) (by omega) (by omega), p1 999 (by omega) (by omega)], by rw [k.1 1000 (by omega) (by omega) (by omega), p1 1000 (by omega) (by omega)]⟩
  · have hno : ∀ z : Int32, z = nI t → ¬ z + 20 ≤ 900 := by
      intro z hz q
      rw [hz, show (20 : Int32) = nI 20 from rfl, show (900 : Int32) = nI 900 from rfl, in_add, in_le (by omega) (by omega)] at q
      exact c q
    refine sg_86_0 (fun q => absurd q (hno _ t2)) (fun _ => h _ M lw_rf (fun Q' h' => ?_))
    exact sg_190_0 (fun q => absurd q (hno _ t3)) (fun _ => h' M I lw_rf)
end F73
