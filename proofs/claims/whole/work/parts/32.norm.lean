/-! ints to numbers -/
theorem il_0 : (0 : Int32) = nI 0 := rfl
theorem il_1 : (1 : Int32) = nI 1 := rfl
theorem il_2 : (2 : Int32) = nI 2 := rfl
theorem il_3 : (3 : Int32) = nI 3 := rfl
theorem il_4 : (4 : Int32) = nI 4 := rfl
theorem il_5 : (5 : Int32) = nI 5 := rfl
theorem il_6 : (6 : Int32) = nI 6 := rfl
theorem il_7 : (7 : Int32) = nI 7 := rfl
theorem il_8 : (8 : Int32) = nI 8 := rfl
theorem il_9 : (9 : Int32) = nI 9 := rfl
theorem il_10 : (10 : Int32) = nI 10 := rfl
theorem il_11 : (11 : Int32) = nI 11 := rfl
theorem il_12 : (12 : Int32) = nI 12 := rfl
theorem il_13 : (13 : Int32) = nI 13 := rfl
theorem il_14 : (14 : Int32) = nI 14 := rfl
theorem il_15 : (15 : Int32) = nI 15 := rfl
theorem il_16 : (16 : Int32) = nI 16 := rfl
theorem il_17 : (17 : Int32) = nI 17 := rfl
theorem il_18 : (18 : Int32) = nI 18 := rfl
theorem il_19 : (19 : Int32) = nI 19 := rfl
theorem il_20 : (20 : Int32) = nI 20 := rfl
theorem il_21 : (21 : Int32) = nI 21 := rfl
theorem il_22 : (22 : Int32) = nI 22 := rfl
theorem il_23 : (23 : Int32) = nI 23 := rfl
theorem il_24 : (24 : Int32) = nI 24 := rfl
theorem il_25 : (25 : Int32) = nI 25 := rfl
theorem il_26 : (26 : Int32) = nI 26 := rfl
theorem il_27 : (27 : Int32) = nI 27 := rfl
theorem il_28 : (28 : Int32) = nI 28 := rfl
theorem il_29 : (29 : Int32) = nI 29 := rfl
theorem il_30 : (30 : Int32) = nI 30 := rfl
theorem il_31 : (31 : Int32) = nI 31 := rfl
theorem il_32 : (32 : Int32) = nI 32 := rfl
theorem il_33 : (33 : Int32) = nI 33 := rfl
theorem il_34 : (34 : Int32) = nI 34 := rfl
theorem il_35 : (35 : Int32) = nI 35 := rfl
theorem il_36 : (36 : Int32) = nI 36 := rfl
theorem il_37 : (37 : Int32) = nI 37 := rfl
theorem il_38 : (38 : Int32) = nI 38 := rfl
theorem il_39 : (39 : Int32) = nI 39 := rfl
theorem il_40 : (40 : Int32) = nI 40 := rfl
theorem il_41 : (41 : Int32) = nI 41 := rfl
theorem il_42 : (42 : Int32) = nI 42 := rfl
theorem il_43 : (43 : Int32) = nI 43 := rfl
theorem il_44 : (44 : Int32) = nI 44 := rfl
theorem il_45 : (45 : Int32) = nI 45 := rfl
theorem il_46 : (46 : Int32) = nI 46 := rfl
theorem il_47 : (47 : Int32) = nI 47 := rfl
theorem il_48 : (48 : Int32) = nI 48 := rfl
theorem il_49 : (49 : Int32) = nI 49 := rfl
theorem il_50 : (50 : Int32) = nI 50 := rfl
theorem il_51 : (51 : Int32) = nI 51 := rfl
theorem il_52 : (52 : Int32) = nI 52 := rfl
theorem il_53 : (53 : Int32) = nI 53 := rfl
theorem il_54 : (54 : Int32) = nI 54 := rfl
theorem il_55 : (55 : Int32) = nI 55 := rfl
theorem il_56 : (56 : Int32) = nI 56 := rfl
theorem il_57 : (57 : Int32) = nI 57 := rfl
theorem il_58 : (58 : Int32) = nI 58 := rfl
theorem il_59 : (59 : Int32) = nI 59 := rfl
theorem il_60 : (60 : Int32) = nI 60 := rfl
theorem il_61 : (61 : Int32) = nI 61 := rfl
theorem il_62 : (62 : Int32) = nI 62 := rfl
theorem il_63 : (63 : Int32) = nI 63 := rfl
theorem il_64 : (64 : Int32) = nI 64 := rfl
theorem il_70 : (70 : Int32) = nI 70 := rfl
theorem il_71 : (71 : Int32) = nI 71 := rfl
theorem il_97 : (97 : Int32) = nI 97 := rfl
theorem il_120 : (120 : Int32) = nI 120 := rfl
theorem il_122 : (122 : Int32) = nI 122 := rfl
theorem il_127 : (127 : Int32) = nI 127 := rfl
theorem il_128 : (128 : Int32) = nI 128 := rfl
theorem il_200 : (200 : Int32) = nI 200 := rfl
theorem il_255 : (255 : Int32) = nI 255 := rfl
theorem il_285 : (285 : Int32) = nI 285 := rfl
theorem il_510 : (510 : Int32) = nI 510 := rfl
theorem il_720 : (720 : Int32) = nI 720 := rfl
theorem il_900 : (900 : Int32) = nI 900 := rfl
theorem il_1000 : (1000 : Int32) = nI 1000 := rfl
theorem il_12345 : (12345 : Int32) = nI 12345 := rfl
theorem il_32640 : (32640 : Int32) = nI 32640 := rfl
theorem il_32767 : (32767 : Int32) = nI 32767 := rfl
theorem il_65536 : (65536 : Int32) = nI 65536 := rfl
theorem il_99999 : (99999 : Int32) = nI 99999 := rfl
theorem il_2000000000 : (2000000000 : Int32) = nI 2000000000 := rfl
theorem in_add (a b : Nat) : nI a + nI b = nI (a + b) := nI_add a b
theorem in_mul (a b : Nat) : nI a * nI b = nI (a * b) := pk_mul a b
theorem in_sb {a b : Nat} (h : b ≤ a) : nI a - nI b = nI (a - b) := pk_sub h
theorem in_cl {n : Nat} (h : n < 2 ^ 31) : (nI n).toNatClampNeg = n := nI_clamp h
theorem in_s1 {p : Nat} (h : 1 ≤ p) : nI p - 1 = nI (p - 1) := in_sub (a := p) (b := 1) h
theorem in_a1 (p : Nat) : nI p + 1 = nI (p + 1) := nI_1 p
theorem in_mo {a : Nat} (h : a < 2 ^ 31) : nI a = -nI 1 ↔ False := by
  refine ⟨fun q => ?_, False.elim⟩
  have h1 := congrArg Int32.toInt q
  rw [nI_toInt h, show (-nI 1).toInt = -1 from rfl] at h1
  omega
def in_b (b : Bool) : Int32 := if b = true then 1 else 0
theorem in_b0 (b : Bool) : in_b b = 0 ↔ b = false := by cases b <;> simp [in_b]
theorem in_bz (b : Bool) : in_b b = nI 0 ↔ b = false := in_b0 b
theorem in_bo (b : Bool) : in_b b = nI 1 ↔ b = true := by
  cases b
  · exact ⟨fun h => absurd h (by decide), fun h => absurd h (by decide)⟩
  · exact ⟨fun _ => rfl, fun _ => rfl⟩
theorem in_b01 (b : Bool) : in_b b = 0 ∨ in_b b = 1 := by cases b <;> simp [in_b]
theorem in_tb2 (a p : Nat) (h : 1 ≤ p) : (a / 2).testBit (p - 1) = a.testBit p := by
  rw [Nat.testBit_div_two, Nat.sub_add_cancel h]
theorem in_om0 {u : Nat} (hu : u < 2 ^ 31) : (nI u - 1 < 0) ↔ u = 0 := by
  cases u with
  | zero => exact ⟨fun _ => rfl, fun _ => by decide⟩
  | succ u =>
    rw [nI_pred]
    exact ⟨fun h => absurd h (nI_pos (by omega)), fun h => by omega⟩
theorem in_omz {u : Nat} (hu : u < 2 ^ 31) : (nI u - nI 1 < nI 0) ↔ u = 0 := in_om0 hu
theorem in_omg {u : Nat} (hu : u < 2 ^ 31) : (nI 0 ≤ nI u - nI 1) ↔ ¬ u = 0 := by
  rw [← in_om0 hu, fa_le, fa_lt]
  show (0 : Int32).toInt ≤ (nI u - 1).toInt ↔ ¬ (nI u - 1).toInt < (0 : Int32).toInt
  exact ⟨fun h => by omega, fun h => by omega⟩
theorem in_om1 {u : Nat} (hu : u < 2 ^ 31) : (nI u - nI 1 = -nI 1) ↔ u = 0 := by
  cases u with
  | zero => exact ⟨fun _ => rfl, fun _ => by decide⟩
  | succ u =>
    rw [show nI (u + 1) - nI 1 = nI u from nI_pred u, in_mo (by omega)]
    exact ⟨False.elim, fun h => by omega⟩
theorem in_m15 (n : Nat) : nI n &&& nI 15 = nI (n % 16) := fa_mask n 4
theorem in_m31 (n : Nat) : nI n &&& nI 31 = nI (n % 32) := fa_mask n 5
theorem in_m1 (n : Nat) : nI n &&& nI 1 = nI (n % 2) := fa_mask n 1
theorem bt_nI (n i : Nat) (hi : i < 32) : bt (nI n) i = n.testBit i := by
  show (BitVec.ofNat 32 n).getLsbD i = _
  rw [BitVec.getLsbD_ofNat]
  simp [hi]
theorem in_clr {n k : Nat} (hb : n.testBit k = true) : nI n &&& (nI (2 ^ k) ^^^ -1) = nI (n ^^^ 2 ^ k) := by
  apply b_ext
  intro i hi
  rw [b_and, b_xor, b_m1 i hi, bt_nI _ _ hi, bt_nI _ _ hi, bt_nI _ _ hi, fb_bit_flip, Nat.testBit_two_pow]
  by_cases h : k = i
  · subst h
    simp [hb]
  · have h2 : ¬ i = k := fun q => h q.symm
    simp [h, h2]
theorem in_d2x {a p : Nat} (h : 1 ≤ p) : (a ^^^ 2 ^ p) / 2 = a / 2 ^^^ 2 ^ (p - 1) := by
  apply Nat.eq_of_testBit_eq
  intro i
  rw [Nat.testBit_div_two, fb_bit_flip, fb_bit_flip, Nat.testBit_div_two]
  congr 1
  exact decide_eq_decide.mpr (by omega)
theorem in_d2o {a p : Nat} (h : 1 ≤ p) : (a ||| 2 ^ p) / 2 = a / 2 ||| 2 ^ (p - 1) := by
  apply Nat.eq_of_testBit_eq
  intro i
  rw [Nat.testBit_div_two, fb_bit_set, fb_bit_set, Nat.testBit_div_two]
  congr 1
  exact decide_eq_decide.mpr (by omega)
/-- frames: only the places from lo to hi changed -/
def me_fw (lo hi : Nat) (M M' : px_Mem) : Prop := ∀ a, (a < lo ∨ hi ≤ a) → M'.1 a = M.1 a ∧ M'.2 a = M.2 a
theorem me_fw_rf {lo hi : Nat} {M : px_Mem} : me_fw lo hi M M := fun _ _ => ⟨rfl, rfl⟩
theorem me_fw_tr {lo hi : Nat} {M M' M2 : px_Mem} (h : me_fw lo hi M M') (h2 : me_fw lo hi M' M2) : me_fw lo hi M M2 := fun a ha => ⟨(h2 a ha).1.trans (h a ha).1, (h2 a ha).2.trans (h a ha).2⟩
theorem me_fw_mono {lo hi lo2 hi2 : Nat} {M M' : px_Mem} (h : me_fw lo hi M M') (h1 : lo2 ≤ lo) (h2 : hi ≤ hi2) : me_fw lo2 hi2 M M' := fun a ha => h a (by omega)
theorem me_fw_I {lo hi a i : Nat} {x : Int32} {M M' : px_Mem} (h : me_fw lo hi M M') (h1 : lo ≤ a) (h2 : a < hi) : me_fw lo hi M (px_wI M' a i x) := fun b hb => ⟨by rw [me_Io (by omega)]; exact (h b hb).1, (h b hb).2⟩
theorem me_fw_L {lo hi a i : Nat} {x : Int64} {M M' : px_Mem} (h : me_fw lo hi M M') (h1 : lo ≤ a) (h2 : a < hi) : me_fw lo hi M (px_wL M' a i x) := fun b hb => ⟨(h b hb).1, by rw [me_Lo (by omega)]; exact (h b hb).2⟩
theorem me_fw_A {lo hi a : Nat} {f : Nat → Int32} {M M' : px_Mem} (h : me_fw lo hi M M') (h1 : lo ≤ a) (h2 : a < hi) : me_fw lo hi M (px_aI M' a f) := fun b hb => ⟨by rw [me_Ao (by omega)]; exact (h b hb).1, (h b hb).2⟩
theorem me_fw_B {lo hi a : Nat} {f : Nat → Int64} {M M' : px_Mem} (h : me_fw lo hi M M') (h1 : lo ≤ a) (h2 : a < hi) : me_fw lo hi M (px_aL M' a f) := fun b hb => ⟨(h b hb).1, by rw [me_Bo (by omega)]; exact (h b hb).2⟩
/-- backward induction, for loops that count up -/
theorem lp_dn {P : Nat → Prop} {N : Nat} (hN : P N) (hs : ∀ i, i < N → P (i + 1) → P i) : ∀ i, i ≤ N → P i := by
  intro i hi
  have h : ∀ n i, i + n = N → P i := by
    intro n
    induction n with
    | zero =>
      intro i hi
      have e : i = N := by omega
      rw [e]
      exact hN
    | succ n ih =>
      intro i hi
      exact hs i (by omega) (ih (i + 1) (by omega))
  exact h (N - i) i (by omega)
