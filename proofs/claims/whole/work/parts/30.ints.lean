theorem in_shr {n k : Nat} (h : n < 2 ^ 31) (hk : k < 32) : nI n >>> (nI k &&& 31) = nI (n / 2 ^ k) := pk_shrN h _ k (s_l k hk)
theorem in_shl {n k : Nat} (hk : k < 32) (h : n * 2 ^ k < 2 ^ 32) : nI n <<< (nI k &&& 31) = nI (n * 2 ^ k) := pk_shlN _ k (s_l k hk) h
theorem in_and1 (n : Nat) : nI n &&& 1 = nI (n % 2) := fa_mask n 1
theorem in_tb (n k : Nat) : n / 2 ^ k % 2 = 1 ↔ n.testBit k = true := by
  rw [Nat.testBit_eq_decide_div_mod_eq]
  simp
theorem in_tb0 (n k : Nat) : n / 2 ^ k % 2 = 0 ↔ n.testBit k = false := by
  rw [Nat.testBit_eq_decide_div_mod_eq]
  simp
/-- a bit asked for by a shift -/
theorem in_bit {n k : Nat} (h : n < 2 ^ 31) (hk : k < 32) : (nI n >>> (nI k &&& 31)) &&& 1 = if n.testBit k then 1 else 0 := by
  rw [in_shr h hk, in_and1]
  cases hb : n.testBit k with
  | true => rw [(in_tb n k).mpr hb]; rfl
  | false => rw [(in_tb0 n k).mpr hb]; rfl
theorem in_bit0 {n k : Nat} (h : n < 2 ^ 31) (hk : k < 32) : ((nI n >>> (nI k &&& 31)) &&& 1 = 0) ↔ n.testBit k = false := by
  rw [in_bit h hk]
  cases n.testBit k <;> simp
theorem in_sub {a b : Nat} (h : b ≤ a) : nI a - nI b = nI (a - b) := pk_sub h
theorem in_one {k : Nat} (hk : k < 31) : (1 : Int32) <<< (nI k &&& 31) = nI (2 ^ k) := by
  have h := in_shl (n := 1) (k := k) (by omega) (by rw [Nat.one_mul]; exact Nat.pow_lt_pow_right (by omega) (by omega))
  rw [Nat.one_mul] at h
  exact h
theorem in_or (a b : Nat) : nI a ||| nI b = nI (a ||| b) := fa_or a b
theorem in_and (a b : Nat) : nI a &&& nI b = nI (a &&& b) := fa_and a b
theorem in_lt {a b : Nat} (ha : a < 2 ^ 31) (hb : b < 2 ^ 31) : nI a < nI b ↔ a < b := nI_ltI ha hb
theorem in_le {a b : Nat} (ha : a < 2 ^ 31) (hb : b < 2 ^ 31) : nI a ≤ nI b ↔ a ≤ b := nI_leI ha hb
theorem in_eq {a b : Nat} (ha : a < 2 ^ 31) (hb : b < 2 ^ 31) : nI a = nI b ↔ a = b := nI_eq ha hb
/-- an int is below 0, or a number -/
theorem in_cases (x : Int32) : x < 0 ∨ ∃ n : Nat, n < 2 ^ 31 ∧ x = nI n := by
  by_cases h : x < 0
  · exact Or.inl h
  · exact Or.inr (nI_of h)
theorem in_neg_lt {x : Int32} {n : Nat} (h : x < 0) (hn : n < 2 ^ 31) : x < nI n := by
  rw [fa_lt] at h ⊢
  rw [nI_toInt hn]
  rw [Int32.toInt_zero] at h
  omega
theorem in_rng {x : Int32} {n : Nat} (hn : n < 2 ^ 31) (h0 : ¬ x < 0) (h : ¬ nI n < x) : ∃ k : Nat, k ≤ n ∧ x = nI k := by
  obtain ⟨k, hk, rfl⟩ := nI_of h0
  exact ⟨k, by rw [in_lt hn hk] at h; omega, rfl⟩
theorem in_rng1 {x : Int32} {n : Nat} (hn : n < 2 ^ 31) (h0 : ¬ x < 1) (h : ¬ nI n < x) : ∃ k : Nat, 1 ≤ k ∧ k ≤ n ∧ x = nI k := by
  have h1 : ¬ x < 0 := fun q => h0 (by rw [fa_lt] at q ⊢; have e : (1 : Int32).toInt = 1 := rfl; rw [Int32.toInt_zero] at q; rw [e]; omega)
  obtain ⟨k, hk, rfl⟩ := nI_of h1
  have h2 : ¬ nI k < nI 1 := h0
  rw [in_lt hk (by omega)] at h2
  exact ⟨k, by omega, by rw [in_lt hn hk] at h; omega, rfl⟩
/-- how many bits are set -/
def in_pc : Nat → Nat → Nat
  | 0, _ => 0
  | k + 1, n => n % 2 + in_pc k (n / 2)
def in_bc (x0 : Int32) : Int32 :=
  let x1 := x0 - ((x0.toUInt32 >>> ((1 : Int32).toUInt32 &&& Int32.toUInt32 31)).toInt32 &&& 1431655765)
  let x2 := (x1 &&& 858993459) + ((x1.toUInt32 >>> ((2 : Int32).toUInt32 &&& Int32.toUInt32 31)).toInt32 &&& 858993459)
  let x3 := (x2 + (x2.toUInt32 >>> ((4 : Int32).toUInt32 &&& Int32.toUInt32 31)).toInt32) &&& 252645135
  let x4 := x3 + (x3.toUInt32 >>> ((8 : Int32).toUInt32 &&& Int32.toUInt32 31)).toInt32
  let x5 := x4 + (x4.toUInt32 >>> ((16 : Int32).toUInt32 &&& Int32.toUInt32 31)).toInt32
  x5 &&& 63
def in_bcb (n : Nat) : Bool := decide (in_bc (nI n) = nI (in_pc 15 n))
