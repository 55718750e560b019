/-! the plan that raises a system -/
def pl_w (s : ws_S) (w : Nat → Nat) (p : Nat) : Nat := if w (ws_pa s p) = 0 then 0 else if ws_se s p = p then 1 else if ws_se s p = ws_se s (ws_pa s p) then 2 else if ws_pa s p = 1 then (if w (ws_se s p) = 0 then 0 else 4) else if w (ws_pa s p) = 1 ∧ ws_se s p = ws_se s (ws_pa s (ws_pa s p)) then 3 else 0
abbrev pl_S : Type := (Nat → Nat) × (Nat → Nat) × Nat
def pl_nx (s : ws_S) (w : Nat → Nat) : Nat → Nat → Nat
  | 0, _ => 0
  | n + 1, p => if (ws_al s).testBit p = true ∧ w p = 0 ∧ pl_w s w p ≠ 0 then p else pl_nx s w n (p + 1)
def pl_ra (r : pl_S) (q h : Nat) : pl_S := (ws_up r.1 q h, ws_up r.2.1 r.2.2 q, r.2.2 + 1)
def pl_st (s : ws_S) (r : pl_S) : pl_S := if pl_nx s r.1 14 2 = 0 then r else pl_ra r (pl_nx s r.1 14 2) (pl_w s r.1 (pl_nx s r.1 14 2))
def pl_n : pl_S := (fun _ => 0, fun _ => 0, 0)
def pl_0 : pl_S := pl_ra pl_n 1 1
def pl_go (s : ws_S) : Nat → pl_S
  | 0 => pl_0
  | k + 1 => pl_st s (pl_go s k)
def pl_of (s : ws_S) : pl_S := pl_go s 14
def pl_L (s : ws_S) (w : Nat → Nat) : Nat := bs (fun i => (ws_al s).testBit (i + 1) && decide (w (i + 1) = 0)) 15
def pl_R (w : Nat → Nat) : Nat := bs (fun p => decide (w p ≠ 0)) 16
def pl_ct (w : Nat → Nat) (c : Nat) : Nat := fb_ct (fun i => decide (w (i + 1) = c)) 15
def pl_g (h : Nat) : Nat := if h = 1 then 2 else if h = 4 then 3 else 1
/-- what holds of a plan on its way -/
def pl_I (s : ws_S) (r : pl_S) : Prop := (r.1 0 = 0 ∧ r.1 1 = 1 ∧ (∀ p, r.1 p ≤ 4) ∧ (∀ p, r.1 p ≠ 0 → (ws_al s).testBit p = true)) ∧ (fb_ct (fun p => decide (r.1 p ≠ 0)) 16 = r.2.2 ∧ 1 ≤ r.2.2) ∧ (∀ i, i < r.2.2 → 1 ≤ r.2.1 i ∧ r.2.1 i ≤ 15 ∧ r.1 (r.2.1 i) ≠ 0) ∧ sm (fun i => pl_g (r.1 (r.2.1 (i + 1)))) (r.2.2 - 1) + 2 = 2 * pl_ct r.1 1 + pl_ct r.1 2 + pl_ct r.1 3 + 3 * pl_ct r.1 4 ∧ fb_ct (fun i => decide (r.1 (r.2.1 i) = 4)) r.2.2 = pl_ct r.1 4
theorem pl_w_le (s : ws_S) (w : Nat → Nat) (p : Nat) : pl_w s w p ≤ 4 := by
  unfold pl_w
  repeat' split
  all_goals omega
theorem pl_nx_s (s : ws_S) (w : Nat → Nat) (n p : Nat) : pl_nx s w (n + 1) p = if (ws_al s).testBit p = true ∧ w p = 0 ∧ pl_w s w p ≠ 0 then p else pl_nx s w n (p + 1) := rfl
theorem pl_nx_or (s : ws_S) (w : Nat → Nat) : ∀ n p, pl_nx s w n p = 0 ∨ (p ≤ pl_nx s w n p ∧ pl_nx s w n p < p + n ∧ (ws_al s).testBit (pl_nx s w n p) = true ∧ w (pl_nx s w n p) = 0 ∧ pl_w s w (pl_nx s w n p) ≠ 0)
  | 0, _ => Or.inl rfl
  | n + 1, p => by
    unfold pl_nx
    split
    · rename_i h
      exact Or.inr ⟨by omega, by omega, h⟩
    · rcases pl_nx_or s w n (p + 1) with h | ⟨h1, h2, h3⟩
      · exact Or.inl h
      · exact Or.inr ⟨by omega, by omega, h3⟩
theorem sm_cong {f g : Nat → Nat} : ∀ {n : Nat}, (∀ k, k < n → f k = g k) → sm f n = sm g n
  | 0, _ => rfl
  | n + 1, h => by
    show sm f n + f n = sm g n + g n
    rw [sm_cong (fun k hk => h k (by omega)), h n (by omega)]
theorem pl_ct_up {w : Nat → Nat} {q h c : Nat} (q1 : 1 ≤ q) (q2 : q ≤ 15) (hw : w q = 0) (hc : c ≠ 0) : pl_ct (ws_up w q h) c = pl_ct w c + (if h = c then 1 else 0) := by
  unfold pl_ct
  have h1 := fb_ct_upd (fun i => decide (w (i + 1) = c)) (decide (h = c)) (i := q - 1) (n := 15) (by omega)
  have e : (fun k => if k = q - 1 then decide (h = c) else decide (w (k + 1) = c)) = fun i => decide (ws_up w q h (i + 1) = c) := by
    funext k
    unfold ws_up
    by_cases hk : k = q - 1
    · rw [if_pos hk, if_pos (by omega)]
    · rw [if_neg hk, if_neg (by omega)]
  rw [e] at h1
  have e2 : decide (w (q - 1 + 1) = c) = false := by
    rw [Nat.sub_add_cancel q1, hw]
    exact decide_eq_false (fun q => hc q.symm)
  simp only [e2] at h1
  rw [if_neg (by decide), Nat.add_zero] at h1
  rw [h1]
  by_cases hh : h = c
  · rw [decide_eq_true hh, if_pos rfl, if_pos hh]
  · rw [decide_eq_false hh, if_neg (by decide), if_neg hh]
theorem pl_n14 {s : ws_S} {r : pl_S} (hI : pl_I s r) {q : Nat} (q1 : 1 ≤ q) (q2 : q ≤ 15) (hq : r.1 q = 0) : r.2.2 ≤ 14 := by
  have h1 := fb_ct_upd (fun p => decide (r.1 p ≠ 0)) true (i := q) (n := 16) (by omega)
  simp only [hq] at h1
  have h2 := fb_ct_upd (fun p => if p = q then true else decide (r.1 p ≠ 0)) true (i := 0) (n := 16) (by omega)
  have h3 := fb_ct_le (fun k => if k = 0 then true else (fun p => if p = q then true else decide (r.1 p ≠ 0)) k) 16
  have e0 : (if (0 : Nat) = q then true else decide (r.1 0 ≠ 0)) = false := by
    rw [if_neg (by omega), hI.1.1]
    rfl
  simp only [e0] at h2
  have h4 := hI.2.1.1
  simp at h1 h2
  simp at h4
  simp at h3
  omega
theorem pl_I_ra {s : ws_S} {r : pl_S} (hI : pl_I s r) {q h : Nat} (q1 : 2 ≤ q) (q2 : q ≤ 15) (hq : r.1 q = 0) (ha : (ws_al s).testBit q = true) (h0 : h ≠ 0) (h4 : h ≤ 4) : pl_I s (pl_ra r q h) := by
  have hn := pl_n14 hI (by omega) q2 hq
  obtain ⟨⟨a1, a2, a3, a4⟩, ⟨b1, b2⟩, c1, d1, e1⟩ := hI
  have hne : ∀ i, i < r.2.2 → r.2.1 i ≠ q := fun i hi e => (c1 i hi).2.2 (by rw [e]; exact hq)
  refine ⟨⟨?_, ?_, fun p => ?_, fun p hp => ?_⟩, ⟨?_, ?_⟩, fun i hi => ?_, ?_, ?_⟩
  · show ws_up r.1 q h 0 = 0
    rw [ws_up_n _ _ (by omega)]
    exact a1
  · show ws_up r.1 q h 1 = 1
    rw [ws_up_n _ _ (by omega)]
    exact a2
  · show ws_up r.1 q h p ≤ 4
    unfold ws_up
    split
    · exact h4
    · exact a3 p
  · have hp2 : ws_up r.1 q h p ≠ 0 := hp
    by_cases hpq : p = q
    · rw [hpq]
      exact ha
    · rw [ws_up_n _ _ hpq] at hp2
      exact a4 p hp2
  · show fb_ct (fun p => decide (ws_up r.1 q h p ≠ 0)) 16 = r.2.2 + 1
    have h1 := fb_ct_upd (fun p => decide (r.1 p ≠ 0)) true (i := q) (n := 16) (by omega)
    have e : (fun k => if k = q then true else decide (r.1 k ≠ 0)) = fun p => decide (ws_up r.1 q h p ≠ 0) := by
      funext k
      unfold ws_up
      by_cases hk : k = q
      · rw [if_pos hk, if_pos hk]
        exact (decide_eq_true h0).symm
      · rw [if_neg hk, if_neg hk]
    rw [e, b1] at h1
    have e2 : decide (r.1 q ≠ 0) = false := decide_eq_false (fun k => k hq)
    simp only [e2] at h1
    rw [if_neg (by decide), if_pos trivial, Nat.add_zero] at h1
    exact h1
  · show 1 ≤ r.2.2 + 1
    omega
  · have hi2 : i < r.2.2 + 1 := hi
    show 1 ≤ ws_up r.2.1 r.2.2 q i ∧ ws_up r.2.1 r.2.2 q i ≤ 15 ∧ ws_up r.1 q h (ws_up r.2.1 r.2.2 q i) ≠ 0
    by_cases hin : i = r.2.2
    · rw [hin, ws_up_s, ws_up_s]
      exact ⟨by omega, q2, h0⟩
    · rw [ws_up_n _ _ hin, ws_up_n _ _ (hne i (by omega))]
      exact c1 i (by omega)
  · show sm (fun i => pl_g (ws_up r.1 q h (ws_up r.2.1 r.2.2 q (i + 1)))) (r.2.2 + 1 - 1) + 2 = 2 * pl_ct (ws_up r.1 q h) 1 + pl_ct (ws_up r.1 q h) 2 + pl_ct (ws_up r.1 q h) 3 + 3 * pl_ct (ws_up r.1 q h) 4
    rw [pl_ct_up (by omega) q2 hq (by omega), pl_ct_up (by omega) q2 hq (by omega), pl_ct_up (by omega) q2 hq (by omega), pl_ct_up (by omega) q2 hq (by omega)]
    obtain ⟨m, hm⟩ : ∃ m, r.2.2 = m + 1 := ⟨r.2.2 - 1, by omega⟩
    have e : sm (fun i => pl_g (ws_up r.1 q h (ws_up r.2.1 r.2.2 q (i + 1)))) (r.2.2 + 1 - 1) = sm (fun i => pl_g (r.1 (r.2.1 (i + 1)))) (r.2.2 - 1) + pl_g h := by
      rw [Nat.add_sub_cancel, hm, Nat.add_sub_cancel]
      show sm _ m + pl_g (ws_up r.1 q h (ws_up r.2.1 (m + 1) q (m + 1))) = _
      rw [ws_up_s, ws_up_s]
      congr 1
      refine sm_cong (fun k hk => ?_)
      show pl_g (ws_up r.1 q h (ws_up r.2.1 (m + 1) q (k + 1))) = _
      rw [ws_up_n r.2.1 q (show k + 1 ≠ m + 1 by omega), ws_up_n _ _ (hne (k + 1) (by omega))]
    have hg : pl_g h = if h = 1 then 2 else if h = 4 then 3 else 1 := rfl
    have hh : h = 1 ∨ h = 2 ∨ h = 3 ∨ h = 4 := by omega
    rw [e, hg]
    clear e hg
    generalize sm (fun i => pl_g (r.1 (r.2.1 (i + 1)))) (r.2.2 - 1) = S at d1 ⊢
    generalize pl_ct r.1 1 = A1 at d1 ⊢
    generalize pl_ct r.1 2 = A2 at d1 ⊢
    generalize pl_ct r.1 3 = A3 at d1 ⊢
    generalize pl_ct r.1 4 = A4 at d1 ⊢
    rcases hh with rfl | rfl | rfl | rfl <;> simp <;> omega
  · show fb_ct (fun i => decide (ws_up r.1 q h (ws_up r.2.1 r.2.2 q i) = 4)) (r.2.2 + 1) = pl_ct (ws_up r.1 q h) 4
    rw [pl_ct_up (by omega) q2 hq (by omega), fb_ct_succ, ws_up_s, ws_up_s, ← e1]
    congr 1
    · refine fb_ct_cong (fun k hk => ?_)
      rw [ws_up_n r.2.1 q (show k ≠ r.2.2 by omega), ws_up_n _ _ (hne k hk)]
    · by_cases hh : h = 4
      · rw [decide_eq_true hh, if_pos rfl, if_pos hh]
      · rw [decide_eq_false hh, if_neg (by decide), if_neg hh]
theorem pl_I_0 {s : ws_S} (h1 : (ws_al s).testBit 1 = true) : pl_I s pl_0 := by
  refine ⟨⟨rfl, rfl, fun p => ?_, fun p hp => ?_⟩, ⟨by decide, by decide⟩, fun i hi => ?_, by decide, by decide⟩
  · show ws_up (fun _ => 0) 1 1 p ≤ 4
    unfold ws_up
    split
    · omega
    · show (0 : Nat) ≤ 4
      omega
  · have hp2 : ws_up (fun _ => 0) 1 1 p ≠ 0 := hp
    unfold ws_up at hp2
    split at hp2
    · rename_i e
      rw [e]
      exact h1
    · exact absurd rfl hp2
  · have hi2 : i < 1 := hi
    have : i = 0 := by omega
    subst this
    exact ⟨by decide, by decide, by decide⟩
theorem pl_I_st {s : ws_S} {r : pl_S} (hI : pl_I s r) : pl_I s (pl_st s r) := by
  unfold pl_st
  split
  · exact hI
  · rename_i h
    obtain ⟨h1, h2, h3, h4, h5⟩ := (pl_nx_or s r.1 14 2).resolve_left h
    exact pl_I_ra hI h1 (by omega) h4 h3 h5 (pl_w_le s r.1 _)
theorem pl_I_go {s : ws_S} (h1 : (ws_al s).testBit 1 = true) : ∀ k, pl_I s (pl_go s k)
  | 0 => pl_I_0 h1
  | k + 1 => pl_I_st (pl_I_go h1 k)
theorem pl_go_stay {s : ws_S} {k : Nat} (h : pl_nx s (pl_go s k).1 14 2 = 0) : ∀ m, pl_go s (k + m) = pl_go s k
  | 0 => rfl
  | m + 1 => by
    show pl_st s (pl_go s (k + m)) = _
    rw [pl_go_stay h m, pl_st, if_pos h]
theorem pl_go_sz {s : ws_S} : ∀ k, (∀ j, j < k → pl_nx s (pl_go s j).1 14 2 ≠ 0) → (pl_go s k).2.2 = k + 1
  | 0, _ => rfl
  | k + 1, h => by
    show (pl_st s (pl_go s k)).2.2 = _
    rw [pl_st, if_neg (h k (by omega))]
    show (pl_go s k).2.2 + 1 = _
    rw [pl_go_sz k (fun j hj => h j (by omega))]
theorem pl_full {s : ws_S} (h1 : (ws_al s).testBit 1 = true) (h : ∀ j, j < 14 → pl_nx s (pl_go s j).1 14 2 ≠ 0) : pl_nx s (pl_go s 14).1 14 2 = 0 := by
  have hz := pl_go_sz 14 h
  rcases pl_nx_or s (pl_go s 14).1 14 2 with h2 | ⟨a1, a2, a3, a4, a5⟩
  · exact h2
  · have := pl_n14 (pl_I_go h1 14) (by omega) (by omega) a4
    omega
theorem pl_L_bit (s : ws_S) (w : Nat → Nat) {i : Nat} (hi : i < 15) : (pl_L s w).testBit i = ((ws_al s).testBit (i + 1) && decide (w (i + 1) = 0)) := by
  unfold pl_L
  rw [bs_bit, decide_eq_true hi, Bool.true_and]
theorem pl_L_lt (s : ws_S) (w : Nat → Nat) : pl_L s w < 2 ^ 15 := bs_lt _ 15
theorem pl_L_ra {s : ws_S} {w : Nat → Nat} {q h : Nat} (q1 : 1 ≤ q) (q2 : q ≤ 15) (hw : w q = 0) (ha : (ws_al s).testBit q = true) (h0 : h ≠ 0) : pl_L s w ^^^ 2 ^ (q - 1) = pl_L s (ws_up w q h) := by
  apply Nat.eq_of_testBit_eq
  intro i
  rw [fb_bit_flip]
  unfold pl_L
  rw [bs_bit, bs_bit]
  by_cases hi : i = q - 1
  · have e : i + 1 = q := by omega
    rw [e, ws_up_s, hw, ha, decide_eq_true (by omega), decide_eq_false h0, decide_eq_true hi]
    rfl
  · rw [ws_up_n _ _ (by omega), decide_eq_false hi, Bool.xor_false]
theorem pl_L_n {s : ws_S} (hW : ws_W s) : pl_L s (fun _ => 0) = ws_al s / 2 := by
  apply Nat.eq_of_testBit_eq
  intro i
  unfold pl_L
  rw [bs_bit, Nat.testBit_div_two]
  by_cases hi : i < 15
  · rw [decide_eq_true hi, decide_eq_true rfl, Bool.true_and, Bool.and_true]
  · rw [decide_eq_false hi, Bool.false_and]
    refine (Nat.testBit_lt_two_pow ?_).symm
    exact Nat.lt_of_lt_of_le hW.1.1 (Nat.pow_le_pow_right (by omega) (by omega))
theorem pl_R_bit (w : Nat → Nat) {i : Nat} (hi : i < 16) : (pl_R w).testBit i = decide (w i ≠ 0) := by
  unfold pl_R
  rw [bs_bit, decide_eq_true hi, Bool.true_and]
theorem pl_R_lt (w : Nat → Nat) : pl_R w < 2 ^ 16 := bs_lt _ 16
theorem pl_R_ra {w : Nat → Nat} {q h : Nat} (q2 : q ≤ 15) (h0 : h ≠ 0) : pl_R w ||| 2 ^ q = pl_R (ws_up w q h) := by
  apply Nat.eq_of_testBit_eq
  intro i
  rw [fb_bit_set]
  unfold pl_R
  rw [bs_bit, bs_bit]
  by_cases hi : i = q
  · subst hi
    rw [ws_up_s, decide_eq_true (show i < 16 by omega), decide_eq_true h0, decide_eq_true rfl, Bool.or_true]
    rfl
  · rw [ws_up_n _ _ hi, decide_eq_false hi, Bool.or_false]
theorem pl_lost {s : ws_S} {w : Nat → Nat} (hW : ws_W s) : nI (ws_al s) &&& (nI (pl_R w) ^^^ -1) = nI (2 * pl_L s w) := by
  apply b_ext
  intro i hi
  rw [b_and, b_xor, b_m1 i hi, bt_nI _ _ hi, bt_nI _ _ hi, bt_nI _ _ hi, Bool.xor_true]
  rcases Nat.eq_zero_or_pos i with h0 | h0
  · subst h0
    rw [hW.1.2.2.1, Bool.false_and, Nat.testBit_zero]
    exact (decide_eq_false (by omega)).symm
  · have e : (2 * pl_L s w).testBit i = (pl_L s w).testBit (i - 1) := by
      have := Nat.testBit_div_two (2 * pl_L s w) (i - 1)
      rw [Nat.mul_div_cancel_left _ (by omega), Nat.sub_add_cancel h0] at this
      exact this.symm
    rw [e]
    by_cases h15 : i ≤ 15
    · rw [pl_L_bit s w (by omega), pl_R_bit w (by omega), Nat.sub_add_cancel h0]
      congr 1
      by_cases hz : w i = 0
      · rw [decide_eq_true hz, decide_eq_false (fun q => q hz)]
        rfl
      · rw [decide_eq_false hz, decide_eq_true hz]
        rfl
    · have h1 : (ws_al s).testBit i = false := Nat.testBit_lt_two_pow (Nat.lt_of_lt_of_le hW.1.1 (Nat.pow_le_pow_right (by omega) (by omega)))
      have h2 : (pl_L s w).testBit (i - 1) = false := Nat.testBit_lt_two_pow (Nat.lt_of_lt_of_le (pl_L_lt s w) (Nat.pow_le_pow_right (by omega) (by omega)))
      rw [h1, h2]
      rfl
/-- a plan as the class has it, as the reference has it -/
def pl_C (s : ws_S) (r : pl_S) (M : px_Mem) : Prop := M.1 44 2 = nI r.2.2 ∧ M.1 44 3 = nI (pl_L s r.1) ∧ (∀ p, p < 16 → M.1 45 p = nI (r.1 p)) ∧ ∀ i, i < r.2.2 → M.1 46 i = nI (r.2.1 i)
def pl_M (r : pl_S) (M : px_Mem) : Prop := M.1 56 43 = nI (pl_R r.1) ∧ M.1 56 46 = nI r.2.2 ∧ (∀ p, p < 16 → M.1 85 p = nI (r.1 p)) ∧ ∀ i, i < r.2.2 → M.1 86 i = nI (r.2.1 i)
section P49
variable {M : px_Mem} {Q : px_Po} {y : iv_Y} {s : ws_S} {o : Nat} {r : pl_S}
theorem sw_20 (ho : px_isW o) (hC : ws_C s o M) (hW : ws_W s) (hP : pl_C s r M) (hr : ∀ p, r.1 p ≤ 4) {p : Nat} (p2 : p ≤ 15) (h : Q (some (.int (nI (pl_w s r.1 p)))) M) : px_T 0 20 0 [some (.ref 44), some (.ref o), some (.int (nI p)), none, none] [] M Q := by
  have b1 := hW.2.1 p
  have b2 := hW.2.2.1 p
  have b3 := hW.2.2.1 (ws_pa s p)
  have b4 := hW.2.1 (ws_pa s p)
  have b5 := hW.2.2.1 (ws_pa s (ws_pa s p))
  have b6 := hr (ws_pa s p)
  have b7 := hr (ws_se s p)
  have f1 := hC.2.1 p (by omega)
  have f2 := hC.2.2.1 p (by omega)
  have f3 := hC.2.2.1 (ws_pa s p) (by omega)
  have f4 := hC.2.1 (ws_pa s p) (by omega)
  have f5 := hC.2.2.1 (ws_pa s (ws_pa s p)) (by omega)
  have f6 := hP.2.2.1 (ws_pa s p) (by omega)
  have f7 := hP.2.2.1 (ws_se s p) (by omega)
  unfold pl_w at h
  refine sg_20_0 ho (by (try simp (disch := omega) only [in_lt, in_le, in_eq, in_add, in_mul, in_sb, in_cl, in_bz, in_bo, in_mo, not_true_eq_false, not_false_eq_true, il_0, il_1, il_2, il_3, il_4, il_5, il_6, il_7, il_8, il_9, il_10, il_11, il_12, il_13, il_14, il_15, il_16, il_31, f1, f2, f3, f4, f5, f6, f7] at ⊢) <;> exact me_vin (by omega) (by omega)) (by (try simp (disch := omega) only [in_lt, in_le, in_eq, in_add, in_mul, in_sb, in_cl, in_bz, in_bo, in_mo, not_true_eq_false, not_false_eq_true, il_0, il_1, il_2, il_3, il_4, il_5, il_6, il_7, il_8, il_9, il_10, il_11, il_12, il_13, il_14, il_15, il_16, il_31, f1, f2, f3, f4, f5, f6, f7] at ⊢) <;> exact me_vin (by omega) (by omega)) (fun c1 => ?_) (fun c1 c2 => ?_) (fun c1 c2 c3 => ?_) (fun c1 c2 c3 c4 => by (try simp (disch := omega) only [in_lt, in_le, in_eq, in_add, in_mul, in_sb, in_cl, in_bz, in_bo, in_mo, not_true_eq_false, not_false_eq_true, il_0, il_1, il_2, il_3, il_4, il_5, il_6, il_7, il_8, il_9, il_10, il_11, il_12, il_13, il_14, il_15, il_16, il_31, f1, f2, f3, f4, f5, f6, f7] at c1 c2 c3 c4 ⊢) <;> exact me_vin (by omega) (by omega)) (fun c1 c2 c3 c4 c5 => ?_) (fun c1 c2 c3 c4 c5 => ?_) (fun c1 c2 c3 c4 c5 => by (try simp (disch := omega) only [in_lt, in_le, in_eq, in_add, in_mul, in_sb, in_cl, in_bz, in_bo, in_mo, not_true_eq_false, not_false_eq_true, il_0, il_1, il_2, il_3, il_4, il_5, il_6, il_7, il_8, il_9, il_10, il_11, il_12, il_13, il_14, il_15, il_16, il_31, f1, f2, f3, f4, f5, f6, f7] at c1 c2 c3 c4 c5 ⊢) <;> exact me_vin (by omega) (by omega)) (fun c1 c2 c3 c4 c5 c6 => ?_) (fun c1 c2 c3 c4 c5 c6 => ?_) (fun c1 c2 c3 c4 c5 => ?_)
  · simp (disch := omega) only [in_lt, in_le, in_eq, in_add, in_mul, in_sb, in_cl, in_bz, in_bo, in_mo, not_true_eq_false, not_false_eq_true, il_0, il_1, il_2, il_3, il_4, il_5, il_6, il_7, il_8, il_9, il_10, il_11, il_12, il_13, il_14, il_15, il_16, il_31, f1, f2, f3, f4, f5, f6, f7] at c1
    rw [if_pos c1] at h
    exact h
  · simp (disch := omega) only [in_lt, in_le, in_eq, in_add, in_mul, in_sb, in_cl, in_bz, in_bo, in_mo, not_true_eq_false, not_false_eq_true, il_0, il_1, il_2, il_3, il_4, il_5, il_6, il_7, il_8, il_9, il_10, il_11, il_12, il_13, il_14, il_15, il_16, il_31, f1, f2, f3, f4, f5, f6, f7] at c1 c2
    rw [if_neg c1, if_pos c2] at h
    exact h
  · simp (disch := omega) only [in_lt, in_le, in_eq, in_add, in_mul, in_sb, in_cl, in_bz, in_bo, in_mo, not_true_eq_false, not_false_eq_true, il_0, il_1, il_2, il_3, il_4, il_5, il_6, il_7, il_8, il_9, il_10, il_11, il_12, il_13, il_14, il_15, il_16, il_31, f1, f2, f3, f4, f5, f6, f7] at c1 c2 c3
    rw [if_neg c1, if_neg c2, if_pos c3] at h
    exact h
  · simp (disch := omega) only [in_lt, in_le, in_eq, in_add, in_mul, in_sb, in_cl, in_bz, in_bo, in_mo, not_true_eq_false, not_false_eq_true, il_0, il_1, il_2, il_3, il_4, il_5, il_6, il_7, il_8, il_9, il_10, il_11, il_12, il_13, il_14, il_15, il_16, il_31, f1, f2, f3, f4, f5, f6, f7] at c1 c2 c3 c4 c5
    rw [if_neg c1, if_neg c2, if_neg c3, if_pos c4, if_pos c5] at h
    exact h
  · simp (disch := omega) only [in_lt, in_le, in_eq, in_add, in_mul, in_sb, in_cl, in_bz, in_bo, in_mo, not_true_eq_false, not_false_eq_true, il_0, il_1, il_2, il_3, il_4, il_5, il_6, il_7, il_8, il_9, il_10, il_11, il_12, il_13, il_14, il_15, il_16, il_31, f1, f2, f3, f4, f5, f6, f7] at c1 c2 c3 c4 c5
    rw [if_neg c1, if_neg c2, if_neg c3, if_pos c4, if_neg c5] at h
    exact h
  · simp (disch := omega) only [in_lt, in_le, in_eq, in_add, in_mul, in_sb, in_cl, in_bz, in_bo, in_mo, not_true_eq_false, not_false_eq_true, il_0, il_1, il_2, il_3, il_4, il_5, il_6, il_7, il_8, il_9, il_10, il_11, il_12, il_13, il_14, il_15, il_16, il_31, f1, f2, f3, f4, f5, f6, f7] at c1 c2 c3 c4 c5 c6
    rw [if_neg c1, if_neg c2, if_neg c3, if_neg c4, if_pos ⟨c5, c6⟩] at h
    exact h
  · simp (disch := omega) only [in_lt, in_le, in_eq, in_add, in_mul, in_sb, in_cl, in_bz, in_bo, in_mo, not_true_eq_false, not_false_eq_true, il_0, il_1, il_2, il_3, il_4, il_5, il_6, il_7, il_8, il_9, il_10, il_11, il_12, il_13, il_14, il_15, il_16, il_31, f1, f2, f3, f4, f5, f6, f7] at c1 c2 c3 c4 c5 c6
    rw [if_neg c1, if_neg c2, if_neg c3, if_neg c4, if_neg (fun q => c6 q.2)] at h
    exact h
  · simp (disch := omega) only [in_lt, in_le, in_eq, in_add, in_mul, in_sb, in_cl, in_bz, in_bo, in_mo, not_true_eq_false, not_false_eq_true, il_0, il_1, il_2, il_3, il_4, il_5, il_6, il_7, il_8, il_9, il_10, il_11, il_12, il_13, il_14, il_15, il_16, il_31, f1, f2, f3, f4, f5, f6, f7] at c1 c2 c3 c4 c5
    rw [if_neg c1, if_neg c2, if_neg c3, if_neg c4, if_neg (fun q => c5 q.1)] at h
    exact h
theorem sw_18 (hP : pl_C s r M) {q k : Nat} (q1 : 1 ≤ q) (q2 : q ≤ 15) (hq : r.1 q = 0) (ha : (ws_al s).testBit q = true) (hn : r.2.2 ≤ 14) (h0 : k ≠ 0) (h : ∀ M', me_fr [44, 45, 46] M M' → pl_C s (pl_ra r q k) M' → Q none M') : px_T 0 18 0 [some (.ref 44), some (.int (nI q)), some (.int (nI k))] [] M Q := by
  obtain ⟨p1, p2, p3, p4⟩ := hP
  refine sg_18_0 (fun c1 => by exfalso; (try simp (disch := omega) only [in_lt, in_le, in_eq, in_add, in_mul, in_sb, in_cl, in_bz, in_bo, in_mo, not_true_eq_false, not_false_eq_true, il_0, il_1, il_2, il_3, il_4, il_5, il_6, il_7, il_8, il_9, il_10, il_11, il_12, il_13, il_14, il_15, il_16, il_31, p1] at c1) <;> omega) (fun c1 => by (try simp (disch := omega) only [in_lt, in_le, in_eq, in_add, in_mul, in_sb, in_cl, in_bz, in_bo, in_mo, not_true_eq_false, not_false_eq_true, il_0, il_1, il_2, il_3, il_4, il_5, il_6, il_7, il_8, il_9, il_10, il_11, il_12, il_13, il_14, il_15, il_16, il_31, p1] at c1 ⊢) <;> exact me_vin (by omega) (by omega)) (fun c1 => by (try simp (disch := omega) only [in_lt, in_le, in_eq, in_add, in_mul, in_sb, in_cl, in_bz, in_bo, in_mo, not_true_eq_false, not_false_eq_true, il_0, il_1, il_2, il_3, il_4, il_5, il_6, il_7, il_8, il_9, il_10, il_11, il_12, il_13, il_14, il_15, il_16, il_31, p1] at c1 ⊢) <;> exact me_vin (by omega) (by omega)) (fun c1 => ?_)
  rw [p1, p2, in_cl (by omega), in_cl (by omega), in_a1]
  refine sp_161 q1 (by omega) (sg_18_48 ?_)
  have hb : (pl_L s r.1).testBit (q - 1) = true := by
    rw [pl_L_bit s r.1 (by omega), Nat.sub_add_cancel q1, ha, hq]
    rfl
  rw [in_clr hb, pl_L_ra q1 q2 hq ha h0]
  refine h _ (me_fr_I (me_fr_I (me_fr_I (me_fr_I me_fr_rf (by simp)) (by simp)) (by simp)) (by simp)) ⟨?_, ?_, fun p hp => ?_, fun i hi => ?_⟩
  · simp (disch := omega) only [me_II, me_Ii, me_Io, me_I2, me_L1, me_Li, me_LL, me_Lo, me_As, me_Ao, me_A2, me_Bs, me_Bo, me_B1]; rfl
  · simp (disch := omega) only [me_II, me_Ii, me_Io, me_I2, me_L1, me_Li, me_LL, me_Lo, me_As, me_Ao, me_A2, me_Bs, me_Bo, me_B1]; rfl
  · show _ = nI (ws_up r.1 q k p)
    by_cases hpq : p = q
    · subst hpq
      simp (disch := omega) only [me_II, me_Ii, me_Io, me_I2, me_L1, me_Li, me_LL, me_Lo, me_As, me_Ao, me_A2, me_Bs, me_Bo, me_B1, ws_up_s]
    · simp (disch := omega) only [me_II, me_Ii, me_Io, me_I2, me_L1, me_Li, me_LL, me_Lo, me_As, me_Ao, me_A2, me_Bs, me_Bo, me_B1, ws_up_n _ _ hpq]
      exact p3 p hp
  · have hi2 : i < r.2.2 + 1 := hi
    show _ = nI (ws_up r.2.1 r.2.2 q i)
    by_cases hin : i = r.2.2
    · subst hin
      simp (disch := omega) only [me_II, me_Ii, me_Io, me_I2, me_L1, me_Li, me_LL, me_Lo, me_As, me_Ao, me_A2, me_Bs, me_Bo, me_B1, ws_up_s]
    · simp (disch := omega) only [me_II, me_Ii, me_Io, me_I2, me_L1, me_Li, me_LL, me_Lo, me_As, me_Ao, me_A2, me_Bs, me_Bo, me_B1, ws_up_n _ _ hin]
      exact p4 i (by omega)
theorem sw_19l (ho : px_isW o) (hC : ws_C s o M) (hW : ws_W s) (hP : pl_C s r M) (hI : pl_I s r) (h : ∀ M', me_fr [44, 45, 46] M M' → pl_C s (pl_st s r) M' → Q none M') : ∀ (n p : Nat) (d3 : Option Value), p + n = 16 → 2 ≤ p → pl_nx s r.1 14 2 = pl_nx s r.1 n p → px_T 0 19 2 [some (.ref 44), some (.ref o), some (.int (nI p)), d3] [] M Q
  | 0, p, d3, hp, p1, hx => by
    refine sg_19_2 ho (fun c1 => ?_) (fun c1 => by exfalso; (try simp (disch := omega) only [in_lt, in_le, in_eq, in_add, in_mul, in_sb, in_cl, in_bz, in_bo, in_mo, not_true_eq_false, not_false_eq_true, il_0, il_1, il_2, il_3, il_4, il_5, il_6, il_7, il_8, il_9, il_10, il_11, il_12, il_13, il_14, il_15, il_16, il_31] at c1) <;> omega)
    have e : pl_st s r = r := if_pos hx
    rw [e] at h
    exact h M me_fr_rf hP
  | n + 1, p, d3, hp, p1, hx => by
    refine sg_19_2 ho (fun c1 => by exfalso; (try simp (disch := omega) only [in_lt, in_le, in_eq, in_add, in_mul, in_sb, in_cl, in_bz, in_bo, in_mo, not_true_eq_false, not_false_eq_true, il_0, il_1, il_2, il_3, il_4, il_5, il_6, il_7, il_8, il_9, il_10, il_11, il_12, il_13, il_14, il_15, il_16, il_31] at c1) <;> omega) (fun c1 => ?_)
    refine sp_161 (by omega) (by omega) ?_
    rw [hP.2.1]
    rw [pl_nx_s s r.1 n p] at hx
    have hlb := pl_L_bit s r.1 (i := p - 1) (by omega)
    rw [Nat.sub_add_cancel (by omega)] at hlb
    have hbit : nI (pl_L s r.1) &&& nI (2 ^ (p - 1)) = 0 ↔ (pl_L s r.1).testBit (p - 1) = false := fa_bit (by omega)
    refine sg_19_16 ho (fun c => ?_) (fun c => ?_)
    · rw [hbit, hlb] at c
      have hno : ¬ ((ws_al s).testBit p = true ∧ r.1 p = 0 ∧ pl_w s r.1 p ≠ 0) := by
        rintro ⟨a1, a2, _⟩
        rw [a1, a2] at c
        exact absurd c (by decide)
      rw [if_neg hno] at hx
      rw [in_a1]
      exact sw_19l ho hC hW hP hI h n (p + 1) _ (by omega) (by omega) hx
    · rw [hbit, hlb, Bool.not_eq_false, Bool.and_eq_true, decide_eq_true_iff] at c
      refine sw_20 ho hC hW hP hI.1.2.2.1 (by omega) ?_
      have hwl := pl_w_le s r.1 p
      refine sg_19_26 ho (fun d => ?_) (fun d => ?_)
      · simp (disch := omega) only [in_lt, in_le, in_eq, in_add, in_mul, in_sb, in_cl, in_bz, in_bo, in_mo, not_true_eq_false, not_false_eq_true, il_0, il_1, il_2, il_3, il_4, il_5, il_6, il_7, il_8, il_9, il_10, il_11, il_12, il_13, il_14, il_15, il_16, il_31] at d
        rw [if_neg (fun q => q.2.2 d)] at hx
        rw [in_a1]
        exact sw_19l ho hC hW hP hI h n (p + 1) _ (by omega) (by omega) hx
      · simp (disch := omega) only [in_lt, in_le, in_eq, in_add, in_mul, in_sb, in_cl, in_bz, in_bo, in_mo, not_true_eq_false, not_false_eq_true, il_0, il_1, il_2, il_3, il_4, il_5, il_6, il_7, il_8, il_9, il_10, il_11, il_12, il_13, il_14, il_15, il_16, il_31] at d
        rw [if_pos ⟨c.1, c.2, d⟩] at hx
        refine sw_18 hP (by omega) (by omega) c.2 c.1 (pl_n14 hI (by omega) (by omega) c.2) d (fun M' k1 k2 => sg_19_41 (h M' k1 ?_))
        unfold pl_st
        rw [if_neg (by omega), hx]
        exact k2
theorem pl_C_0 {M1 : px_Mem} (hC : ws_C s o M) (hW : ws_W s) (h1 : ∀ p, p < 16 → M1.1 45 p = 0) (h2 : M1.1 44 2 = 0) (h3 : M1.1 44 3 = M.1 o 0) : pl_C s pl_n M1 := by
  refine ⟨h2, ?_, fun p hp => h1 p hp, fun i hi => absurd hi (Nat.not_lt_zero i)⟩
  rw [h3, hC.1.1]
  congr 1
  exact (pl_L_n hW).symm
theorem sw_16 (ho : px_isW o) (hC : ws_C s o M) (hW : ws_W s) (h : ∀ M', me_fr [44, 45, 46] M M' → pl_C s (pl_of s) M' → Q none M') : px_T 0 16 0 [some (.ref 44), some (.ref o), none] [] M Q := by
  have o1 : o = 29 ∨ o = 47 := ho
  refine sg_16_0 ho (sp_340 rfl (by omega) (sg_16_8 ho ?_))
  have e0 : (px_aI M 45 (fa_fill (fun _ => 0) (M.1 45) 16)).1 o 0 = M.1 o 0 := by rw [me_Ao (by omega)]
  rw [e0]
  generalize hM1 : px_wI (px_wI (px_aI M 45 (fa_fill (fun _ => 0) (M.1 45) 16)) 44 2 0) 44 3 (M.1 o 0) = M1
  have fr1 : me_fr [44, 45, 46] M M1 := by
    subst hM1
    exact me_fr_I (me_fr_I (me_fr_A me_fr_rf (by simp)) (by simp)) (by simp)
  have hC1 : ∀ M', me_fr [44, 45, 46] M M' → ws_C s o M' := fun M' k => ws_C_fr hC (fun a h1 h2 _ => (k a (by simp; omega)).1)
  have p0 : pl_C s pl_n M1 := by
    subst hM1
    refine pl_C_0 hC hW (fun p hp => ?_) ?_ ?_
    · simp (disch := omega) only [me_II, me_Ii, me_Io, me_I2, me_L1, me_Li, me_LL, me_Lo, me_As, me_Ao, me_A2, me_Bs, me_Bo, me_B1]
      rw [fa_fill_in hp]
    · simp (disch := omega) only [me_II, me_Ii, me_Io, me_I2, me_L1, me_Li, me_LL, me_Lo, me_As, me_Ao, me_A2, me_Bs, me_Bo, me_B1]
    · simp (disch := omega) only [me_II, me_Ii, me_Io, me_I2, me_L1, me_Li, me_LL, me_Lo, me_As, me_Ao, me_A2, me_Bs, me_Bo, me_B1]
  refine sw_18 (q := 1) (k := 1) p0 (by omega) (by omega) rfl hW.1.2.2.2.1 (by show (0 : Nat) ≤ 14; omega) (by omega) (fun M2 k2 p2 => sg_16_27 ho ?_)
  have hl : ∀ (n i : Nat) (N : px_Mem), i + n = 14 → me_fr [44, 45, 46] M N → pl_C s (pl_go s i) N → px_T 0 16 29 [some (.ref 44), some (.ref o), some (.int (nI (i + 1)))] [] N Q := by
    intro n
    induction n with
    | zero =>
      intro i N hi k1 k3
      have e : i = 14 := by omega
      subst e
      refine sg_16_29 ho (fun c1 => ?_) (fun c1 => by exfalso; (try simp (disch := omega) only [in_lt, in_le, in_eq, in_add, in_mul, in_sb, in_cl, in_bz, in_bo, in_mo, not_true_eq_false, not_false_eq_true, il_0, il_1, il_2, il_3, il_4, il_5, il_6, il_7, il_8, il_9, il_10, il_11, il_12, il_13, il_14, il_15, il_16, il_31] at c1) <;> omega)
      exact h N k1 k3
    | succ n ih =>
      intro i N hi k1 k3
      refine sg_16_29 ho (fun c1 => by exfalso; (try simp (disch := omega) only [in_lt, in_le, in_eq, in_add, in_mul, in_sb, in_cl, in_bz, in_bo, in_mo, not_true_eq_false, not_false_eq_true, il_0, il_1, il_2, il_3, il_4, il_5, il_6, il_7, il_8, il_9, il_10, il_11, il_12, il_13, il_14, il_15, il_16, il_31] at c1) <;> omega) (fun c1 => ?_)
      refine sg_19_0 ho (sw_19l ho (hC1 N k1) hW k3 (pl_I_go hW.1.2.2.2.1 i) (fun M' k4 k5 => sg_16_40 ho ?_) 14 2 _ rfl (by omega) rfl)
      rw [in_a1]
      exact ih (i + 1) M' (by omega) (me_fr_tr k1 k4) k5
  exact hl 14 0 M2 rfl (me_fr_tr fr1 k2) p2
theorem sw_17 (hP : pl_C s r M) (hr : ∀ p, r.1 p ≤ 4) {c : Nat} (hc : c < 2 ^ 30) (h : Q (some (.int (nI (pl_ct r.1 c)))) M) : px_T 0 17 0 [some (.ref 44), some (.int (nI c)), none, none] [] M Q := by
  refine sg_17_0 ?_
  have hl : ∀ i, i ≤ 15 → px_T 0 17 4 [some (.ref 44), some (.int (nI c)), some (.int (nI (fb_ct (fun i => decide (r.1 (i + 1) = c)) i))), some (.int (nI (i + 1)))] [] M Q := by
    refine lp_dn ?_ (fun i hi ih => ?_)
    · refine sg_17_4 (fun c1 => ?_) (fun c1 => by exfalso; (try simp (disch := omega) only [in_lt, in_le, in_eq, in_add, in_mul, in_sb, in_cl, in_bz, in_bo, in_mo, not_true_eq_false, not_false_eq_true, il_0, il_1, il_2, il_3, il_4, il_5, il_6, il_7, il_8, il_9, il_10, il_11, il_12, il_13, il_14, il_15, il_16, il_31] at c1) <;> omega) (fun c1 c2 => by exfalso; (try simp (disch := omega) only [in_lt, in_le, in_eq, in_add, in_mul, in_sb, in_cl, in_bz, in_bo, in_mo, not_true_eq_false, not_false_eq_true, il_0, il_1, il_2, il_3, il_4, il_5, il_6, il_7, il_8, il_9, il_10, il_11, il_12, il_13, il_14, il_15, il_16, il_31] at c1 c2) <;> omega) (fun c1 c2 => by exfalso; (try simp (disch := omega) only [in_lt, in_le, in_eq, in_add, in_mul, in_sb, in_cl, in_bz, in_bo, in_mo, not_true_eq_false, not_false_eq_true, il_0, il_1, il_2, il_3, il_4, il_5, il_6, il_7, il_8, il_9, il_10, il_11, il_12, il_13, il_14, il_15, il_16, il_31] at c1 c2) <;> omega)
      exact h
    · have f := hP.2.2.1 (i + 1) (by omega)
      have b := hr (i + 1)
      refine sg_17_4 (fun c1 => by exfalso; (try simp (disch := omega) only [in_lt, in_le, in_eq, in_add, in_mul, in_sb, in_cl, in_bz, in_bo, in_mo, not_true_eq_false, not_false_eq_true, il_0, il_1, il_2, il_3, il_4, il_5, il_6, il_7, il_8, il_9, il_10, il_11, il_12, il_13, il_14, il_15, il_16, il_31] at c1) <;> omega) (fun c1 => by (try simp (disch := omega) only [in_lt, in_le, in_eq, in_add, in_mul, in_sb, in_cl, in_bz, in_bo, in_mo, not_true_eq_false, not_false_eq_true, il_0, il_1, il_2, il_3, il_4, il_5, il_6, il_7, il_8, il_9, il_10, il_11, il_12, il_13, il_14, il_15, il_16, il_31] at c1 ⊢) <;> exact me_vin (by omega) (by omega)) (fun c1 c2 => ?_) (fun c1 c2 => ?_)
      · rw [in_cl (by omega), f, in_eq (by omega) (by omega)] at c2
        rw [ct_y (decide_eq_true c2)] at ih
        rw [in_a1, in_a1]
        exact ih
      · rw [in_cl (by omega), f, in_eq (by omega) (by omega)] at c2
        rw [ct_n (decide_eq_false c2)] at ih
        rw [in_a1]
        exact ih
  exact hl 0 (by omega)
end P49
