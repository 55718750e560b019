/-! the small methods of a World -/
section W34
variable {o : Nat} {M : px_Mem} {Q : px_Po}
theorem sp_63 (ho : px_isW o) {a p : Nat} (hl : M.1 o 0 = nI (a / 2)) (ha : a < 2 ^ 16) (h1 : 1 ≤ p) (h2 : p ≤ 15) (h : Q (some (.int (in_b (a.testBit p)))) M) : px_T 0 63 0 [some (.ref o), some (.int (nI p))] [] M Q := by
  have hb : (((M.1 o 0) >>> ((nI p - 1) &&& 31)) &&& 1) = 0 ↔ a.testBit p = false := by
    rw [hl, in_s1 h1, in_bit0 (by omega) (by omega), in_tb2 a p h1]
  refine sg_63_0 ho (fun c => absurd c (nI_nlt (b := 1) h1 (by omega))) (fun _ c => absurd c (nI_nlt (a := 15) h2 (by omega))) (fun _ _ c => ?_) (fun _ _ c => ?_)
  · rw [hb] at c
    rw [c] at h
    exact h
  · rw [hb] at c
    rw [Bool.not_eq_false] at c
    rw [c] at h
    exact h
theorem sp_64 (ho : px_isW o) {a p : Nat} {pa : Nat → Nat} (hl : M.1 o 0 = nI (a / 2)) (ha : a < 2 ^ 16) (hp : M.1 (o + 1) p = nI (pa p)) (h1 : 1 ≤ p) (h2 : p ≤ 15) (h : Q (some (.int (if a.testBit p then nI (pa p) else -1))) M) : px_T 0 64 0 [some (.ref o), some (.int (nI p))] [] M Q := by
  refine sg_64_0 ho (sp_63 ho hl ha h1 h2 ?_)
  refine sg_64_5 ho (fun c => ?_) (fun _ => me_vin (by omega) (by omega)) (fun c => ?_)
  · rw [in_b0] at c
    rw [c] at h
    exact h
  · rw [in_b0, Bool.not_eq_false] at c
    rw [c] at h
    rw [in_cl (by omega), hp]
    exact h
theorem sp_66l (ho : px_isW o) {pa : Nat → Nat} {q : Nat} {d1 : Option Value} (hpa : ∀ p, p < 16 → M.1 (o + 1) p = nI (pa p)) (hpb : ∀ p, p < 16 → pa p < 16) (hq : 1 ≤ q) (hq2 : q < 16) : ∀ (n i a : Nat), i + n = 16 → a < 16 → Q (some (.int (in_b (if a = 0 then false else ws_hb pa q n (pa a))))) M → px_T 0 66 5 [some (.ref o), d1, some (.int (nI q)), some (.int (nI a)), some (.int (nI i))] [] M Q
  | 0, i, a, hi, ha, h => by
    refine sg_66_5 ho (fun _ => ?_) (fun c => absurd (nI_lt (a := 15) (by omega) (by omega)) c) (fun c => absurd (nI_lt (a := 15) (by omega) (by omega)) c) (fun c => absurd (nI_lt (a := 15) (by omega) (by omega)) c) (fun c => absurd (nI_lt (a := 15) (by omega) (by omega)) c) (fun c => absurd (nI_lt (a := 15) (by omega) (by omega)) c)
    have e : (if a = 0 then false else ws_hb pa q 0 (pa a)) = false := by split <;> rfl
    rw [e] at h
    exact h
  | n + 1, i, a, hi, ha, h => by
    by_cases h0 : a = 0
    · subst h0
      refine sg_66_5 ho (fun c => ?_) (fun _ _ => ?_) (fun _ c => absurd (nI_le (a := 0) (b := 0) (by omega) (by omega)) c) (fun _ c => absurd (nI_le (a := 0) (b := 0) (by omega) (by omega)) c) (fun _ c => absurd (nI_le (a := 0) (b := 0) (by omega) (by omega)) c) (fun _ c => absurd (nI_le (a := 0) (b := 0) (by omega) (by omega)) c)
      · exact h
      · exact h
    · have hm : M.1 (o + 1) (nI a).toNatClampNeg = nI (pa a) := by rw [in_cl (by omega), hpa a ha]
      rw [if_neg h0] at h
      unfold ws_hb at h
      refine sg_66_5 ho (fun c => absurd c (nI_nlt (a := 15) (by omega) (by omega))) (fun _ c => absurd c (nI_nle (by omega) (by omega))) (fun _ _ c => absurd c (nI_nlt (a := 15) (by omega) (by omega))) (fun _ _ _ => me_vin ha (by omega)) (fun _ _ _ c => ?_) (fun _ _ _ c => ?_)
      · rw [hm, in_eq (by have := hpb a ha; omega) (by omega)] at c
        rw [if_neg (by omega), if_pos c] at h
        exact h
      · rw [hm, in_a1]
        rw [hm, in_eq (by have := hpb a ha; omega) (by omega)] at c
        refine sp_66l ho hpa hpb hq hq2 n (i + 1) (pa a) (by omega) (hpb a ha) ?_
        rw [if_neg c] at h
        exact h
theorem sp_66 (ho : px_isW o) {pa : Nat → Nat} {p q : Nat} (hpa : ∀ p, p < 16 → M.1 (o + 1) p = nI (pa p)) (hpb : ∀ p, p < 16 → pa p < 16) (hp : 1 ≤ p) (hp2 : p < 16) (hq : 1 ≤ q) (hq2 : q < 16) (h : Q (some (.int (in_b (ws_hb pa q 16 (pa p))))) M) : px_T 0 66 0 [some (.ref o), some (.int (nI p)), some (.int (nI q)), none, none] [] M Q := by
  refine sg_66_0 ho ?_
  refine sp_66l ho hpa hpb hq hq2 16 0 p rfl hp2 ?_
  rw [if_neg (by omega)]
  exact h
theorem sp_68 (ho : px_isW o) {p k : Nat} (hp : p < 16) (hk : k < 8) (h : Q (some (.int (M.1 (o + 4) (8 * p + k)))) M) : px_T 0 68 0 [some (.ref o), some (.int (nI p)), some (.int (nI k)), none] [] M Q := by
  have e : nI p * 8 + nI k = nI (8 * p + k) := by
    rw [show (8 : Int32) = nI 8 from rfl, pk_mul, nI_add, Nat.mul_comm]
  refine sg_68_0 ho (fun c => ?_) (fun _ c => ?_) (fun _ _ => ?_) (fun _ _ => ?_)
  · rw [e] at c
    exact absurd c (nI_pos (by omega))
  · rw [e] at c
    exact absurd c (nI_ge (b := 128) (by omega) (by omega))
  · rw [e]
    exact me_vin (by omega) (by omega)
  · rw [e, in_cl (by omega)]
    exact h
end W34
