/-! states stay well formed -/
section R38
variable {law : Nat} {s : ws_S}
theorem ws_W_0 : ws_W ws_0 := by
  refine ⟨⟨by decide, by decide, by decide, by decide, fun p h => h⟩, fun p => by show (0 : Nat) < 16; omega, fun p => ?_, fun p h => ?_, fun i => Nat.le_refl _, fun i h => absurd rfl h, fun x h => absurd h (Nat.not_lt_zero x), fun x h => absurd h (Nat.not_lt_zero x)⟩
  · show (if p = 1 then 1 else 0) < 16
    split <;> omega
  · show 1 ≤ (if p = 1 then 1 else 0)
    have h2 : (2 ^ 1 : Nat).testBit p = true := h
    rw [Nat.testBit_two_pow] at h2
    rw [if_pos (of_decide_eq_true h2).symm]
    exact Nat.le_refl 1
theorem ws_why_al {e : ws_E} (h : ws_why s e = 0) : (ws_al s).testBit e.2.1 = true := by
  cases hb : (ws_al s).testBit e.2.1 with
  | true => rfl
  | false =>
    simp [ws_why, hb] at h
theorem ws_why0 {p a b : Nat} (h : ws_why s (0, p, a, b) = 0) : (ws_ev s).testBit a = false := by
  have h1 := ws_why_al h
  cases hb : (ws_ev s).testBit a with
  | false => rfl
  | true =>
    simp only at h1
    simp [ws_why, h1, hb] at h
theorem ws_why2 {p a b : Nat} (h : ws_why s (2, p, a, b) = 0) : ¬ p = 1 := by
  have h1 := ws_why_al h
  intro hp
  simp only at h1
  simp [ws_why, h1, hp] at h
  rw [hp] at h1
  simp [h1] at h
theorem ws_why7 {p a b : Nat} (h : ws_why s (7, p, a, b) = 0) : ¬ ws_ob s (8 * p + a) = 0 ∧ ws_kd s (ws_ob s (8 * p + a) - 1) = 2 ∧ ws_by s (ws_ob s (8 * p + a) - 1 - 1) + b ≤ 60 := by
  have h1 := ws_why_al h
  simp only at h1
  by_cases h2 : ws_ob s (8 * p + a) = 0
  · simp [ws_why, h1, ws_hw, h2] at h
  obtain ⟨w, hw⟩ : ∃ w, ws_ob s (8 * p + a) = w + 1 := ⟨ws_ob s (8 * p + a) - 1, by omega⟩
  have e1 : ws_pw s 7 p a b = if ws_kd s w ≠ 2 then 4 else if ws_hd s (w - 1) = false then 5 else if 60 < ws_by s (w - 1) + b then 6 else 0 := by
    unfold ws_pw
    rw [hw]
    rfl
  have hy : ws_why s (7, p, a, b) = ws_pw s 7 p a b := by simp [ws_why, h1, ws_hw, h2]
  rw [hy, e1] at h
  rw [hw, Nat.add_sub_cancel]
  split at h
  · omega
  · rename_i h3
    split at h
    · omega
    · split at h
      · omega
      · exact ⟨by omega, by omega, by omega⟩
theorem ws_up_lt {f : Nat → Nat} {k x n : Nat} (h : ∀ q, f q < n) (hx : x < n) : ∀ q, ws_up f k x q < n := by
  intro q
  unfold ws_up
  split
  · exact hx
  · exact h q
theorem ws_xl_lt {gone al : Nat} {se : Nat → Nat} (hs : ∀ q, se q < 16) : ∀ (n c l : Nat) (pa : Nat → Nat), c + n ≤ 16 → l < 16 → (∀ q, pa q < 16) → ∀ q, ws_xl law gone al se n c l pa q < 16
  | 0, _, _, _, _, _, h => h
  | n + 1, c, l, pa, hc, hl, h => by
    have hl2 : (if l = 0 then c else l) < 16 := by split <;> omega
    unfold ws_xl
    split
    · exact ws_xl_lt hs n (c + 1) _ _ (by omega) hl2 (ws_up_lt h (ws_np_lt h hs hl2))
    · exact ws_xl_lt hs n (c + 1) l pa (by omega) hl h
theorem ws_W_ap (hW : ws_W s) {e : ws_E} (he : iv_ok e) (hy : ws_why s e = 0) : ws_W (ws_ap law s e) := by
  have hal := ws_why_al hy
  have hb := iv_okb he
  obtain ⟨k, p, a, b⟩ := e
  simp only at hal hb
  unfold iv_ok at he
  simp only at he
  obtain ⟨⟨w1, w2, w3, w4, w5⟩, w6, w7, w8, w9, w10, w11, w12⟩ := hW
  have hk : k = 0 ∨ k = 1 ∨ k = 2 ∨ k = 3 ∨ k = 4 ∨ k = 5 ∨ k = 6 ∨ k = 7 ∨ k = 8 ∨ k = 9 := by omega
  have h2p : (8 * p + a) / 8 = p ∨ 7 < a := by omega
  have h2q : (8 * p + b) / 8 = p ∨ 7 < b := by omega
  rcases hk with rfl | rfl | rfl | rfl | rfl | rfl | rfl | rfl | rfl | rfl
  · have hev := ws_why0 hy
    have hlt : 2 ^ a < 2 ^ 16 := Nat.pow_lt_pow_right (by omega) (by omega)
    refine ⟨⟨Nat.or_lt_two_pow w1 hlt, Nat.or_lt_two_pow w2 hlt, ?_, ?_, fun q hq => ?_⟩, ws_up_lt w6 (by show p < 16; omega), ws_up_lt w7 (w7 _), fun q hq => ?_, fun i => ?_, fun i hi => ?_, w11, w12⟩
    · show (ws_al s ||| 2 ^ a).testBit 0 = false
      rw [fb_bit_set, w3, decide_eq_false (by omega)]
      rfl
    · show (ws_al s ||| 2 ^ a).testBit 1 = true
      rw [fb_bit_set, w4]
      rfl
    · have hq2 : (ws_al s ||| 2 ^ a).testBit q = true := hq
      show (ws_ev s ||| 2 ^ a).testBit q = true
      rw [fb_bit_set] at hq2 ⊢
      rw [Bool.or_eq_true] at hq2 ⊢
      exact hq2.imp (w5 q) id
    · have hq2 : (ws_ev s ||| 2 ^ a).testBit q = true := hq
      show 1 ≤ ws_up (ws_se s) a (ws_se s p) q
      rw [fb_bit_set] at hq2
      unfold ws_up
      split
      · exact w8 p (w5 p hal)
      · rename_i hqa
        rw [decide_eq_false hqa, Bool.or_false] at hq2
        exact w8 q hq2
    · show (if i / 8 = a then ws_ob s (8 * p + i % 8) else ws_ob s i) ≤ ws_md s
      split
      · exact w9 _
      · exact w9 _
    · have hi2 : (if i / 8 = a then ws_ob s (8 * p + i % 8) else ws_ob s i) ≠ 0 := hi
      show (ws_al s ||| 2 ^ a).testBit (i / 8) = true
      rw [fb_bit_set]
      by_cases hia : i / 8 = a
      · rw [decide_eq_true hia, Bool.or_true]
      · rw [if_neg hia] at hi2
        rw [w10 i hi2]
        rfl
  · refine ⟨⟨w1, w2, w3, w4, w5⟩, w6, ws_up_lt w7 (by show p < 16; omega), fun q hq => ?_, w9, w10, w11, w12⟩
    show 1 ≤ ws_up (ws_se s) p p q
    unfold ws_up
    split
    · omega
    · exact w8 q hq
  · have hp1 := ws_why2 hy
    have hlt : 2 ^ p < 2 ^ 16 := Nat.pow_lt_pow_right (by omega) (by omega)
    have hfl : ∀ q, (ws_al s ^^^ 2 ^ p).testBit q = true → q ≠ p ∧ (ws_al s).testBit q = true := by
      intro q hq
      rw [fb_bit_flip] at hq
      by_cases hqp : q = p
      · rw [hqp, hal] at hq
        simp at hq
      · exact ⟨hqp, by simpa [hqp] using hq⟩
    refine ⟨⟨Nat.xor_lt_two_pow w1 hlt, w2, ?_, ?_, fun q hq => w5 q (hfl q hq).2⟩, ws_xl_lt w7 15 1 0 _ (by omega) (by omega) w6, w7, w8, fun i => ?_, fun i hi => ?_, w11, w12⟩
    · show (ws_al s ^^^ 2 ^ p).testBit 0 = false
      rw [fb_bit_flip, w3, decide_eq_false (by omega)]
      rfl
    · show (ws_al s ^^^ 2 ^ p).testBit 1 = true
      rw [fb_bit_flip, w4, decide_eq_false (by omega)]
      rfl
    · show (if i / 8 = p then 0 else ws_ob s i) ≤ ws_md s
      split
      · omega
      · exact w9 i
    · have hi2 : (if i / 8 = p then 0 else ws_ob s i) ≠ 0 := hi
      show (ws_al s ^^^ 2 ^ p).testBit (i / 8) = true
      by_cases hip : i / 8 = p
      · rw [if_pos hip] at hi2
        exact absurd rfl hi2
      · rw [if_neg hip] at hi2
        rw [fb_bit_flip, w10 i hi2, decide_eq_false hip]
        rfl
  · refine ⟨⟨w1, w2, w3, w4, w5⟩, w6, w7, w8, fun i => ?_, fun i hi => ?_, fun x hx => ?_, fun x hx => ?_⟩
    · show ws_up (ws_ob s) (8 * p + a) (ws_md s + 1) i ≤ ws_md s + 1
      unfold ws_up
      have := w9 i
      split <;> omega
    · show (ws_al s).testBit (i / 8) = true
      have hi2 : ws_up (ws_ob s) (8 * p + a) (ws_md s + 1) i ≠ 0 := hi
      unfold ws_up at hi2
      split at hi2
      · rename_i hia
        rw [hia, h2p.resolve_right (by omega)]
        exact hal
      · exact w10 i hi2
    · have hx2 : x < ws_md s + 1 := hx
      show ws_up (ws_kd s) (ws_md s) 0 x ≤ 2 ∧ (ws_up (ws_kd s) (ws_md s) 0 x = 1 → x + 1 < ws_md s + 1 ∧ ws_up (ws_kd s) (ws_md s) 0 (x + 1) = 2) ∧ (ws_up (ws_kd s) (ws_md s) 0 x = 2 → 1 ≤ x ∧ ws_up (ws_kd s) (ws_md s) 0 (x - 1) = 1)
      by_cases hxm : x = ws_md s
      · subst hxm
        rw [ws_up_s]
        omega
      · have h3 := w11 x (by omega)
        rw [ws_up_n _ _ hxm]
        refine ⟨h3.1, fun h => ?_, fun h => ?_⟩
        · have h4 := h3.2.1 h
          rw [ws_up_n _ _ (by omega)]
          exact ⟨by omega, h4.2⟩
        · have h4 := h3.2.2 h
          rw [ws_up_n _ _ (by omega)]
          exact h4
    · have hx2 : x < ws_md s + 1 := hx
      show ws_up (ws_by s) (ws_md s) 0 x ≤ 60
      unfold ws_up
      split
      · omega
      · exact w12 x (by omega)
  · refine ⟨⟨w1, w2, w3, w4, w5⟩, w6, w7, w8, fun i => ?_, fun i hi => ?_, fun x hx => ?_, fun x hx => ?_⟩
    · show ws_up (ws_up (ws_ob s) (8 * p + a) (ws_md s + 1)) (8 * p + b) (ws_md s + 2) i ≤ ws_md s + 2
      unfold ws_up
      have := w9 i
      split
      · omega
      · split <;> omega
    · show (ws_al s).testBit (i / 8) = true
      have hi2 : ws_up (ws_up (ws_ob s) (8 * p + a) (ws_md s + 1)) (8 * p + b) (ws_md s + 2) i ≠ 0 := hi
      unfold ws_up at hi2
      split at hi2
      · rename_i hia
        rw [hia, h2q.resolve_right (by omega)]
        exact hal
      · split at hi2
        · rename_i hia
          rw [hia, h2p.resolve_right (by omega)]
          exact hal
        · exact w10 i hi2
    · have hx2 : x < ws_md s + 2 := hx
      show ws_up (ws_up (ws_kd s) (ws_md s) 1) (ws_md s + 1) 2 x ≤ 2 ∧ (ws_up (ws_up (ws_kd s) (ws_md s) 1) (ws_md s + 1) 2 x = 1 → x + 1 < ws_md s + 2 ∧ ws_up (ws_up (ws_kd s) (ws_md s) 1) (ws_md s + 1) 2 (x + 1) = 2) ∧ (ws_up (ws_up (ws_kd s) (ws_md s) 1) (ws_md s + 1) 2 x = 2 → 1 ≤ x ∧ ws_up (ws_up (ws_kd s) (ws_md s) 1) (ws_md s + 1) 2 (x - 1) = 1)
      by_cases hxm : x = ws_md s + 1
      · subst hxm
        rw [ws_up_s, Nat.add_sub_cancel, ws_up_n _ _ (show ws_md s ≠ ws_md s + 1 by omega), ws_up_s]
        omega
      · rw [ws_up_n _ _ hxm]
        by_cases hxn : x = ws_md s
        · subst hxn
          rw [ws_up_s, ws_up_s]
          omega
        · have h3 := w11 x (by omega)
          rw [ws_up_n _ _ hxn]
          refine ⟨h3.1, fun h => ?_, fun h => ?_⟩
          · have h4 := h3.2.1 h
            rw [ws_up_n _ _ (by omega), ws_up_n _ _ (by omega)]
            exact ⟨by omega, h4.2⟩
          · have h4 := h3.2.2 h
            rw [ws_up_n _ _ (by omega), ws_up_n _ _ (by omega)]
            exact h4
    · have hx2 : x < ws_md s + 2 := hx
      show ws_up (ws_up (ws_by s) (ws_md s) 0) (ws_md s + 1) 0 x ≤ 60
      unfold ws_up
      split
      · omega
      · split
        · omega
        · exact w12 x (by omega)
  · refine ⟨⟨w1, w2, w3, w4, w5⟩, w6, w7, w8, fun i => ?_, fun i hi => ?_, w11, w12⟩
    · show ws_up (ws_ob s) (8 * p + b) (ws_ob s (8 * p + a)) i ≤ ws_md s
      unfold ws_up
      split
      · exact w9 _
      · exact w9 i
    · show (ws_al s).testBit (i / 8) = true
      have hi2 : ws_up (ws_ob s) (8 * p + b) (ws_ob s (8 * p + a)) i ≠ 0 := hi
      unfold ws_up at hi2
      split at hi2
      · rename_i hia
        rw [hia, h2q.resolve_right (by omega)]
        exact hal
      · exact w10 i hi2
  · refine ⟨⟨w1, w2, w3, w4, w5⟩, w6, w7, w8, fun i => ?_, fun i hi => ?_, w11, w12⟩
    · show ws_up (ws_ob s) (8 * p + a) 0 i ≤ ws_md s
      unfold ws_up
      split
      · omega
      · exact w9 i
    · show (ws_al s).testBit (i / 8) = true
      have hi2 : ws_up (ws_ob s) (8 * p + a) 0 i ≠ 0 := hi
      unfold ws_up at hi2
      split at hi2
      · exact absurd rfl hi2
      · exact w10 i hi2
  · have h7 := ws_why7 hy
    refine ⟨⟨w1, w2, w3, w4, w5⟩, w6, w7, w8, w9, w10, w11, fun x hx => ?_⟩
    show ws_up (ws_by s) (ws_ob s (8 * p + a) - 2) (ws_by s (ws_ob s (8 * p + a) - 2) + b) x ≤ 60
    unfold ws_up
    split
    · exact h7.2.2
    · exact w12 x hx
  · refine ⟨⟨w1, w2, w3, w4, w5⟩, w6, w7, w8, w9, w10, w11, fun x hx => ?_⟩
    show ws_up (ws_by s) (ws_ob s (8 * p + a) - 1) (ws_by s (ws_ob s (8 * p + a) - 1) - b) x ≤ 60
    unfold ws_up
    split
    · rename_i hxo
      have := w12 x hx
      rw [hxo] at this
      omega
    · exact w12 x hx
  · exact ⟨⟨w1, w2, w3, w4, w5⟩, w6, w7, w8, w9, w10, w11, w12⟩
theorem ws_md_ap (e : ws_E) : ws_md s ≤ ws_md (ws_ap law s e) ∧ ws_md (ws_ap law s e) ≤ ws_md s + 2 := by
  obtain ⟨k, p, a, b⟩ := e
  unfold ws_ap
  simp only
  repeat' split
  all_goals (simp only [ws_md]; omega)
theorem ws_W_st (hW : ws_W s) {e : ws_E} (he : iv_ok e) : ws_W (ws_st law s e) := by
  unfold ws_st
  split
  · rename_i h
    exact ws_W_ap hW he h
  · exact hW
theorem ws_md_st (e : ws_E) : ws_md s ≤ ws_md (ws_st law s e) ∧ ws_md (ws_st law s e) ≤ ws_md s + 2 := by
  unfold ws_st
  split
  · exact ws_md_ap e
  · omega
theorem ws_run_s {ev : Nat → ws_E} {sk : Nat → Bool} {t : Nat} (h : sk t = false) : ws_run law ev sk (t + 1) = ws_st law (ws_run law ev sk t) (ev t) := by
  show (if sk t = true then _ else _) = _
  rw [if_neg (by rw [h]; decide)]
theorem ws_run_k {ev : Nat → ws_E} {sk : Nat → Bool} {t : Nat} (h : sk t = true) : ws_run law ev sk (t + 1) = ws_run law ev sk t := by
  show (if sk t = true then _ else _) = _
  rw [if_pos h]
theorem ws_W_run {ev : Nat → ws_E} {sk : Nat → Bool} : ∀ {n : Nat}, (∀ t, t < n → sk t = false → iv_ok (ev t)) → ws_W (ws_run law ev sk n)
  | 0, _ => ws_W_0
  | n + 1, h => by
    have ih := ws_W_run (n := n) (fun t ht => h t (by omega))
    cases hk : sk n with
    | true =>
      rw [ws_run_k hk]
      exact ih
    | false =>
      rw [ws_run_s hk]
      exact ws_W_st ih (h n (by omega) hk)
theorem ws_md_run (law : Nat) (ev : Nat → ws_E) (sk : Nat → Bool) : ∀ n, ws_md (ws_run law ev sk n) ≤ 2 * n
  | 0 => Nat.le_refl _
  | n + 1 => by
    have ih := ws_md_run law ev sk n
    cases hk : sk n with
    | true =>
      rw [ws_run_k hk]
      omega
    | false =>
      rw [ws_run_s hk]
      have := (ws_md_st (law := law) (s := ws_run law ev sk n) (ev n)).2
      omega
theorem ws_run_cong {ev ev2 : Nat → ws_E} {sk sk2 : Nat → Bool} : ∀ {n : Nat}, (∀ t, t < n → sk t = sk2 t ∧ (sk t = false → ev t = ev2 t)) → ws_run law ev sk n = ws_run law ev2 sk2 n
  | 0, _ => rfl
  | n + 1, h => by
    have ih := ws_run_cong (n := n) (fun t ht => h t (by omega))
    have h1 := h n (by omega)
    cases hk : sk n with
    | true =>
      rw [ws_run_k hk, ws_run_k (h1.1 ▸ hk), ih]
    | false =>
      rw [ws_run_s hk, ws_run_s (h1.1 ▸ hk), ih, h1.2 hk]
end R38
