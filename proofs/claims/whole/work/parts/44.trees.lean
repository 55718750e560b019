/-! kinds stay; who hangs from whom is a tree -/
section T44
variable {law : Nat} {s : ws_S}
theorem ws_kd_ap (e : ws_E) {x : Nat} (hx : x < ws_md s) : ws_kd (ws_ap law s e) x = ws_kd s x := by
  obtain ⟨k, p, a, b⟩ := e
  unfold ws_ap
  simp only
  by_cases h3 : k = 3
  · subst h3
    exact ws_up_n _ _ (by omega)
  by_cases h4 : k = 4
  · subst h4
    exact (ws_up_n _ _ (by omega)).trans (ws_up_n _ _ (by omega))
  rw [if_neg h3, if_neg h4]
  repeat' split
  all_goals rfl
theorem ws_kd_st (e : ws_E) {x : Nat} (hx : x < ws_md s) : ws_kd (ws_st law s e) x = ws_kd s x := by
  unfold ws_st
  split
  · exact ws_kd_ap e hx
  · rfl
theorem ws_md_mono (ev : Nat → ws_E) (sk : Nat → Bool) (t : Nat) : ∀ n, ws_md (ws_run law ev sk t) ≤ ws_md (ws_run law ev sk (t + n))
  | 0 => Nat.le_refl _
  | n + 1 => by
    have ih := ws_md_mono ev sk t n
    rw [← Nat.add_assoc]
    cases hk : sk (t + n) with
    | true => rw [ws_run_k hk]; exact ih
    | false =>
      rw [ws_run_s hk]
      have := (ws_md_st (law := law) (s := ws_run law ev sk (t + n)) (ev (t + n))).1
      omega
theorem ws_kd_run (ev : Nat → ws_E) (sk : Nat → Bool) (t : Nat) {x : Nat} (hx : x < ws_md (ws_run law ev sk t)) : ∀ n, ws_kd (ws_run law ev sk (t + n)) x = ws_kd (ws_run law ev sk t) x
  | 0 => rfl
  | n + 1 => by
    have ih := ws_kd_run ev sk t hx n
    have hm := ws_md_mono (law := law) ev sk t n
    rw [← Nat.add_assoc]
    cases hk : sk (t + n) with
    | true => rw [ws_run_k hk]; exact ih
    | false => rw [ws_run_s hk, ws_kd_st _ (by omega)]; exact ih
/-! trees -/
def ws_it (pa : Nat → Nat) : Nat → Nat → Nat
  | 0, q => q
  | k + 1, q => ws_it pa k (pa q)
def ws_F (A : Nat → Prop) (pa d : Nat → Nat) : Prop := d 1 = 0 ∧ pa 1 = 0 ∧ pa 0 = 0 ∧ (∀ q, A q → 1 ≤ q ∧ q ≤ 15) ∧ ∀ q, A q → q ≠ 1 → A (pa q) ∧ d (pa q) < d q
def ws_bl (pa : Nat → Nat) (c q : Nat) : Prop := ∃ k, ws_it pa k q = c
theorem ws_it_0 {pa : Nat → Nat} (h0 : pa 0 = 0) : ∀ k, ws_it pa k 0 = 0
  | 0 => rfl
  | k + 1 => by
    show ws_it pa k (pa 0) = 0
    rw [h0]
    exact ws_it_0 h0 k
theorem ws_it_1 {pa : Nat → Nat} (h0 : pa 0 = 0) (h1 : pa 1 = 0) : ∀ k, ws_it pa k 1 = 1 ∨ ws_it pa k 1 = 0
  | 0 => Or.inl rfl
  | k + 1 => by
    right
    show ws_it pa k (pa 1) = 0
    rw [h1]
    exact ws_it_0 h0 k
theorem ws_bl_d {A : Nat → Prop} {pa d : Nat → Nat} (F : ws_F A pa d) {c : Nat} (hc : c ≠ 0) : ∀ (k q : Nat), A q → ws_it pa k q = c → d c + k ≤ d q
  | 0, q, _, h => by
    have h2 : q = c := h
    rw [h2]
    omega
  | k + 1, q, hq, h => by
    have h2 : ws_it pa k (pa q) = c := h
    by_cases h1 : q = 1
    · rw [h1, F.2.1, ws_it_0 F.2.2.1] at h2
      exact absurd h2.symm hc
    · obtain ⟨a1, a2⟩ := F.2.2.2.2 q hq h1
      have := ws_bl_d F hc k (pa q) a1 h2
      omega
/-- one child hangs from another one now -/
theorem ws_re {A : Nat → Prop} {pa d : Nat → Nat} (F : ws_F A pa d) {c n : Nat} (hc : A c) (hc1 : c ≠ 1) (hn : A n) (hb : ¬ ws_bl pa c n) : ∃ d', ws_F A (ws_up pa c n) d' ∧ ∀ q, A q → ¬ ws_bl pa c q → d' q = d q := by
  classical
  have c0 := (F.2.2.2.1 c hc).1
  have b1 : ¬ ws_bl pa c 1 := by
    rintro ⟨k, hk⟩
    rcases ws_it_1 F.2.2.1 F.2.1 k with h | h <;> omega
  refine ⟨fun q => if ws_bl pa c q then d q + d n + 1 else d q, ⟨?_, ?_, ?_, F.2.2.2.1, fun q hq hq1 => ?_⟩, fun q _ hq => if_neg hq⟩
  · show (if ws_bl pa c 1 then d 1 + d n + 1 else d 1) = 0
    rw [if_neg b1]
    exact F.1
  · rw [ws_up_n _ _ (by omega)]
    exact F.2.1
  · rw [ws_up_n _ _ (by omega)]
    exact F.2.2.1
  · by_cases hqc : q = c
    · subst hqc
      rw [ws_up_s]
      refine ⟨hn, ?_⟩
      show (if ws_bl pa q n then d n + d n + 1 else d n) < (if ws_bl pa q q then d q + d n + 1 else d q)
      rw [if_neg hb, if_pos ⟨0, rfl⟩]
      omega
    · rw [ws_up_n _ _ hqc]
      obtain ⟨a1, a2⟩ := F.2.2.2.2 q hq hq1
      refine ⟨a1, ?_⟩
      show (if ws_bl pa c (pa q) then d (pa q) + d n + 1 else d (pa q)) < (if ws_bl pa c q then d q + d n + 1 else d q)
      by_cases hb2 : ws_bl pa c (pa q)
      · have hb3 : ws_bl pa c q := by
          obtain ⟨k, hk⟩ := hb2
          exact ⟨k + 1, hk⟩
        rw [if_pos hb2, if_pos hb3]
        omega
      · rw [if_neg hb2]
        split
        · omega
        · exact a2
/-- ranks may be small -/
theorem ws_rk {A : Nat → Prop} {pa d : Nat → Nat} (F : ws_F A pa d) : ∃ d', ws_F A pa d' ∧ ∀ q, d' q ≤ 15 := by
  classical
  have hA : ∀ q, ∀ r, (decide (A r ∧ d r < d q) = true) ↔ (A r ∧ d r < d q) := fun q r => decide_eq_true_iff
  refine ⟨fun q => fb_ct (fun r => decide (A r ∧ d r < d q)) 16, ⟨?_, F.2.1, F.2.2.1, F.2.2.2.1, fun q hq hq1 => ?_⟩, fun q => ?_⟩
  · refine fb_ct_zero.mpr (fun k _ => ?_)
    refine decide_eq_false (fun h => ?_)
    rw [F.1] at h
    omega
  · obtain ⟨a1, a2⟩ := F.2.2.2.2 q hq hq1
    refine ⟨a1, ?_⟩
    have hp := F.2.2.2.1 (pa q) a1
    have h1 := fb_ct_upd (fun r => decide (A r ∧ d r < d q)) false (i := pa q) (n := 16) (by omega)
    rw [if_pos ((hA q (pa q)).mpr ⟨a1, a2⟩), if_neg (by decide)] at h1
    have h2 : fb_ct (fun r => decide (A r ∧ d r < d (pa q))) 16 ≤ fb_ct (fun k => if k = pa q then false else decide (A k ∧ d k < d q)) 16 := by
      refine fb_ct_sub (fun k _ hk => ?_)
      have hk2 := (hA (pa q) k).mp hk
      have hne : k ≠ pa q := fun e => by rw [e] at hk2; omega
      show (if k = pa q then false else decide (A k ∧ d k < d q)) = true
      rw [if_neg hne]
      exact (hA q k).mpr ⟨hk2.1, by omega⟩
    show fb_ct (fun r => decide (A r ∧ d r < d (pa q))) 16 < fb_ct (fun r => decide (A r ∧ d r < d q)) 16
    omega
  · have h0 : decide (A 0 ∧ d 0 < d q) = false := decide_eq_false (fun h => by have := (F.2.2.2.1 0 h.1).1; omega)
    have h1 := fb_ct_split (fun r => decide (A r ∧ d r < d q)) 1 15
    have h2 := fb_ct_le (fun k => (fun r => decide (A r ∧ d r < d q)) (1 + k)) 15
    have h3 : fb_ct (fun r => decide (A r ∧ d r < d q)) 1 = 0 := by
      rw [fb_ct_succ, h0]
      rfl
    rw [h3] at h1
    have h4 : fb_ct (fun r => decide (A r ∧ d r < d q)) 16 = 0 + fb_ct (fun k => (fun r => decide (A r ∧ d r < d q)) (1 + k)) 15 := h1
    show fb_ct (fun r => decide (A r ∧ d r < d q)) 16 ≤ 15
    omega
theorem ws_hb_it {pa : Nat → Nat} {c : Nat} (hc : c ≠ 0) (h0 : pa 0 = 0) : ∀ (k n a : Nat), k < n → ws_it pa k a = c → ws_hb pa c n a = true
  | k, 0, _, h, _ => absurd h (Nat.not_lt_zero k)
  | 0, n + 1, a, _, h => by
    have h2 : a = c := h
    unfold ws_hb
    rw [if_neg (by omega), if_pos h2]
  | k + 1, n + 1, a, hk, h => by
    unfold ws_hb
    by_cases ha : a = 0
    · rw [ha, ws_it_0 h0] at h
      exact absurd h.symm hc
    · rw [if_neg ha]
      split
      · rfl
      · exact ws_hb_it hc h0 k n (pa a) (by omega) h
/-- who isn't found on the way up isn't there -/
theorem ws_nb {A : Nat → Prop} {pa d : Nat → Nat} (F : ws_F A pa d) {c n : Nat} (hn : A n) (hc : A c) (hne : n ≠ c) (hb : ws_hb pa c 16 (pa n) = false) : ¬ ws_bl pa c n := by
  rintro ⟨k, hk⟩
  have c0 := (F.2.2.2.1 c hc).1
  obtain ⟨d', F', hd⟩ := ws_rk F
  have h1 := ws_bl_d F' (by omega) k n hn hk
  have h2 := hd n
  cases k with
  | zero => exact hne hk
  | succ k =>
    have h3 : ws_it pa k (pa n) = c := hk
    rw [ws_hb_it (by omega) F.2.2.1 k 16 (pa n) (by omega) h3] at hb
    exact absurd hb (by decide)
/-- the tree of a state -/
def ws_T (s : ws_S) : Prop := ∃ d, ws_F (fun q => (ws_al s).testBit q = true) (ws_pa s) d
theorem ws_T_0 : ws_T ws_0 := by
  have h2 : ∀ q, (2 : Nat).testBit q = true → q = 1 := by
    intro q h
    have h3 : (2 ^ 1 : Nat).testBit q = true := h
    rw [Nat.testBit_two_pow] at h3
    exact (of_decide_eq_true h3).symm
  exact ⟨fun _ => 0, rfl, rfl, rfl, fun q hq => by have := h2 q hq; omega, fun q hq h1 => absurd (h2 q hq) h1⟩
theorem ws_T_fork (hT : ws_T s) (hW : ws_W s) {p a b : Nat} (hp : (ws_al s).testBit p = true) (ha : 1 ≤ a) (ha2 : a ≤ 15) (hev : (ws_ev s).testBit a = false) : ws_T (ws_ap law s (0, p, a, b)) := by
  obtain ⟨d, F⟩ := hT
  obtain ⟨⟨w1, w2, w3, w4, w5⟩, _⟩ := hW
  have na : ¬ (ws_al s).testBit a = true := fun q => by rw [w5 a q] at hev; exact absurd hev (by decide)
  have na1 : a ≠ 1 := fun q => na (by rw [q]; exact w4)
  have hal : ∀ q, (ws_al s ||| 2 ^ a).testBit q = true → q = a ∨ (ws_al s).testBit q = true := by
    intro q h
    rw [fb_bit_set, Bool.or_eq_true, decide_eq_true_iff] at h
    exact h.symm
  have hal2 : ∀ q, (ws_al s).testBit q = true → (ws_al s ||| 2 ^ a).testBit q = true := by
    intro q h
    rw [fb_bit_set, h]
    rfl
  refine ⟨ws_up d a (d p + 1), ?_, ?_, ?_, fun q hq => ?_, fun q hq hq1 => ?_⟩
  · rw [ws_up_n _ _ (by omega)]
    exact F.1
  · show ws_up (ws_pa s) a p 1 = 0
    rw [ws_up_n _ _ (by omega)]
    exact F.2.1
  · show ws_up (ws_pa s) a p 0 = 0
    rw [ws_up_n _ _ (by omega)]
    exact F.2.2.1
  · rcases hal q hq with h | h
    · omega
    · exact F.2.2.2.1 q h
  · show (ws_al s ||| 2 ^ a).testBit (ws_up (ws_pa s) a p q) = true ∧ ws_up d a (d p + 1) (ws_up (ws_pa s) a p q) < ws_up d a (d p + 1) q
    by_cases hqa : q = a
    · subst hqa
      have hpq : p ≠ q := fun e => na (by rw [← e]; exact hp)
      rw [ws_up_s, ws_up_s, ws_up_n _ _ hpq]
      exact ⟨hal2 p hp, by omega⟩
    · have hq2 := (hal q hq).resolve_left hqa
      obtain ⟨a1, a2⟩ := F.2.2.2.2 q hq2 hq1
      have hne : ws_pa s q ≠ a := fun e => na (by rw [← e]; exact a1)
      rw [ws_up_n _ _ hqa, ws_up_n _ _ hqa, ws_up_n _ _ hne]
      exact ⟨hal2 _ a1, a2⟩
/-- an exit: child by child -/
theorem ws_T_xl {gone al : Nat} {se : Nat → Nat} (hlaw : law ≤ 3) (hg1 : gone ≠ 1) (hga : al.testBit gone = false) (h1a : al.testBit 1 = true) : ∀ (n c l : Nat) (pa d : Nat → Nat), c + n = 16 → 1 ≤ c → ws_F (fun q => al.testBit q = true ∨ q = gone) pa d → (∀ q, q < c → al.testBit q = true → pa q ≠ gone) → (l = 0 ∨ (al.testBit l = true ∧ pa l ≠ gone ∧ l < c ∧ (law = 3 → pa l = pa gone))) → ∃ d', ws_F (fun q => al.testBit q = true ∨ q = gone) (ws_xl law gone al se n c l pa) d' ∧ ∀ q, al.testBit q = true → ws_xl law gone al se n c l pa q ≠ gone
  | 0, c, l, pa, d, hc, h1, F, hd, hl => ⟨d, F, fun q hq => hd q (by have := (F.2.2.2.1 q (Or.inl hq)).2; omega) hq⟩
  | n + 1, c, l, pa, d, hc, h1, F, hd, hl => by
    by_cases hcc : al.testBit c = true ∧ pa c = gone
    · have hx : ws_xl law gone al se (n + 1) c l pa = ws_xl law gone al se n (c + 1) (if l = 0 then c else l) (ws_up pa c (ws_np law al se pa c gone (if l = 0 then c else l))) := if_pos hcc
      rw [hx]
      obtain ⟨b1, b2⟩ := hcc
      have hg : (fun q => al.testBit q = true ∨ q = gone) gone := Or.inr rfl
      have g0 := (F.2.2.2.1 gone hg).1
      have hc1 : c ≠ 1 := fun e => by rw [e, F.2.1] at b2; omega
      obtain ⟨e1, e2⟩ := F.2.2.2.2 gone hg hg1
      obtain ⟨_, e4⟩ := F.2.2.2.2 c (Or.inl b1) hc1
      rw [b2] at e4
      have hcg : c ≠ gone := fun e => by rw [e, hga] at b1; exact absurd b1 (by decide)
      have e1a : al.testBit (pa gone) = true := by
        rcases e1 with h | h
        · exact h
        · rw [h] at e2
          omega
      have nb1 : ¬ ws_bl pa c 1 := by
        rintro ⟨k, hk⟩
        rcases ws_it_1 F.2.2.1 F.2.1 k with h | h <;> omega
      have nbg : ¬ ws_bl pa c (pa gone) := by
        rintro ⟨k, hk⟩
        have := ws_bl_d F (by omega) k _ e1 hk
        omega
      -- the new parent: alive, not below the child
      have key : al.testBit (ws_np law al se pa c gone (if l = 0 then c else l)) = true ∧ ¬ ws_bl pa c (ws_np law al se pa c gone (if l = 0 then c else l)) ∧ (law = 3 → l = 0 → ws_np law al se pa c gone (if l = 0 then c else l) = pa gone) := by
        unfold ws_np
        by_cases l0 : law = 0
        · rw [if_pos l0]
          exact ⟨h1a, nb1, fun h => by omega⟩
        rw [if_neg l0]
        by_cases l1 : law = 1 ∨ (law = 3 ∧ c = if l = 0 then c else l)
        · rw [if_pos l1]
          exact ⟨e1a, nbg, fun _ _ => rfl⟩
        rw [if_neg l1]
        by_cases l3 : law = 3
        · rw [if_pos l3]
          by_cases hl0 : l = 0
          · exact absurd (Or.inr ⟨l3, by rw [if_pos hl0]⟩) l1
          · obtain ⟨m1, m2, m3, m4⟩ := hl.resolve_left hl0
            rw [if_neg hl0]
            refine ⟨m1, ?_, fun _ h => absurd h hl0⟩
            rintro ⟨k, hk⟩
            cases k with
            | zero =>
              have : l = c := hk
              omega
            | succ k =>
              have hk2 : ws_it pa k (pa l) = c := hk
              rw [m4 l3] at hk2
              exact nbg ⟨k, hk2⟩
        rw [if_neg l3]
        by_cases lc : al.testBit (se c) = true ∧ se c ≠ c ∧ ws_hb pa c 16 (pa (se c)) = false
        · rw [if_pos lc]
          exact ⟨lc.1, ws_nb F (Or.inl lc.1) (Or.inl b1) lc.2.1 lc.2.2, fun h => absurd h l3⟩
        · rw [if_neg lc]
          exact ⟨h1a, nb1, fun h => absurd h l3⟩
      generalize hnp : ws_np law al se pa c gone (if l = 0 then c else l) = np at key ⊢
      obtain ⟨k1, k2, k3⟩ := key
      obtain ⟨d', F', _⟩ := ws_re F (Or.inl b1) hc1 (Or.inl k1) k2
      have npg : np ≠ gone := fun e => by rw [e, hga] at k1; exact absurd k1 (by decide)
      refine ws_T_xl hlaw hg1 hga h1a n (c + 1) _ _ d' (by omega) (by omega) F' (fun q hq hqa => ?_) ?_
      · by_cases hqc : q = c
        · rw [hqc, ws_up_s]
          exact npg
        · rw [ws_up_n _ _ hqc]
          exact hd q (by omega) hqa
      · right
        by_cases hl0 : l = 0
        · rw [if_pos hl0, ws_up_s]
          refine ⟨b1, npg, by omega, fun h3 => ?_⟩
          rw [ws_up_n _ _ (fun e => hcg e.symm)]
          exact k3 h3 hl0
        · obtain ⟨m1, m2, m3, m4⟩ := hl.resolve_left hl0
          rw [if_neg hl0, ws_up_n _ _ (show l ≠ c by omega)]
          refine ⟨m1, m2, by omega, fun h3 => ?_⟩
          rw [ws_up_n _ _ (fun e => hcg e.symm)]
          exact m4 h3
    · have hx : ws_xl law gone al se (n + 1) c l pa = ws_xl law gone al se n (c + 1) l pa := if_neg hcc
      rw [hx]
      refine ws_T_xl hlaw hg1 hga h1a n (c + 1) l pa d (by omega) (by omega) F (fun q hq hqa => ?_) ?_
      · by_cases hqc : q = c
        · rw [hqc] at hqa ⊢
          exact fun e => hcc ⟨hqa, e⟩
        · exact hd q (by omega) hqa
      · rcases hl with h | ⟨m1, m2, m3, m4⟩
        · exact Or.inl h
        · exact Or.inr ⟨m1, m2, by omega, m4⟩
theorem ws_T_exit (hT : ws_T s) (hW : ws_W s) (hlaw : law ≤ 3) {p a b : Nat} (hp : (ws_al s).testBit p = true) (hp1 : p ≠ 1) : ws_T (ws_ap law s (2, p, a, b)) := by
  obtain ⟨d, F⟩ := hT
  obtain ⟨⟨w1, w2, w3, w4, w5⟩, _⟩ := hW
  have hga : (ws_al s ^^^ 2 ^ p).testBit p = false := by
    rw [fb_bit_flip, hp]
    simp
  have h1a : (ws_al s ^^^ 2 ^ p).testBit 1 = true := by
    rw [fb_bit_flip, w4, decide_eq_false (by omega)]
    rfl
  have hfl : ∀ q, (ws_al s ^^^ 2 ^ p).testBit q = true ∨ q = p ↔ (ws_al s).testBit q = true := by
    intro q
    by_cases hqp : q = p
    · rw [hqp]
      exact ⟨fun _ => hp, fun _ => Or.inr rfl⟩
    · rw [fb_bit_flip, decide_eq_false hqp, Bool.xor_false]
      exact ⟨fun h => h.resolve_right hqp, Or.inl⟩
  have e : (fun q => (ws_al s).testBit q = true) = (fun q => (ws_al s ^^^ 2 ^ p).testBit q = true ∨ q = p) := funext (fun q => (propext (hfl q)).symm)
  rw [e] at F
  obtain ⟨d', F', h2⟩ := ws_T_xl (se := ws_se s) hlaw hp1 hga h1a 15 1 0 (ws_pa s) d rfl (by omega) F (fun q hq hqa => by
    have : q = 0 := by omega
    rw [this] at hqa
    have h3 := (F.2.2.2.1 0 (Or.inl hqa)).1
    omega) (Or.inl rfl)
  refine ⟨d', F'.1, F'.2.1, F'.2.2.1, fun q hq => F'.2.2.2.1 q (Or.inl hq), fun q hq hq1 => ?_⟩
  obtain ⟨a1, a2⟩ := F'.2.2.2.2 q (Or.inl hq) hq1
  exact ⟨a1.resolve_right (h2 q hq), a2⟩
theorem ws_T_st (hT : ws_T s) (hW : ws_W s) (hlaw : law ≤ 3) {e : ws_E} (he : iv_ok e) : ws_T (ws_st law s e) := by
  unfold ws_st
  split
  · rename_i hy
    have hal := ws_why_al hy
    have hb := iv_okb he
    obtain ⟨k, p, a, b⟩ := e
    simp only at hal hb
    unfold iv_ok at he
    simp only at he
    by_cases h0 : k = 0
    · subst h0
      exact ws_T_fork hT hW hal (by omega) (by omega) (ws_why0 hy)
    by_cases h2 : k = 2
    · subst h2
      exact ws_T_exit hT hW hlaw hal (ws_why2 hy)
    have h3 : ws_al (ws_ap law s (k, p, a, b)) = ws_al s ∧ ws_pa (ws_ap law s (k, p, a, b)) = ws_pa s := by
      unfold ws_ap
      simp only
      rw [if_neg h0, if_neg h2]
      repeat' split
      all_goals exact ⟨rfl, rfl⟩
    unfold ws_T
    rw [h3.1, h3.2]
    exact hT
  · exact hT
theorem ws_T_run (hlaw : law ≤ 3) {ev : Nat → ws_E} {sk : Nat → Bool} : ∀ {n : Nat}, (∀ t, t < n → sk t = false → iv_ok (ev t)) → ws_T (ws_run law ev sk n)
  | 0, _ => ws_T_0
  | n + 1, h => by
    have ih := ws_T_run hlaw (n := n) (fun t ht => h t (by omega))
    have hW := ws_W_run (law := law) (n := n) (fun t ht => h t (by omega))
    cases hk : sk n with
    | true =>
      rw [ws_run_k hk]
      exact ih
    | false =>
      rw [ws_run_s hk]
      exact ws_T_st ih hW hlaw (h n (by omega) hk)
theorem ws_T_pa (hT : ws_T s) {q : Nat} (hq : (ws_al s).testBit q = true) (h1 : q ≠ 1) : (ws_al s).testBit (ws_pa s q) = true := by
  obtain ⟨d, F⟩ := hT
  exact (F.2.2.2.2 q hq h1).1
theorem ws_T_p1 (hT : ws_T s) : ws_pa s 1 = 0 := by
  obtain ⟨d, F⟩ := hT
  exact F.2.1
theorem ws_T_rg (hT : ws_T s) {q : Nat} (hq : (ws_al s).testBit q = true) : 1 ≤ q ∧ q ≤ 15 := by
  obtain ⟨d, F⟩ := hT
  exact F.2.2.2.1 q hq
theorem ws_hb_al (hT : ws_T s) {q : Nat} (hq : 1 ≤ q) : ∀ (n a : Nat), (a = 0 ∨ (ws_al s).testBit a = true) → ws_hb (ws_pa s) q n a = true → (ws_al s).testBit q = true
  | 0, _, _, h => absurd h (by unfold ws_hb; decide)
  | n + 1, a, ha, h => by
    unfold ws_hb at h
    by_cases h0 : a = 0
    · rw [if_pos h0] at h
      exact absurd h (by decide)
    · rw [if_neg h0] at h
      have ha2 := ha.resolve_left h0
      by_cases haq : a = q
      · rw [← haq]
        exact ha2
      · rw [if_neg haq] at h
        refine ws_hb_al hT hq n (ws_pa s a) ?_ h
        by_cases h1 : a = 1
        · left
          rw [h1]
          exact ws_T_p1 hT
        · exact Or.inr (ws_T_pa hT ha2 h1)
/-- how many stand on the way up -/
def ws_dp (pa : Nat → Nat) : Nat → Nat → Nat
  | 0, _ => 0
  | n + 1, q => if q = 0 then 0 else 1 + ws_dp pa n (pa q)
end T44
