theorem ws_ct_up {ob : Nat → Nat} {i v x : Nat} (hi : i < 128) : ws_ct (ws_up ob i v) x + (if ob i = x + 1 then 1 else 0) = ws_ct ob x + (if v = x + 1 then 1 else 0) := by
  have h := fb_ct_upd (fun k => decide (ob k = x + 1)) (decide (v = x + 1)) hi
  have e : (fun k => if k = i then decide (v = x + 1) else decide (ob k = x + 1)) = fun k => decide (ws_up ob i v k = x + 1) := by
    funext k
    unfold ws_up
    by_cases hk : k = i
    · rw [if_pos hk, if_pos hk]
    · rw [if_neg hk, if_neg hk]
  rw [e] at h
  simpa [ws_ct] using h
theorem ws_up_s (f : Nat → Nat) (k x : Nat) : ws_up f k x k = x := if_pos rfl
theorem ws_up_n (f : Nat → Nat) {k j : Nat} (x : Nat) (h : j ≠ k) : ws_up f k x j = f j := if_neg h
section W35
variable {o : Nat} {M : px_Mem} {Q : px_Po}
theorem sp_161 {p : Nat} (h1 : 1 ≤ p) (h2 : p ≤ 31) (h : Q (some (.int (nI (2 ^ (p - 1))))) M) : px_T 0 161 0 [some (.int (nI p))] [] M Q := by
  refine sg_161_0 ?_
  rw [in_s1 h1, in_one (by omega)]
  exact h
theorem sp_84 (ho : px_isW o) {md : Nat} {k : Int32} (hm : M.1 o 1 = nI md) (hb : md < 200) (h : Q (some (.int (nI md))) (px_wI (px_wI (px_wI M (o + 5) md k) (o + 7) md 0) o 1 (nI (md + 1)))) : px_T 0 84 0 [some (.ref o), some (.int k)] [] M Q := by
  refine sg_84_0 ho (fun _ => ?_) (fun _ => ?_) (fun c => ?_)
  · rw [hm]
    exact me_vin hb (by omega)
  · rw [hm, in_cl (by omega), in_a1, nI_pred]
    exact h
  · rw [hm] at c
    exact absurd (nI_lt (b := 200) hb (by omega)) c
theorem sp_85b (ho : px_isW o) {i v : Nat} {d1 d2 : Option Value} {g : Nat → Nat} {N : px_Mem} (hi : i < 128) (hv : v ≤ 200) (hg : ∀ x, x < 200 → N.1 (o + 6) x = nI (g x))
    (h : ∀ M', me_fr [o + 4, o + 6] N M' → M'.1 (o + 4) = upd (N.1 (o + 4)) i (nI v - 1) → (∀ x, x < 200 → M'.1 (o + 6) x = nI (g x + (if v = x + 1 then 1 else 0))) → Q none M') : px_T 0 85 63 [some (.ref o), d1, d2, some (.int (nI v - 1)), some (.int (nI i))] [] N Q := by
  rcases Nat.eq_zero_or_pos v with v0 | v0
  · have g2 : nI v - 1 < 0 := (in_om0 (by omega)).mpr v0
    refine sg_85_63 ho (by (try simp (disch := omega) only [in_lt, in_le, in_eq, in_add, in_mul, in_sb, in_cl, in_bz, in_bo, in_mo, il_0, il_1, il_2, il_3, il_4, il_5, il_6, il_7, il_8, il_9, il_10, il_11, il_12, il_13, il_14, il_15, il_16, il_31] at ⊢) <;> exact me_vin (by omega) (by omega)) (fun c1 => ?_) (fun c1 c2 => absurd g2 c1) (fun c1 c2 => absurd g2 c1) (fun c1 c2 => absurd g2 c1)
    rw [in_cl (by omega)]
    refine h _ (me_fr_I me_fr_rf (by simp)) me_Is (fun x hx => ?_)
    rw [me_Io (by omega), hg x hx, if_neg (by omega)]
    rfl
  · obtain ⟨w, rfl⟩ : ∃ w, v = w + 1 := ⟨v - 1, by omega⟩
    rw [nI_pred] at h ⊢
    refine sg_85_63 ho (by (try simp (disch := omega) only [in_lt, in_le, in_eq, in_add, in_mul, in_sb, in_cl, in_bz, in_bo, in_mo, il_0, il_1, il_2, il_3, il_4, il_5, il_6, il_7, il_8, il_9, il_10, il_11, il_12, il_13, il_14, il_15, il_16, il_31] at ⊢) <;> exact me_vin (by omega) (by omega)) (fun c1 => by exfalso; (try simp (disch := omega) only [in_lt, in_le, in_eq, in_add, in_mul, in_sb, in_cl, in_bz, in_bo, in_mo, il_0, il_1, il_2, il_3, il_4, il_5, il_6, il_7, il_8, il_9, il_10, il_11, il_12, il_13, il_14, il_15, il_16, il_31] at c1) <;> omega) (fun c1 c2 => by exfalso; (try simp (disch := omega) only [in_lt, in_le, in_eq, in_add, in_mul, in_sb, in_cl, in_bz, in_bo, in_mo, il_0, il_1, il_2, il_3, il_4, il_5, il_6, il_7, il_8, il_9, il_10, il_11, il_12, il_13, il_14, il_15, il_16, il_31, il_200] at c1 c2) <;> omega) (fun c1 c2 => by (try simp (disch := omega) only [in_lt, in_le, in_eq, in_add, in_mul, in_sb, in_cl, in_bz, in_bo, in_mo, il_0, il_1, il_2, il_3, il_4, il_5, il_6, il_7, il_8, il_9, il_10, il_11, il_12, il_13, il_14, il_15, il_16, il_31, il_200] at c1 c2 ⊢) <;> exact me_vin (by omega) (by omega)) (fun c1 c2 => ?_)
    simp (disch := omega) only [in_cl]
    refine h _ (me_fr_I (me_fr_I me_fr_rf (by simp)) (by simp)) (by rw [me_Io (by omega)]; exact me_Is) (fun x hx => ?_)
    by_cases hxw : x = w
    · subst hxw
      rw [me_II, hg x hx, in_a1, if_pos rfl]
    · rw [me_Ii hxw, me_Io (by omega), hg x hx, if_neg (by omega)]
      rfl
theorem sp_85 (ho : px_isW o) {ob : Nat → Nat} {p k v : Nat} (hp : p < 16) (hk : k < 8) (hv : v ≤ 200) (hob : ∀ i, i < 128 → M.1 (o + 4) i = nI (ob i) - 1) (hb : ∀ i, i < 128 → ob i ≤ 200) (hct : ∀ x, x < 200 → M.1 (o + 6) x = nI (ws_ct ob x))
    (h : ∀ M', me_fr [o + 4, o + 6] M M' → (∀ i, i < 128 → M'.1 (o + 4) i = nI (ws_up ob (8 * p + k) v i) - 1) → (∀ x, x < 200 → M'.1 (o + 6) x = nI (ws_ct (ws_up ob (8 * p + k) v) x)) → Q none M') : px_T 0 85 0 [some (.ref o), some (.int (nI p)), some (.int (nI k)), some (.int (nI v - 1)), none] [] M Q := by
  have hi : 8 * p + k < 128 := by omega
  have e : nI p * 8 + nI k = nI (8 * p + k) := by
    rw [show (8 : Int32) = nI 8 from rfl, pk_mul, nI_add, Nat.mul_comm]
  have f1 : ¬ nI (8 * p + k) < 0 := nI_pos (by omega)
  have f2 : nI (8 * p + k) < 128 := nI_lt (b := 128) hi (by omega)
  have f3 : vp_in (nI (8 * p + k)) 128 := me_vin hi (by omega)
  have f4 : (nI (8 * p + k)).toNatClampNeg = 8 * p + k := in_cl (by omega)
  have hH := hob _ hi
  have hbi := hb _ hi
  have fin : ∀ (N : px_Mem) (g : Nat → Nat), me_fr [o + 4, o + 6] M N → N.1 (o + 4) = M.1 (o + 4) → (∀ x, x < 200 → N.1 (o + 6) x = nI (g x)) → (∀ x, x < 200 → g x + (if ob (8 * p + k) = x + 1 then 1 else 0) = ws_ct ob x) → px_T 0 85 63 [some (.ref o), some (.int (nI p)), some (.int (nI k)), some (.int (nI v - 1)), some (.int (nI (8 * p + k)))] [] N Q := by
    intro N g hf hN hg hgc
    refine sp_85b ho hi hv hg (fun M' k1 k2 k3 => h M' (me_fr_tr hf k1) (fun i hi2 => ?_) (fun x hx => ?_))
    · rw [k2, hN]
      by_cases hii : i = 8 * p + k
      · subst hii
        rw [px_upd_self, ws_up_s]
      · rw [px_upd_ne hii, ws_up_n _ _ hii, hob i hi2]
    · rw [k3 x hx]
      congr 1
      have h1 := ws_ct_up (ob := ob) (i := 8 * p + k) (v := v) (x := x) hi
      have h2 := hgc x hx
      omega
  have S := @sg_85_0 o (nI p) (nI k) (nI v - 1) M Q ho
  simp only [e, f4, hH] at S
  refine S (fun c1 => absurd c1 f1) (fun _ _ => f3) (fun _ _ c3 => ?_) (fun _ _ c3 c4 => ?_) (fun _ _ c3 c4 => ?_) (fun _ _ c3 c4 => ?_) (fun _ c2 => absurd f2 c2)
  · rw [in_om0 (by omega)] at c3
    exact fin M (ws_ct ob) me_fr_rf rfl hct (fun x hx => by rw [if_neg (by omega), Nat.add_zero])
  all_goals rw [in_om0 (by omega)] at c3
  all_goals obtain ⟨u, hu⟩ : ∃ u, ob (8 * p + k) = u + 1 := ⟨ob (8 * p + k) - 1, by omega⟩
  all_goals rw [hu, nI_pred] at c4
  · exact absurd c4 (nI_ge (b := 200) (by omega) (by omega))
  · rw [hu, nI_pred]
    exact me_vin (by omega) (by omega)
  · rw [hu, nI_pred, in_cl (by omega)]
    have hcu : 1 ≤ ws_ct ob u := by
      have h1 : 0 < fb_ct (fun i => decide (ob i = u + 1)) 128 := fb_ct_pos.mpr ⟨8 * p + k, hi, by simp [hu]⟩
      exact h1
    refine fin _ (fun x => ws_ct ob x - (if ob (8 * p + k) = x + 1 then 1 else 0)) (me_fr_I me_fr_rf (by simp)) (me_Io (by omega)) (fun x hx => ?_) (fun x hx => ?_)
    · by_cases hxu : x = u
      · subst hxu
        rw [me_II, hct x hx, in_s1 hcu, if_pos hu]
      · rw [me_Ii hxu, hct x hx, if_neg (by omega)]
        rfl
    · by_cases hxu : x = u
      · subst hxu
        rw [if_pos hu]
        omega
      · rw [if_neg (by omega)]
        omega
theorem sp_77 (ho : px_isW o) {al c gone least law : Nat} {pa se : Nat → Nat} (hl : M.1 o 0 = nI (al / 2)) (ha : al < 2 ^ 16) (hpa : ∀ p, p < 16 → M.1 (o + 1) p = nI (pa p)) (hpb : ∀ p, p < 16 → pa p < 16) (hse : M.1 (o + 2) c = nI (se c)) (hs1 : 1 ≤ se c) (hs2 : se c < 16) (hc : 1 ≤ c) (hc2 : c < 16) (hle : least < c) (hlaw : law ≤ 3)
    (h : Q (some (.int (nI (ws_np law al se pa c gone (if least = 0 then c else least))))) M) : px_T 0 77 0 [some (.ref o), some (.int (nI c)), some (.int (nI (pa gone))), some (.int (nI least)), some (.int (nI law)), none, none] [] M Q := by
  have n1 : nI law = 1 ↔ law = 1 := in_eq (b := 1) (by omega) (by omega)
  have n2 : nI law = 2 ↔ law = 2 := in_eq (b := 2) (by omega) (by omega)
  have n3 : nI law = 3 ↔ law = 3 := in_eq (b := 3) (by omega) (by omega)
  have n0 : nI least = 0 ↔ least = 0 := in_eq (b := 0) (by omega) (by omega)
  unfold ws_np at h
  refine sg_77_0 ho (fun c1 => ?_) (fun c1 c2 c3 => ?_) (fun c1 c2 c3 => ?_) (fun _ _ _ => me_vin hc2 (by omega)) (fun c1 c2 c3 => ?_) (fun c1 c2 c3 => ?_)
  · rw [n1] at c1
    rw [if_neg (by omega), if_pos (Or.inl c1)] at h
    exact h
  · rw [n3] at c2
    rw [n0] at c3
    rw [if_neg (by omega), if_pos (Or.inr ⟨c2, by rw [if_pos c3]⟩)] at h
    exact h
  · rw [n1] at c1
    rw [n3] at c2
    rw [n0] at c3
    rw [if_neg (by omega), if_neg (by rw [if_neg c3]; omega), if_pos c2, if_neg c3] at h
    exact h
  · rw [n1] at c1
    rw [n3] at c2
    rw [n2] at c3
    rw [in_cl (by omega), hse]
    rw [if_neg (by omega), if_neg (by omega), if_neg (by omega)] at h
    refine sp_63 ho hl ha hs1 (by omega) ?_
    refine sg_77_44 ho (fun d1 => ?_) (fun d1 d2 => ?_) (fun d1 d2 => ?_)
    · rw [in_b0] at d1
      rw [if_neg (by rw [d1]; simp)] at h
      exact h
    · rw [in_eq (by omega) (by omega)] at d2
      rw [if_neg (fun q => q.2.1 d2)] at h
      exact h
    · rw [in_eq (by omega) (by omega)] at d2
      rw [in_b0, Bool.not_eq_false] at d1
      refine sp_66 ho hpa hpb hs1 hs2 hc hc2 ?_
      refine sg_77_60 (fun d3 => ?_) (fun d3 => ?_)
      · rw [in_b0] at d3
        rw [if_pos ⟨d1, d2, d3⟩] at h
        exact h
      · rw [in_b0] at d3
        rw [if_neg (fun q => d3 q.2.2)] at h
        exact h
  · rw [n1] at c1
    rw [n3] at c2
    rw [n2] at c3
    rw [if_pos (by omega)] at h
    exact h
end W35
