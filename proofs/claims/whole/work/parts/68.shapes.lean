/-! shapes: the class's answers -/
def tmn (y : iv_Y) (t : Nat) : Nat := fb_ct (fun u => decide (sh_fs y u = t)) (iv_n y + 1)
def mxb (y : iv_Y) : Nat → Nat
  | 0 => 0
  | k + 1 => if tmn y (mxb y k) < tmn y (k + 1) then k + 1 else mxb y k
def an_112 (y : iv_Y) (x1 x2 : Int32) : Int32 := if (tk y x1 && tk y x2) = true then in_b (sh_eq (iv_rn y x1.toNatClampNeg) (iv_rn y x2.toNatClampNeg)) else -2
def an_113 (y : iv_Y) (x1 : Int32) : Int32 := if tk y x1 = true then nI (sh_fs y x1.toNatClampNeg) else -2
def an_114 (y : iv_Y) : Int32 := if iv_ln y ≠ 0 then nI (fb_ct (fun t => decide (sh_fs y t = t)) (iv_n y + 1)) else -2
def an_115 (y : iv_Y) : Int32 := if iv_ln y ≠ 0 then nI (mxb y (iv_n y)) else -2
/-- k pictures are known -/
def SH (y : iv_Y) (k : Nat) (M : px_Mem) : Prop := M.1 38 8 = nI k ∧ ∀ t, t < k → (∀ i, i < 45 → M.2 (92 + t) i = lN (sh_pic (iv_rn y t) i)) ∧ M.1 42 t = nI (sh_fs y t)
section S68
variable {M : px_Mem} {Q : px_Po} {y : iv_Y}
theorem sh_eq_rf (s : ws_S) : sh_eq s s = true := sh_eq_t.mpr (fun _ _ => rfl)
theorem sh_eq_sy {s u : ws_S} (h : sh_eq s u = true) : sh_eq u s = true := sh_eq_t.mpr (fun i hi => (sh_eq_t.mp h i hi).symm)
theorem sh_eq_tr {s u v : ws_S} (h : sh_eq s u = true) (h2 : sh_eq u v = true) : sh_eq s v = true := sh_eq_t.mpr (fun i hi => (sh_eq_t.mp h i hi).trans (sh_eq_t.mp h2 i hi))
theorem fs_le (y : iv_Y) (t : Nat) : sh_fs y t ≤ t := fa_first_le _ t
theorem fs_y (y : iv_Y) (t : Nat) : sh_eq (iv_rn y (sh_fs y t)) (iv_rn y t) = true := by
  rcases Nat.lt_or_ge (sh_fs y t) t with c | c
  · exact fa_first_yes (fun u => sh_eq (iv_rn y u) (iv_rn y t)) t c
  · have e : sh_fs y t = t := by have := fs_le y t; omega
    rw [e]
    exact sh_eq_rf _
theorem fs_n {t u : Nat} (h : u < sh_fs y t) : sh_eq (iv_rn y u) (iv_rn y t) = false := fa_first_no (fun u => sh_eq (iv_rn y u) (iv_rn y t)) t u h
theorem fs_lt {t u : Nat} (h : sh_eq (iv_rn y u) (iv_rn y t) = true) : sh_fs y t ≤ u := by
  rcases Nat.lt_or_ge u (sh_fs y t) with c | c
  · rw [fs_n c] at h
    exact absurd h (by decide)
  · exact c
theorem fs_eq {a b : Nat} : sh_fs y a = sh_fs y b ↔ sh_eq (iv_rn y a) (iv_rn y b) = true := by
  constructor
  · intro h
    have h1 := fs_y y a
    rw [h] at h1
    exact sh_eq_tr (sh_eq_sy h1) (fs_y y b)
  · intro h
    have h1 := fs_lt (sh_eq_tr (fs_y y a) h)
    have h2 := fs_lt (sh_eq_tr (fs_y y b) (sh_eq_sy h))
    omega
theorem fs_fs (y : iv_Y) (t : Nat) : sh_fs y (sh_fs y t) = sh_fs y t := by
  have h1 := fs_eq.mpr (fs_y y t)
  exact h1
theorem sg_48_0d {d1 : Option Value} (h1 : px_T 0 53 0 [some (.ref 4)] [] M (fun r M1 => px_T 0 48 11 [some (.ref 38), d1] (r.toList ++ [.int (M.1 38 8)]) M1 Q)) : px_T 0 48 0 [some (.ref 38), d1] [] M Q := by
  obtain ⟨n, h⟩ := px_T_cl (k := 48) (pc := 8) (y := 53) (st := [.ref 4, .int (M.1 38 8)]) rfl (h1)
  exact ⟨n + 5, ⟨rfl, ⟨rfl, ⟨rfl, h⟩⟩⟩⟩
theorem SH_iv {k : Nat} (hk : k ≤ iv_n y + 1) (h : SH y k M) : iv_shp y M := ⟨k, hk, h.1, h.2⟩
theorem SH_fr {k : Nat} {M1 : px_Mem} (h : SH y k M) (h1 : M1.1 38 8 = M.1 38 8) (h2 : M1.1 42 = M.1 42) (h3 : ∀ t, t < k → M1.2 (92 + t) = M.2 (92 + t)) : SH y k M1 := by
  refine ⟨by rw [h1]; exact h.1, fun t ht => ⟨?_, by rw [h2]; exact (h.2 t ht).2⟩⟩
  rw [h3 t ht]
  exact (h.2 t ht).1
theorem cq_sh {M1 : px_Mem} {t : Nat} (ht : t ≤ iv_n y) (hF : fl_at y t M1) (h : ∀ a, (a < 24 ∨ (56 ≤ a ∧ a < 92) ∨ 163 ≤ a) → M1.1 a = M.1 a ∧ M1.2 a = M.2 a) (hS : iv_shp y M1) : cq y M M1 := ⟨h, ⟨t, ht, hF⟩, hS⟩
theorem sc_48l (C0 : ic y M) (h : ∀ M', cq y M M' → SH y (iv_n y + 1) M' → Q none M') : ∀ (j k : Nat) (N : px_Mem) (d1 : Option Value), k + j = iv_n y + 1 → cq y M N → SH y k N → px_T 0 48 0 [some (.ref 38), d1] [] N Q := by
  have hn := ic_n C0
  intro j
  induction j with
  | zero =>
    intro k N d1 hk q S
    have C := ic_cq C0 q
    have e : k = iv_n y + 1 := by omega
    subst e
    refine sg_48_0d (sp_53 (Or.inl rfl) C.2.1 ?_)
    rw [S.1]
    exact sg_48_11 (fun _ => h N q S) (fun c => absurd (by rw [in_lt (by omega) (by omega)]; omega) c) (fun c => absurd (by rw [in_lt (by omega) (by omega)]; omega) c)
  | succ j ih =>
    intro k N d1 hk q S
    have C := ic_cq C0 q
    have S8 := S.1
    have hk2 : k ≤ iv_n y := by omega
    refine sg_48_0d (sp_53 (Or.inl rfl) C.2.1 ?_)
    rw [S8]
    refine sg_48_11 (fun c => ?_) (fun _ c => ?_) (fun _ _ => ?_)
    · rw [in_lt (by omega) (by omega)] at c
      omega
    · rw [S8, show (70 : Int32) = nI 70 from rfl, in_lt (by omega) (by omega)] at c
      omega
    · rw [S8]
      obtain ⟨t0, h0, hF0⟩ := C.2.2.1
      refine sp_11 C.1 C.2.1 hF0 h0 hk2 (fun M1 k1 F1 _ => ?_)
      have S1 : SH y k M1 := SH_fr S (by rw [(k1.1 38 (by omega)).1]) (k1.1 42 (by omega)).1 (fun t _ => (k1.1 (92 + t) (by omega)).2)
      have W := iv_rnW C.1 hk2
      refine sg_48_35 (Or.inl rfl) (by rw [S1.1]; exact me_vin (by omega) (by omega)) ?_
      rw [S1.1, in_cl (by omega), rf41 k (by omega)]
      refine sc_50 (by omega) F1.2.1 W (iv_rnm C.1 hk2) (fun M2 k2 P2 => sg_48_47 ?_)
      have S2 : SH y k M2 := SH_fr S1 (k2.2.1 8 (by omega)) (k2.1 42 (by omega) (by omega) (by omega)) (fun t ht => k2.2.2 _ (by omega))
      have F2 : fl_at y k M2 := fl_at_w F1 (fun a ha => k2.1 a (by omega) (by omega) (by omega))
      have S28 := S2.1
      have fin : ∀ l, l = sh_fs y k → px_T 0 48 0 [some (.ref 38), some (.int (nI l))] [] (px_wI (px_wI M2 42 ((M2.1 38 8).toNatClampNeg) (nI l)) 38 8 ((M2.1 38 8) + 1)) Q := by
        intro l hl
        rw [S28, in_cl (by omega), in_a1]
        have S3 : SH y (k + 1) (px_wI (px_wI M2 42 k (nI l)) 38 8 (nI (k + 1))) := by
          refine ⟨by simp (disch := omega) only [me_II, me_Ii, me_Io, me_I2, me_L1, me_Li, me_LL, me_Lo, me_As, me_Ao, me_A2, me_Bs, me_Bo, me_B1], fun t ht => ⟨fun i hi => ?_, ?_⟩⟩
          · show M2.2 (92 + t) i = _
            by_cases e : t = k
            · subst e
              exact P2 i hi
            · exact (S2.2 t (by omega)).1 i hi
          · by_cases e : t = k
            · subst e
              simp (disch := omega) only [me_II, me_Ii, me_Io, me_I2, me_L1, me_Li, me_LL, me_Lo, me_As, me_Ao, me_A2, me_Bs, me_Bo, me_B1]
              rw [hl]
            · simp (disch := omega) only [me_II, me_Ii, me_Io, me_I2, me_L1, me_Li, me_LL, me_Lo, me_As, me_Ao, me_A2, me_Bs, me_Bo, me_B1]
              exact (S2.2 t (by omega)).2
        refine ih (k + 1) _ _ (by omega) (cq_tr q (cq_sh hk2 (fl_at_w F2 (fun a ha => by simp (disch := omega) only [me_II, me_Ii, me_Io, me_I2, me_L1, me_Li, me_LL, me_Lo, me_As, me_Ao, me_A2, me_Bs, me_Bo, me_B1])) (fun a ha => ⟨?_, ?_⟩) (SH_iv (by omega) S3))) S3
        · simp (disch := omega) only [me_II, me_Ii, me_Io, me_I2, me_L1, me_Li, me_LL, me_Lo, me_As, me_Ao, me_A2, me_Bs, me_Bo, me_B1]
          rw [k2.1 a (by omega) (by omega) (by omega), (k1.1 a (by omega)).1]
        · show M2.2 a = N.2 a
          rw [k2.2.2 a (by omega), (k1.1 a (by omega)).2]
      have hfs := fs_le y k
      have hl : ∀ (g l : Nat), l + g = sh_fs y k → px_T 0 48 49 [some (.ref 38), some (.int (nI l))] [] M2 Q := by
        intro g
        induction g with
        | zero =>
          intro l hl2
          have el : l = sh_fs y k := by omega
          rcases Nat.lt_or_ge l k with c | c
          · have f42 := (S2.2 l c).2
            have ff : sh_fs y l = l := by rw [el]; exact fs_fs y k
            refine sg_48_49 (fun d => ?_) (fun d => ?_) (fun _ => me_vin (by omega) (by omega)) (fun _ _ => by rw [S28]; exact me_vin (by omega) (by omega)) (fun _ _ => ?_) (fun _ d => ?_)
            · rw [S28, in_le (by omega) (by omega)] at d
              omega
            · rw [S28, in_le (by omega) (by omega)] at d
              omega
            · rw [S28, in_cl (by omega), in_cl (by omega), rf41 l (by omega), rf41 k (by omega)]
              refine sc_49 (by omega) (by omega) (iv_rnW C.1 (by omega)) W (S2.2 l c).1 P2 (sg_48_85 (fun d => ?_) (fun _ => by rw [S28]; exact me_vin (by omega) (by omega)) (fun _ => fin l el))
              have h9 := fs_y y k
              rw [← el] at h9
              rw [h9] at d
              exact absurd d (by decide)
            · rw [in_cl (by omega), f42, ff] at d
              exact absurd rfl d
          · have ek : l = k := by omega
            refine sg_48_49 (fun _ => by rw [S28]; exact me_vin (by omega) (by omega)) (fun _ => fin l el) (fun d => absurd (by rw [S28, in_le (by omega) (by omega)]; omega) d) (fun d => absurd (by rw [S28, in_le (by omega) (by omega)]; omega) d) (fun d => absurd (by rw [S28, in_le (by omega) (by omega)]; omega) d) (fun d => absurd (by rw [S28, in_le (by omega) (by omega)]; omega) d)
        | succ g ih2 =>
          intro l hl2
          have nx : px_T 0 48 49 [some (.ref 38), some (.int (nI l + 1))] [] M2 Q := by
            rw [in_a1]
            exact ih2 (l + 1) (by omega)
          refine sg_48_49 (fun d => ?_) (fun d => ?_) (fun _ => me_vin (by omega) (by omega)) (fun _ _ => by rw [S28]; exact me_vin (by omega) (by omega)) (fun _ _ => ?_) (fun _ _ => nx)
          · rw [S28, in_le (by omega) (by omega)] at d
            omega
          · rw [S28, in_le (by omega) (by omega)] at d
            omega
          · rw [S28, in_cl (by omega), in_cl (by omega), rf41 l (by omega), rf41 k (by omega)]
            refine sc_49 (by omega) (by omega) (iv_rnW C.1 (by omega)) W (S2.2 l (by omega)).1 P2 (sg_48_85 (fun _ => nx) (fun d => ?_) (fun d => ?_))
            · rw [fs_n (show l < sh_fs y k by omega)] at d
              exact absurd rfl d
            · rw [fs_n (show l < sh_fs y k by omega)] at d
              exact absurd rfl d
      exact hl (sh_fs y k) 0 (by omega)
theorem sc_48 (C : ic y M) (h : ∀ M', cq y M M' → SH y (iv_n y + 1) M' → Q none M') : px_T 0 48 0 [some (.ref 38), none] [] M Q := by
  obtain ⟨k, hk, k1, k2⟩ := C.2.2.2.1
  exact sc_48l C h (iv_n y + 1 - k) k M none (by omega) (cq_rf C) ⟨k1, k2⟩
theorem sc_46 (hn : iv_n y ≤ 70) (S : SH y (iv_n y + 1) M) {t : Nat} (ht : t ≤ iv_n y) (h : Q (some (.int (nI (sh_fs y t)))) M) : px_T 0 46 0 [some (.ref 38), some (.int (nI t))] [] M Q := by
  refine sg_46_0 (fun c => ?_) (fun _ c => ?_) (fun _ _ => me_vin (by omega) (by omega)) (fun _ _ => ?_)
  · simp (disch := omega) only [in_lt, in_le, in_eq, in_add, in_mul, in_sb, in_cl, in_bz, in_bo, in_mo, not_true_eq_false, not_false_eq_true, il_0, il_1, il_2, il_3, il_4, il_5, il_6, il_7, il_8, il_9, il_10, il_11, il_12, il_13, il_14, il_15, il_16, il_31] at c
    omega
  · rw [show (71 : Int32) = nI 71 from rfl, in_le (by omega) (by omega)] at c
    omega
  · rw [in_cl (by omega), (S.2 t (by omega)).2]
    exact h
theorem sc_112 (C : ic y M) {x1 x2 : Int32} (h : ∀ M', cq y M M' → Q (some (.int (an_112 y x1 x2))) M') : px_T 0 112 0 [some (.ref 0), some (.int x1), some (.int x2)] [] M Q := by
  unfold an_112 at h
  have hn := ic_n C
  have bad : (tk y x1 = false ∨ tk y x2 = false) → Q (some (.int (-2))) M := by
    intro hb
    have h9 := h M (cq_rf C)
    rw [if_neg] at h9
    · exact h9
    · rcases hb with q | q <;> rw [q] <;> simp
  refine sg_112_0 (sc_152 C (fun a e1 a1 g1 => sg_112_5 (fun _ => ?_) (fun q => absurd rfl q)) (fun g1 => sg_112_5 (fun q => absurd q (by decide)) (fun _ => bad (Or.inl g1))))
  refine sc_152 C (fun b e2 b1 g2 => sg_112_13 (fun _ => ?_) (fun q => absurd rfl q)) (fun g2 => sg_112_13 (fun q => absurd q (by decide)) (fun _ => bad (Or.inr g2)))
  rw [g1, g2, if_pos (by decide)] at h
  subst e1 e2
  have fa := fs_le y a
  have fb := fs_le y b
  rw [in_cl (by omega), in_cl (by omega)] at h
  refine sc_48 C (fun M1 q1 S => sg_112_26 (sc_46 hn S a1 (sg_112_34 (sc_46 hn S b1 (sg_112_42 (fun c => ?_) (fun c => ?_))))))
  · rw [in_eq (by omega) (by omega), fs_eq] at c
    have h9 := h M1 q1
    rw [c] at h9
    exact h9
  · rw [in_eq (by omega) (by omega), fs_eq, Bool.not_eq_true] at c
    have h9 := h M1 q1
    rw [c] at h9
    exact h9
theorem sc_113 (C : ic y M) {x1 : Int32} (h : ∀ M', cq y M M' → Q (some (.int (an_113 y x1))) M') : px_T 0 113 0 [some (.ref 0), some (.int x1)] [] M Q := by
  unfold an_113 at h
  have hn := ic_n C
  refine sg_113_0 (sc_152 C (fun a e1 a1 g1 => sg_113_5 (fun _ => ?_) (fun q => absurd rfl q)) (fun g1 => sg_113_5 (fun q => absurd q (by decide)) (fun _ => ?_)))
  · rw [g1, if_pos rfl] at h
    subst e1
    rw [in_cl (by omega)] at h
    exact sc_48 C (fun M1 q1 S => sg_113_18 (sc_46 hn S a1 (sg_113_26 (h M1 q1))))
  · have h9 := h M (cq_rf C)
    rw [g1, if_neg (by decide)] at h9
    exact h9
theorem sc_114 (C : ic y M) (h : ∀ M', cq y M M' → Q (some (.int (an_114 y))) M') : px_T 0 114 0 [some (.ref 0), none, none] [] M Q := by
  unfold an_114 at h
  have hn := ic_n C
  refine sg_114_0 (sc_151 C (fun g => sg_114_4 (fun _ => ?_) (fun q => absurd rfl q)) (fun g => sg_114_4 (fun q => absurd q (by decide)) (fun _ => ?_)))
  · rw [if_pos g] at h
    refine sc_48 C (fun M1 q1 S => sg_114_17 ?_)
    have C1 := ic_cq C q1
    have hl : ∀ i, i ≤ iv_n y + 1 → px_T 0 114 21 [some (.ref 0), some (.int (nI (fb_ct (fun t => decide (sh_fs y t = t)) i))), some (.int (nI i))] [] M1 Q := by
      refine lp_dn ?_ (fun i hi ih => ?_)
      · refine sg_114_21 (sp_53 (Or.inl rfl) C1.2.1 (sg_114_29 (fun _ => h M1 q1) (fun c => absurd (by rw [in_lt (by omega) (by omega)]; omega) c)))
      · refine sg_114_21 (sp_53 (Or.inl rfl) C1.2.1 (sg_114_29 (fun c => ?_) (fun _ => ?_)))
        · rw [in_lt (by omega) (by omega)] at c
          omega
        · have fi := fs_le y i
          refine sc_46 hn S (by omega) (sg_114_40 (fun c => ?_) (fun c => ?_))
          · rw [in_eq (by omega) (by omega)] at c
            rw [ct_y (p := fun t => decide (sh_fs y t = t)) (n := i) (decide_eq_true c)] at ih
            rw [in_a1, in_a1]
            exact ih
          · rw [in_eq (by omega) (by omega)] at c
            rw [ct_n (p := fun t => decide (sh_fs y t = t)) (n := i) (decide_eq_false c)] at ih
            rw [in_a1]
            exact ih
    exact hl 0 (by omega)
  · rw [if_neg (fun q => q g)] at h
    exact h M (cq_rf C)
theorem mxb_b (y : iv_Y) : ∀ k, mxb y k ≤ k
  | 0 => Nat.le_refl _
  | k + 1 => by
    have := mxb_b y k
    unfold mxb
    split
    · exact Nat.le_refl _
    · omega
theorem mxb_s (y : iv_Y) (k : Nat) : mxb y (k + 1) = if tmn y (mxb y k) < tmn y (k + 1) then k + 1 else mxb y k := rfl
theorem tmn_b (y : iv_Y) (t : Nat) : tmn y t ≤ iv_n y + 1 := fb_ct_le _ _
theorem sc_47 (C : ic y M) (S : SH y (iv_n y + 1) M) (h : ∀ M', cq y M M' → Q (some (.int (nI (mxb y (iv_n y))))) M') : px_T 0 47 0 [some (.ref 38), none, none] [] M Q := by
  have hn := ic_n C
  have fr : ∀ N : px_Mem, (∀ a, a ≠ 43 → N.1 a = M.1 a) → N.2 = M.2 → cq y M N := fun N h1 h2 => cq_w C (fun a ha => h1 a (by omega)) (fun a _ => by rw [h2])
  have l1 : ∀ (g t : Nat) (N : px_Mem), t + g = iv_n y + 1 → (∀ a, a ≠ 43 → N.1 a = M.1 a) → N.2 = M.2 → (∀ x, x < 71 → N.1 43 x = nI (fb_ct (fun u => decide (sh_fs y u = x)) t)) → px_T 0 47 10 [some (.ref 38), some (.int (nI t)), none] [] N Q := by
    intro g
    induction g with
    | zero =>
      intro t N ht hf h2 hx
      have e : t = iv_n y + 1 := by omega
      subst e
      have f8 : N.1 38 8 = nI (iv_n y + 1) := by rw [hf 38 (by omega)]; exact S.1
      refine sg_47_10 (fun _ => ?_) (fun c => absurd (by rw [f8, in_le (by omega) (by omega)]; omega) c) (fun c => absurd (by rw [f8, in_le (by omega) (by omega)]; omega) c) (fun c => absurd (by rw [f8, in_le (by omega) (by omega)]; omega) c)
      have l2 : ∀ (g k : Nat), k + g = iv_n y → px_T 0 47 43 [some (.ref 38), some (.int (nI (mxb y k))), some (.int (nI (k + 1)))] [] N Q := by
        intro g
        induction g with
        | zero =>
          intro k hk
          have e : k = iv_n y := by omega
          subst e
          exact sg_47_43 (fun _ => h N (fr N hf h2)) (fun c => absurd (by rw [f8, in_le (by omega) (by omega)]; omega) c) (fun c => absurd (by rw [f8, in_le (by omega) (by omega)]; omega) c) (fun c => absurd (by rw [f8, in_le (by omega) (by omega)]; omega) c) (fun c => absurd (by rw [f8, in_le (by omega) (by omega)]; omega) c)
        | succ g ih =>
          intro k hk
          have hb := mxb_b y k
          have t1 := tmn_b y (k + 1)
          have t2 := tmn_b y (mxb y k)
          have x1 : N.1 43 (k + 1) = nI (tmn y (k + 1)) := hx (k + 1) (by omega)
          have x2 : N.1 43 (mxb y k) = nI (tmn y (mxb y k)) := hx (mxb y k) (by omega)
          have ih2 := ih (k + 1) (by omega)
          rw [mxb_s] at ih2
          refine sg_47_43 (fun c => ?_) (fun _ => me_vin (by omega) (by omega)) (fun _ => me_vin (by omega) (by omega)) (fun _ c => ?_) (fun _ c => ?_)
          · rw [f8, in_le (by omega) (by omega)] at c
            omega
          · rw [in_cl (by omega), in_cl (by omega), x1, x2, in_le (by omega) (by omega)] at c
            rw [if_neg (by omega)] at ih2
            rw [in_a1]
            exact ih2
          · rw [in_cl (by omega), in_cl (by omega), x1, x2, in_le (by omega) (by omega)] at c
            rw [if_pos (by omega)] at ih2
            rw [in_a1]
            exact ih2
      exact l2 (iv_n y) 0 (by omega)
    | succ g ih =>
      intro t N ht hf h2 hx
      have f8 : N.1 38 8 = nI (iv_n y + 1) := by rw [hf 38 (by omega)]; exact S.1
      have f42 : N.1 42 t = nI (sh_fs y t) := by rw [hf 42 (by omega)]; exact (S.2 t (by omega)).2
      have ft := fs_le y t
      refine sg_47_10 (fun c => ?_) (fun _ => me_vin (by omega) (by omega)) (fun _ => by rw [in_cl (by omega), f42]; exact me_vin (by omega) (by omega)) (fun _ => ?_)
      · rw [f8, in_le (by omega) (by omega)] at c
        omega
      · rw [in_cl (by omega), f42, in_cl (by omega), hx _ (by omega), in_a1, in_a1]
        refine ih (t + 1) _ (by omega) (fun a ha => by rw [me_Io ha]; exact hf a ha) h2 (fun x hx2 => ?_)
        by_cases e : x = sh_fs y t
        · subst e
          rw [me_II, ct_y (p := fun u => decide (sh_fs y u = sh_fs y t)) (n := t) (decide_eq_true rfl)]
        · rw [me_Ii e, ct_n (p := fun u => decide (sh_fs y u = x)) (n := t) (decide_eq_false (fun q => e q.symm))]
          exact hx x hx2
  refine sg_47_0 (sp_340 (n := 71) rfl (by omega) (sg_47_8 ?_))
  refine l1 (iv_n y + 1) 0 _ (by omega) (fun a ha => by rw [me_Ao ha]) rfl (fun x hx => ?_)
  rw [me_As, fa_fill_in hx]
  rfl
theorem sc_115 (C : ic y M) (h : ∀ M', cq y M M' → Q (some (.int (an_115 y))) M') : px_T 0 115 0 [some (.ref 0)] [] M Q := by
  unfold an_115 at h
  refine sg_115_0 (sc_151 C (fun g => sg_115_4 (fun _ => ?_) (fun q => absurd rfl q)) (fun g => sg_115_4 (fun q => absurd q (by decide)) (fun _ => ?_)))
  · rw [if_pos g] at h
    exact sc_48 C (fun M1 q1 S => sg_115_17 (sc_47 (ic_cq C q1) S (fun M2 q2 => sg_115_24 (h M2 (cq_tr q1 q2)))))
  · rw [if_neg (fun q => q g)] at h
    exact h M (cq_rf C)
end S68
