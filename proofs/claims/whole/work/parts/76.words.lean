/-! words -/
def wln (w : Nat) : Nat := (px_str.getD w []).length
def wch (w j : Nat) : Nat := ((px_str.getD w []).getD j 0).toNatClampNeg
def isW (T : tx) (k : tkn) (w : Nat) : Bool := (decide (k.2.1 = 1) && decide (k.2.2.1 - k.1 = wln w)) && alB (fun j => decide (T.1 (k.1 + j) = wch w j)) (wln w)
section W76
variable {M : px_Mem} {Q : px_Po} {T : tx}
theorem wln_b : ∀ w, w < 14 → wln w ≤ 6 := by decide
theorem wch_e : ∀ w, w < 14 → ∀ j, j < 6 → (px_str.getD w []).getD j 0 = nI (wch w j) ∧ wch w j < 128 := by decide
theorem sh_11 : ∀ w, w < 14 → px_sh 0 (1100 + w) = some (.inl 12) := by decide
theorem sh_12 : ∀ w, w < 14 → px_sh 0 (1200 + w) = some (.inr (11, wln w)) := by decide
theorem rf_11 {w : Nat} : px_rf (1100 + w) 0 = 1200 + w := by
  unfold px_rf
  rw [if_neg (by omega)]
  omega
theorem sg_333_0t {x0 n : Nat} (h1 : px_sh 0 x0 = some (.inl 12)) (h2 : px_sh 0 (px_rf x0 0) = some (.inr (11, n))) (h3 : px_T 0 335 0 [some (.ref x0)] [] M (fun r M1 => px_T 0 333 9 [some (.ref x0)] (r.toList ++ [.int (Int32.ofNat n)]) M1 Q)) : px_T 0 333 0 [some (.ref x0)] [] M Q := by
  obtain ⟨m, h⟩ := px_T_cl (k := 333) (pc := 6) (y := 335) (st := [.ref x0, .int (Int32.ofNat n)]) rfl (h3)
  exact ⟨m + 5, ⟨h1, (Or.inl ⟨11, n, h2, (by decide), ⟨h1, h⟩⟩)⟩⟩
theorem sg_338_0t {x0 : Nat} {x1 : Int32} {n : Nat} (h1 : px_sh 0 x0 = some (.inr (11, n))) (h2 : px_T 0 337 0 [some (.int x1), some (.int (Int32.ofNat n))] [] M (fun r M1 => px_T 0 338 6 [some (.ref x0), some (.int x1)] (r.toList ++ []) M1 Q)) : px_T 0 338 0 [some (.ref x0), some (.int x1)] [] M Q := by
  obtain ⟨m, h⟩ := px_T_cl (k := 338) (pc := 3) (y := 337) (st := [.int (Int32.ofNat n), .int x1]) rfl (h2)
  exact ⟨m + 4, (Or.inl ⟨11, n, h1, (by decide), h⟩)⟩
theorem sp_333 (Ro : iv_ro M) {w : Nat} (hw : w < 14) (h : Q (some (.int (nI (wln w)))) M) : px_T 0 333 0 [some (.ref (1100 + w))] [] M Q := by
  have h1 := sh_11 w hw
  have e1 : M.1 (1100 + w) 1 = 0 := Ro.2.2.1 w hw
  refine sg_333_0t h1 (by rw [rf_11]; exact sh_12 w hw) (sg_335_0 h1 (by rw [e1]; rfl) (sg_333_9 ?_))
  rw [e1]
  have e2 : nI (wln w) >>> ((0 : Int32) &&& 31) = nI (wln w) := by
    have := in_shr (n := wln w) (k := 0) (by have := wln_b w hw; omega) (by omega)
    rw [Nat.pow_zero, Nat.div_one] at this
    exact this
  show Q (some (.int (nI (wln w) >>> ((0 : Int32) &&& 31)))) M
  rw [e2]
  exact h
theorem ch_16 : ∀ a, a < 8 → ∀ b, b < 16 → ((nI (16 * a + b) &&& 255).toUInt32 % 65536).toInt32 = nI (16 * a + b) ∧ (nI (16 * a + b)).toInt8.toInt32 = nI (16 * a + b) ∧ ((nI (16 * a + b)).toUInt32 % 65536).toInt32 = nI (16 * a + b) := by decide
theorem ch_e {c : Nat} (hc : c < 128) : ((nI c &&& 255).toUInt32 % 65536).toInt32 = nI c ∧ (nI c).toInt8.toInt32 = nI c ∧ ((nI c).toUInt32 % 65536).toInt32 = nI c := by
  have h := ch_16 (c / 16) (by omega) (c % 16) (by omega)
  rw [show 16 * (c / 16) + c % 16 = c by omega] at h
  exact h
theorem ch_n {c : Nat} (hc : c < 128) : narrow .char (.int (nI c)) = .int (nI c) := by
  have h := (ch_e hc).2.2
  show Value.int _ = _
  exact congrArg Value.int h
theorem sp_334 (Ro : iv_ro M) {w j : Nat} (hw : w < 14) (hj : j < wln w) (h : Q (some (.int (nI (wch w j)))) M) : px_T 0 334 0 [some (.ref (1100 + w)), some (.int (nI j))] [] M Q := by
  have h1 := sh_11 w hw
  have hl := wln_b w hw
  have hc := wch_e w hw j (by omega)
  have e1 : M.1 (1100 + w) 1 = 0 := Ro.2.2.1 w hw
  have e2 : M.1 (1200 + w) j = nI (wch w j) := by rw [Ro.2.2.2 w j hw]; exact hc.1
  have e3 := (ch_e hc.2).1
  refine sg_334_0 (sg_336_0 h1 (fun _ => ?_) (fun q => absurd e1 q)) h1
  refine sg_334_4 (fun q => absurd q (by decide)) (fun q => absurd q (by decide)) (fun _ => h1) (fun _ => ?_)
  rw [rf_11]
  refine sg_338_0t (sh_12 w hw) (sg_337_0 (sg_341_0 (fun q => ?_) (fun _ _ => sg_337_8 (sg_338_6 ⟨11, wln w, Or.inr (Or.inr rfl), sh_12 w hw, me_vin hj (by omega)⟩ ?_ ?_)) (fun _ q => ?_)))
  · simp (disch := omega) only [in_lt, in_le, in_eq, in_add, in_mul, in_sb, in_cl, in_bz, in_bo, in_mo, not_true_eq_false, not_false_eq_true, il_0, il_1, il_2, il_3, il_4, il_5, il_6, il_7, il_8, il_9, il_10, il_11, il_12, il_13, il_14, il_15, il_16, il_31] at q
    omega
  · rw [in_cl (by omega), e2, e3]
    exact ch_n hc.2
  · rw [in_cl (by omega), e2, e3]
    exact sg_334_15 (ch_n hc.2) h
  · exact absurd (show nI j < nI (wln w) by rw [in_lt (by omega) (by omega)]; exact hj) q
theorem wd_e {c d : Nat} (hc : c < 256) (hd : d < 128) : (nI c).toInt8.toInt32 = nI d ↔ c = d := by
  constructor
  · intro h
    have h1 := by_255 hc
    rw [h] at h1
    have h2 : nI d &&& 255 = nI d := by
      have := by_255 (c := d) (by omega)
      rw [(ch_e hd).2.1] at this
      exact this
    rw [h2, in_eq (by omega) (by omega)] at h1
    exact h1.symm
  · intro h
    subst h
    exact (ch_e hd).2.1
/-- the class: whether the token is a word -/
theorem sc_29 (Ro : iv_ro M) (P : TPc T M) {k : tkn} (K : CT k M) (W : TW T k) {w : Nat} (hw : w < 14) (h : Q (some (.int (in_b (isW T k w)))) M) : px_T 0 29 0 [some (.ref 3), some (.ref (1100 + w)), none] [] M Q := by
  obtain ⟨k4, k3, k5, _⟩ := K
  obtain ⟨w1, w2, w3⟩ := W
  have hp := P.2.1
  have hl := wln_b w hw
  unfold isW at h
  refine sg_29_0 (fun c => sp_333 Ro hw ?_) (fun _ => sh_11 w hw) (fun c => ?_)
  · rw [k3, show (1 : Int32) = nI 1 from rfl, in_eq (by omega) (by omega)] at c
    rw [decide_eq_true c, Bool.true_and] at h
    rw [k5, k4, in_sb w1]
    refine sg_29_21 (fun d => ?_) (fun d => ?_)
    · rw [in_eq (by omega) (by omega)] at d
      rw [decide_eq_true d, Bool.true_and] at h
      have lp : ∀ (n j : Nat), j + n = wln w → (∀ i, i < j → T.1 (k.1 + i) = wch w i) → px_T 0 29 28 [some (.ref 3), some (.ref (1100 + w)), some (.int (nI j))] [] M Q := by
        intro n
        induction n with
        | zero =>
          intro j hj ha
          have e : j = wln w := by omega
          refine sg_29_28 (sp_333 Ro hw (sg_29_33 (fun _ => ?_) (fun q => ?_))) (sh_11 w hw)
          · rw [alB_t.mpr (fun i hi => decide_eq_true (ha i (by omega)))] at h
            exact h
          · rw [in_le (by omega) (by omega)] at q
            omega
        | succ n ih =>
          intro j hj ha
          have hch := (wch_e w hw j (by omega)).2
          have hv := (P.2.2 (k.1 + j) (by omega)).1
          refine sg_29_28 (sp_333 Ro hw (sg_29_33 (fun q => ?_) (fun _ => ?_))) (sh_11 w hw)
          · rw [in_le (by omega) (by omega)] at q
            omega
          · rw [k4, in_add]
            refine sc_59 P (by omega) (sg_29_49 (sp_334 Ro hw (by omega) (sg_29_54 (fun q => ?_) (fun q => ?_))) (sh_11 w hw))
            · rw [in_eq (by omega) (by omega)] at q
              rw [in_a1]
              refine ih (j + 1) (by omega) (fun i hi => ?_)
              by_cases e : i = j
              · rw [e]; exact q
              · exact ha i (by omega)
            · rw [in_eq (by omega) (by omega)] at q
              rw [alB_f (show j < wln w by omega) (decide_eq_false q)] at h
              exact h
      exact lp (wln w) 0 (by omega) (fun i hi => absurd hi (Nat.not_lt_zero i))
    · rw [in_eq (by omega) (by omega)] at d
      rw [decide_eq_false d, Bool.false_and] at h
      exact h
  · rw [k3, show (1 : Int32) = nI 1 from rfl, in_eq (by omega) (by omega)] at c
    rw [decide_eq_false c, Bool.false_and, Bool.false_and] at h
    exact h
theorem sr_194 {b : Bool} (hb : M.1 56 12 = 0 ↔ b = true) (h : Q (some (.int (in_b b))) M) : px_T 0 194 0 [some (.ref 56)] [] M Q := by
  refine sg_194_0 (fun c => ?_) (fun c => ?_)
  · rw [hb.mp c] at h
    exact h
  · rw [hb, Bool.not_eq_true] at c
    rw [c] at h
    exact h
/-- the reference: whether the token is a word; after a fault it is none -/
theorem sr_196 (Ro : iv_ro M) (P : TPr T M) {k : tkn} (K : RT k M) (W : TW T k) {w : Nat} (hw : w < 14) (hpos : 0 < wln w) (h0 : M.1 56 12 = 0) (h : Q (some (.int (in_b (isW T k w)))) M) : px_T 0 196 0 [some (.ref 56), some (.ref (1100 + w)), none, none] [] M Q := by
  obtain ⟨k9, k10, k8, _⟩ := K
  obtain ⟨w1, w2, w3⟩ := W
  have hp := P.2.1
  have hl := wln_b w hw
  unfold isW at h
  have no : ((decide (k.2.1 = 1) && decide (k.2.2.1 - k.1 = wln w)) = false ∨ ∃ j, j < wln w ∧ ¬ T.1 (k.1 + j) = wch w j) → ∀ j, j ≤ wln w → px_T 0 196 39 [some (.ref 56), some (.ref (1100 + w)), some (.int 0), some (.int (nI j))] [] M Q := by
    intro hn j hj
    have h9 : Q (some (.int 0)) M := by
      rcases hn with q | ⟨i, hi, q⟩
      · rw [q, Bool.false_and] at h
        exact h
      · rw [alB_f hi (decide_eq_false q), Bool.and_false] at h
        exact h
    exact sg_196_39 (sp_333 Ro hw (sg_196_44 (fun _ => Or.inl rfl) (fun _ => h9) (fun _ _ => Or.inl rfl) (fun _ _ => h9) (fun _ q => absurd rfl q) (fun _ q => absurd rfl q) (fun _ q => absurd rfl q))) (sh_11 w hw)
  refine sg_196_0 (sr_194 (b := true) ⟨fun _ => rfl, fun _ => h0⟩ (sg_196_4 (fun q => absurd q (by decide)) (fun _ c => sp_333 Ro hw ?_) (fun _ _ => sh_11 w hw) (fun _ c => ?_)))
  · rw [k10, show (1 : Int32) = nI 1 from rfl, in_eq (by omega) (by omega)] at c
    rw [k8, k9, in_sb w1]
    refine sg_196_28 (fun d => ?_) (fun d => ?_)
    · rw [in_eq (by omega) (by omega)] at d
      rw [decide_eq_true c, decide_eq_true d, Bool.true_and, Bool.true_and] at h
      have lp : ∀ (n j : Nat), j + n = wln w → (∀ i, i < j → T.1 (k.1 + i) = wch w i) → px_T 0 196 39 [some (.ref 56), some (.ref (1100 + w)), some (.int 1), some (.int (nI j))] [] M Q := by
        intro n
        induction n with
        | zero =>
          intro j hj ha
          have e : j = wln w := by omega
          have hle : nI (wln w) ≤ nI j := by rw [in_le (by omega) (by omega)]; omega
          refine sg_196_39 (sp_333 Ro hw (sg_196_44 (fun _ => Or.inr rfl) (fun _ => ?_) (fun q => absurd hle q) (fun q => absurd hle q) (fun q => absurd hle q) (fun q => absurd hle q) (fun q => absurd hle q))) (sh_11 w hw)
          rw [alB_t.mpr (fun i hi => decide_eq_true (ha i (by omega)))] at h
          exact h
        | succ n ih =>
          intro j hj ha
          have hch := (wch_e w hw j (by omega)).2
          have hv := P.2.2 (k.1 + j) (by omega)
          have hle : ¬ nI (wln w) ≤ nI j := by rw [in_le (by omega) (by omega)]; omega
          refine sg_196_39 (sp_333 Ro hw (sg_196_44 (fun q => absurd q hle) (fun q => absurd q hle) (fun _ q => absurd q (by decide)) (fun _ q => absurd q (by decide)) (fun _ _ => by rw [k9, in_add]; exact me_vin (by omega) (by omega)) (fun _ _ => sp_334 Ro hw (by omega) ?_) (fun _ _ => sh_11 w hw))) (sh_11 w hw)
          rw [k9, in_add, in_cl (by omega), hv.2]
          refine sg_196_67 (fun q => ?_) (fun q => ?_)
          · rw [wd_e hv.1 hch] at q
            rw [in_a1]
            refine ih (j + 1) (by omega) (fun i hi => ?_)
            by_cases e : i = j
            · rw [e]; exact q
            · exact ha i (by omega)
          · rw [wd_e hv.1 hch] at q
            rw [in_a1]
            rw [decide_eq_true c, decide_eq_true d] at no
            exact no (Or.inr ⟨j, by omega, q⟩) (j + 1) (by omega)
      exact lp (wln w) 0 (by omega) (fun i hi => absurd hi (Nat.not_lt_zero i))
    · rw [in_eq (by omega) (by omega)] at d
      exact no (Or.inl (by rw [decide_eq_false d, Bool.and_false])) 0 (by omega)
  · rw [k10, show (1 : Int32) = nI 1 from rfl, in_eq (by omega) (by omega)] at c
    exact no (Or.inl (by rw [decide_eq_false c, Bool.false_and])) 0 (by omega)
end W76
