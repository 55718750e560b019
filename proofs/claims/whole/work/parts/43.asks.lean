/-! what both sides answer by, what holds between calls, what a question may change; the guards -/
def rg (x : Int32) (a b : Int) : Bool := decide (a ≤ x.toInt ∧ x.toInt ≤ b)
def tk (y : iv_Y) (x : Int32) : Bool := decide (iv_ln y ≠ 0) && rg x 0 (iv_n y)
theorem rg_n {n : Nat} {a b : Int} (h : n < 2 ^ 31) : rg (nI n) a b = decide (a ≤ (n : Int) ∧ (n : Int) ≤ b) := by
  unfold rg
  rw [nI_toInt h]
theorem rg_of {x : Int32} {a b : Int} (h : rg x a b = true) (ha : 0 ≤ a) (hb : b < 2 ^ 31) : ∃ n : Nat, x = nI n ∧ a ≤ (n : Int) ∧ (n : Int) ≤ b := by
  have h2 := of_decide_eq_true h
  have h0 : ¬ x < 0 := fun q => by rw [fa_lt, Int32.toInt_zero] at q; omega
  obtain ⟨k, hk, rfl⟩ := nI_of h0
  rw [nI_toInt hk] at h2
  exact ⟨k, rfl, h2⟩
theorem tk_of {y : iv_Y} {x : Int32} (hn : iv_n y ≤ 70) (h : tk y x = true) : ∃ t : Nat, x = nI t ∧ t ≤ iv_n y ∧ iv_ln y ≠ 0 := by
  unfold tk at h
  rw [Bool.and_eq_true] at h
  obtain ⟨t, h1, _, h2⟩ := rg_of h.2 (by omega) (by omega)
  exact ⟨t, h1, by omega, of_decide_eq_true h.1⟩
/-! pictures -/
def sh_go (ob : Nat → Nat) : Nat → Nat × (Nat → Nat) × (Nat → Nat)
  | 0 => (0, fun _ => 0, fun _ => 0)
  | n + 1 => if ob (8 + n) ≠ 0 ∧ (sh_go ob n).2.1 (ob (8 + n) - 1) = 0 then ((sh_go ob n).1 + 1, ws_up (sh_go ob n).2.1 (ob (8 + n) - 1) ((sh_go ob n).1 + 1), ws_up (sh_go ob n).2.2 (sh_go ob n).1 (ob (8 + n) - 1)) else sh_go ob n
def sh_sz (s : ws_S) : Nat := (sh_go (ws_ob s) 120).1
def sh_lb (s : ws_S) : Nat → Nat := (sh_go (ws_ob s) 120).2.1
def sh_mt (s : ws_S) : Nat → Nat := (sh_go (ws_ob s) 120).2.2
/-- the label of a handle, and 1; 0 for none -/
def sh_la (s : ws_S) (i : Nat) : Nat := if ws_ob s i = 0 then 0 else sh_lb s (ws_ob s i - 1)
def sh_w (f : Nat → Nat) : Nat → Nat
  | 0 => 0
  | n + 1 => f 0 + 128 * sh_w (fun k => f (k + 1)) n
def sh_pp (s : ws_S) (p : Nat) : Nat := 256 * sh_w (fun h => sh_la s (8 * p + h)) 8 + 16 * ws_se s p + ws_pa s p
def sh_oe (s : ws_S) (o : Nat) : Nat := if ws_kd s o = 1 then o + 1 else o - 1
def sh_re (s : ws_S) (o : Nat) : Nat := if ws_kd s o = 1 then o else o - 1
def sh_po (s : ws_S) (l : Nat) : Nat := if ws_kd s (sh_mt s l) = 0 then 1 else ws_kd s (sh_mt s l) + 1 + 4 * ws_by s (sh_re s (sh_mt s l)) + 256 * sh_lb s (sh_oe s (sh_mt s l))
def sh_p1 (s : ws_S) (l : Nat) : Nat := if l < sh_sz s then sh_po s l else 0
def sh_pic (s : ws_S) (i : Nat) : Nat := if i < 15 then (if (ws_al s).testBit (i + 1) = true then sh_pp s (i + 1) else 0) else sh_p1 s (4 * (i - 15)) + 65536 * sh_p1 s (4 * (i - 15) + 1) + 4294967296 * sh_p1 s (4 * (i - 15) + 2) + 281474976710656 * sh_p1 s (4 * (i - 15) + 3)
def sh_en (s u : ws_S) : Nat → Bool
  | 0 => true
  | n + 1 => sh_en s u n && decide (sh_pic s n = sh_pic u n)
def sh_eq (s u : ws_S) : Bool := sh_en s u 45
def sh_fs (y : iv_Y) (t : Nat) : Nat := fa_first (fun u => sh_eq (iv_rn y u) (iv_rn y t)) t
def iv_shp (y : iv_Y) (M : px_Mem) : Prop := ∃ k, k ≤ iv_n y + 1 ∧ M.1 38 8 = nI k ∧ ∀ t, t < k → (∀ i, i < 45 → M.2 (92 + t) i = lN (sh_pic (iv_rn y t) i)) ∧ M.1 42 t = nI (sh_fs y t)
/-! the class between calls, the reference between calls -/
def ic (y : iv_Y) (M : px_Mem) : Prop := iv_yok y ∧ iv_sc y 4 M ∧ (∃ t, t ≤ iv_n y ∧ fl_at y t M) ∧ iv_shp y M ∧ iv_ro M
def ir (y : iv_Y) (M : px_Mem) : Prop := iv_yok y ∧ iv_sr y 57 0 M
/-- behind a question to the class -/
def cq (y : iv_Y) (M M' : px_Mem) : Prop := (∀ a, (a < 24 ∨ (56 ≤ a ∧ a < 92) ∨ 163 ≤ a) → M'.1 a = M.1 a ∧ M'.2 a = M.2 a) ∧ (∃ t, t ≤ iv_n y ∧ fl_at y t M') ∧ iv_shp y M'
/-- behind a question to the reference -/
def rq (M M' : px_Mem) : Prop := (∀ a, (a < 63 ∨ 88 ≤ a) → a ≠ 56 → M'.1 a = M.1 a) ∧ (∀ a, a ≠ 56 → M'.2 a = M.2 a) ∧ ∀ i, i < 20 → M'.1 56 i = M.1 56 i
section K43
variable {M : px_Mem} {Q : px_Po} {y : iv_Y}
theorem rq_rf : rq M M := ⟨fun _ _ _ => rfl, fun _ _ => rfl, fun _ _ => rfl⟩
theorem rq_tr {M1 M2 : px_Mem} (h : rq M M1) (h2 : rq M1 M2) : rq M M2 := ⟨fun a h3 h4 => (h2.1 a h3 h4).trans (h.1 a h3 h4), fun a h3 => (h2.2.1 a h3).trans (h.2.1 a h3), fun i a => (h2.2.2 i a).trans (h.2.2 i a)⟩
theorem rq_g {M1 : px_Mem} (h : gq M M1) : rq M M1 := ⟨fun a h1 h2 => h.1 a (by omega) h2, fun a _ => by rw [h.2.1], fun i hi => h.2.2 i (by omega) (by omega) (by omega)⟩
theorem rq_I {M1 : px_Mem} {a i : Nat} {x : Int32} (h : rq M M1) (h1 : 63 ≤ a) (h2 : a < 88) : rq M (px_wI M1 a i x) := ⟨fun b h3 h4 => by rw [me_Io (by omega)]; exact h.1 b h3 h4, h.2.1, fun j a => by rw [me_Io (by omega)]; exact h.2.2 j a⟩
theorem rq_F {M1 : px_Mem} {i : Nat} {x : Int32} (h : rq M M1) (h1 : 20 ≤ i) : rq M (px_wI M1 56 i x) := ⟨fun b h3 h4 => by rw [me_Io h4]; exact h.1 b h3 h4, h.2.1, fun j a => by rw [me_Ii (by omega)]; exact h.2.2 j a⟩
theorem rq_FL {M1 : px_Mem} {i : Nat} {x : Int64} (h : rq M M1) : rq M (px_wL M1 56 i x) := ⟨h.1, fun b h3 => by rw [me_Lo h3]; exact h.2.1 b h3, h.2.2⟩
theorem ir_rq {M1 : px_Mem} (R : ir y M) (h : rq M M1) : ir y M1 := by
  refine ⟨R.1, ?_⟩
  unfold iv_sr
  rw [h.1 57 (by omega) (by omega)]
  exact R.2
theorem iv_shp_fr {M1 : px_Mem} (h : iv_shp y M) (h1 : M1.1 38 8 = M.1 38 8) (h2 : M1.1 42 = M.1 42) (h3 : ∀ t, t < 71 → M1.2 (92 + t) = M.2 (92 + t)) (hn : iv_n y ≤ 70) : iv_shp y M1 := by
  obtain ⟨k, k1, k2, k3⟩ := h
  refine ⟨k, k1, by rw [h1]; exact k2, fun t ht => ⟨?_, by rw [h2]; exact (k3 t ht).2⟩⟩
  rw [h3 t (by omega)]
  exact (k3 t ht).1
theorem ic_n (C : ic y M) : iv_n y ≤ 70 := iv_yn C.1
theorem cq_rf (C : ic y M) : cq y M M := ⟨fun _ _ => ⟨rfl, rfl⟩, C.2.2.1, C.2.2.2.1⟩
theorem cq_tr {M1 M2 : px_Mem} (h : cq y M M1) (h2 : cq y M1 M2) : cq y M M2 := ⟨fun a h3 => ⟨(h2.1 a h3).1.trans (h.1 a h3).1, (h2.1 a h3).2.trans (h.1 a h3).2⟩, h2.2⟩
theorem iv_ro_fr {M1 : px_Mem} (h : iv_ro M) (k : ∀ a, 163 ≤ a → M1.1 a = M.1 a) : iv_ro M1 := by
  obtain ⟨h1, h2, h3, h4⟩ := h
  refine ⟨?_, ?_, fun i hi => ?_, fun i j hi => ?_⟩
  · rw [k 1001 (by omega)]; exact h1
  · rw [k 1002 (by omega)]; exact h2
  · rw [k (1100 + i) (by omega)]; exact h3 i hi
  · rw [k (1200 + i) (by omega)]; exact h4 i j hi
theorem ic_cq {M1 : px_Mem} (C : ic y M) (h : cq y M M1) : ic y M1 := ⟨C.1, iv_sc_fr C.2.1 (h.1 4 (by omega)).1 (h.1 5 (by omega)).1, h.2.1, h.2.2, iv_ro_fr C.2.2.2.2 (fun a ha => (h.1 a (by omega)).1)⟩
/-- a change of the class's scratch rows alone -/
theorem cq_w {M1 : px_Mem} (C : ic y M) (h : ∀ a, (a < 24 ∨ (28 ≤ a ∧ a < 39) ∨ a = 42 ∨ 56 ≤ a) → M1.1 a = M.1 a) (h2 : ∀ a, (a < 24 ∨ 56 ≤ a) → M1.2 a = M.2 a) : cq y M M1 := by
  refine ⟨fun a ha => ⟨h a (by omega), h2 a (by omega)⟩, ?_, ?_⟩
  · obtain ⟨t, ht, h3, h4, h5⟩ := C.2.2.1
    refine ⟨t, ht, by rw [h 28 (by omega)]; exact h3, ws_C_fr h4 (fun a ha hb _ => h a (by omega)), by rw [h 37 (by omega)]; exact h5⟩
  · exact iv_shp_fr C.2.2.2.1 (by rw [h 38 (by omega)]) (h 42 (by omega)) (fun t _ => h2 _ (by omega)) (ic_n C)
theorem fl_at_w {t : Nat} {M1 : px_Mem} (hF : fl_at y t M) (h : ∀ a, (28 ≤ a ∧ a < 38) → M1.1 a = M.1 a) : fl_at y t M1 := by
  obtain ⟨h3, h4, h5⟩ := hF
  exact ⟨by rw [h 28 (by omega)]; exact h3, ws_C_fr h4 (fun a ha hb _ => h a (by omega)), by rw [h 37 (by omega)]; exact h5⟩
theorem cq_fl {t : Nat} {M1 : px_Mem} (C : ic y M) (k1 : fl_fr M M1) (ht : t ≤ iv_n y) (k2 : fl_at y t M1) : cq y M M1 :=
  ⟨fun a ha => k1.1 a (by omega), ⟨t, ht, k2⟩, iv_shp_fr C.2.2.2.1 (by rw [(k1.1 38 (by omega)).1]) (k1.1 42 (by omega)).1 (fun t _ => (k1.1 (92 + t) (by omega)).2) (ic_n C)⟩
/-! the class -/
theorem sc_11 (C : ic y M) {t : Nat} (ht : t ≤ iv_n y) (h : ∀ M', cq y M M' → fl_at y t M' → Q (some (.ref 29)) M') : px_T 0 11 0 [some (.ref 28), some (.int (nI t))] [] M Q := by
  obtain ⟨t0, h0, hF⟩ := C.2.2.1
  exact sp_11 C.1 C.2.1 hF h0 ht (fun M' k1 k2 _ => h M' (cq_fl C k1 ht k2) k2)
theorem sc_151 (C : ic y M) (h1 : iv_ln y ≠ 0 → Q (some (.int 0)) M) (h2 : iv_ln y = 0 → Q (some (.int 1)) M) : px_T 0 151 0 [some (.ref 0)] [] M Q := by
  have f := C.2.1.1
  have hl : iv_ln y ≤ 41 := by have := C.1; unfold iv_yok at this; omega
  refine sg_151_0 (fun c => ?_) (fun c => ?_)
  · simp (disch := omega) only [in_lt, in_le, in_eq, in_add, in_mul, in_sb, in_cl, in_bz, in_bo, in_mo, not_true_eq_false, not_false_eq_true, il_0, il_1, il_2, il_3, il_4, il_5, il_6, il_7, il_8, il_9, il_10, il_11, il_12, il_13, il_14, il_15, il_16, il_31, f] at c
    exact h2 c
  · simp (disch := omega) only [in_lt, in_le, in_eq, in_add, in_mul, in_sb, in_cl, in_bz, in_bo, in_mo, not_true_eq_false, not_false_eq_true, il_0, il_1, il_2, il_3, il_4, il_5, il_6, il_7, il_8, il_9, il_10, il_11, il_12, il_13, il_14, il_15, il_16, il_31, f] at c
    exact h1 c
theorem sc_152 (C : ic y M) {x : Int32} (h1 : ∀ t, x = nI t → t ≤ iv_n y → tk y x = true → Q (some (.int 0)) M) (h2 : tk y x = false → Q (some (.int 1)) M) : px_T 0 152 0 [some (.ref 0), some (.int x)] [] M Q := by
  have hn := ic_n C
  refine sg_152_0 (sc_151 C (fun g => ?_) (fun g => ?_))
  · refine sg_152_4 (fun _ c => ?_) (fun _ c => ?_) (fun c => absurd rfl c)
    · refine h2 ?_
      unfold tk
      rw [show rg x 0 (iv_n y) = false by rw [fa_lt, Int32.toInt_zero] at c; exact decide_eq_false (by omega), Bool.and_false]
    · obtain ⟨t, ht, rfl⟩ := nI_of c
      refine sp_53 (Or.inl rfl) C.2.1 ?_
      refine sg_152_19 (fun d => ?_) (fun d => ?_)
      · rw [in_le ht (by omega)] at d
        refine h1 t rfl d ?_
        unfold tk
        rw [rg_n ht, decide_eq_true g, decide_eq_true (by omega)]
        rfl
      · rw [in_le ht (by omega)] at d
        refine h2 ?_
        unfold tk
        rw [rg_n ht, show decide ((0 : Int) ≤ (t : Int) ∧ (t : Int) ≤ (iv_n y : Int)) = false from decide_eq_false (by omega), Bool.and_false]
  · refine sg_152_4 (fun c => absurd c (by decide)) (fun c => absurd c (by decide)) (fun _ => h2 ?_)
    unfold tk
    rw [g]
    rfl
theorem sc_153 {x : Int32} (h1 : ∀ p, x = nI p → 1 ≤ p → p ≤ 15 → rg x 1 15 = true → Q (some (.int 0)) M) (h2 : rg x 1 15 = false → Q (some (.int 1)) M) : px_T 0 153 0 [some (.int x)] [] M Q := by
  have e1 : (1 : Int32).toInt = 1 := rfl
  have e15 : (15 : Int32).toInt = 15 := rfl
  refine sg_153_0 (fun c => ?_) (fun c d => ?_) (fun c d => ?_)
  · rw [fa_lt, e1] at c
    exact h2 (decide_eq_false (by omega))
  · rw [fa_lt, e1] at c
    rw [fa_le, e15] at d
    have g : rg x 1 15 = true := decide_eq_true (by omega)
    obtain ⟨p, hp, h3, h4⟩ := rg_of g (by omega) (by omega)
    exact h1 p hp (by omega) (by omega) g
  · rw [fa_le, e15] at d
    exact h2 (decide_eq_false (by omega))
theorem sc_155 {x : Int32} (h1 : ∀ p, x = nI p → p < 200 → rg x 0 199 = true → Q (some (.int 0)) M) (h2 : rg x 0 199 = false → Q (some (.int 1)) M) : px_T 0 155 0 [some (.int x)] [] M Q := by
  have e1 : (0 : Int32).toInt = 0 := rfl
  have e15 : (200 : Int32).toInt = 200 := rfl
  refine sg_155_0 (fun c => ?_) (fun c d => ?_) (fun c d => ?_)
  · rw [fa_lt, e1] at c
    exact h2 (decide_eq_false (by omega))
  · rw [fa_lt, e1] at c
    rw [fa_lt, e15] at d
    have g : rg x 0 199 = true := decide_eq_true (by omega)
    obtain ⟨p, hp, h3, h4⟩ := rg_of g (by omega) (by omega)
    exact h1 p hp (by omega) g
  · rw [fa_lt, e15] at d
    exact h2 (decide_eq_false (by omega))
theorem sc_156 {x : Int32} (h1 : ∀ p, x = nI p → p < 4 → rg x 0 3 = true → Q (some (.int 0)) M) (h2 : rg x 0 3 = false → Q (some (.int 1)) M) : px_T 0 156 0 [some (.int x)] [] M Q := by
  have e1 : (0 : Int32).toInt = 0 := rfl
  have e15 : (4 : Int32).toInt = 4 := rfl
  refine sg_156_0 (fun c => ?_) (fun c d => ?_) (fun c d => ?_)
  · rw [fa_lt, e1] at c
    exact h2 (decide_eq_false (by omega))
  · rw [fa_lt, e1] at c
    rw [fa_lt, e15] at d
    have g : rg x 0 3 = true := decide_eq_true (by omega)
    obtain ⟨p, hp, h3, h4⟩ := rg_of g (by omega) (by omega)
    exact h1 p hp (by omega) g
  · rw [fa_lt, e15] at d
    exact h2 (decide_eq_false (by omega))
theorem sc_157 {x : Int32} (h1 : ∀ p, x = nI p → p ≤ 2000000000 → rg x 0 2000000000 = true → Q (some (.int 0)) M) (h2 : rg x 0 2000000000 = false → Q (some (.int 1)) M) : px_T 0 157 0 [some (.int x)] [] M Q := by
  have e1 : (0 : Int32).toInt = 0 := rfl
  have e15 : (2000000000 : Int32).toInt = 2000000000 := rfl
  refine sg_157_0 (fun c => ?_) (fun c d => ?_) (fun c d => ?_)
  · rw [fa_lt, e1] at c
    exact h2 (decide_eq_false (by omega))
  · rw [fa_lt, e1] at c
    rw [fa_le, e15] at d
    have g : rg x 0 2000000000 = true := decide_eq_true (by omega)
    obtain ⟨p, hp, h3, h4⟩ := rg_of g (by omega) (by omega)
    exact h1 p hp (by omega) g
  · rw [fa_le, e15] at d
    exact h2 (decide_eq_false (by omega))
theorem sc_154 {x z : Int32} (h1 : ∀ p k, x = nI p → z = nI k → 1 ≤ p → p ≤ 15 → k < 8 → rg x 1 15 = true → rg z 0 7 = true → Q (some (.int 0)) M) (h2 : (rg x 1 15 && rg z 0 7) = false → Q (some (.int 1)) M) : px_T 0 154 0 [some (.int x), some (.int z)] [] M Q := by
  have e1 : (0 : Int32).toInt = 0 := rfl
  have e15 : (8 : Int32).toInt = 8 := rfl
  refine sg_154_0 (sc_153 (fun p hp p1 p2 g => ?_) (fun g => ?_))
  · refine sg_154_4 (fun _ c => ?_) (fun _ c d => ?_) (fun _ c d => ?_) (fun c => absurd rfl c)
    · rw [fa_lt, e1] at c
      exact h2 (by rw [show rg z 0 7 = false from decide_eq_false (by omega), Bool.and_false])
    · rw [fa_lt, e1] at c
      rw [fa_lt, e15] at d
      have g2 : rg z 0 7 = true := decide_eq_true (by omega)
      obtain ⟨k, hk, h3, h4⟩ := rg_of g2 (by omega) (by omega)
      exact h1 p k hp hk p1 p2 (by omega) g g2
    · rw [fa_lt, e15] at d
      exact h2 (by rw [show rg z 0 7 = false from decide_eq_false (by omega), Bool.and_false])
  · exact sg_154_4 (fun c => absurd c (by decide)) (fun c => absurd c (by decide)) (fun c => absurd c (by decide)) (fun _ => h2 (by rw [g]; rfl))
/-! the reference -/
theorem sr_175 {x a b : Int64} (h : Q (some (.int (in_b (decide (a ≤ x ∧ x ≤ b))))) M) : px_T 0 175 0 [some (.long x), none, some (.long a), none, some (.long b), none] [] M Q := by
  refine sg_175_0 (fun c => ?_) (fun c d => ?_) (fun c d => ?_)
  · rw [lg_cmp_lt, fa_lt64] at c
    rw [decide_eq_false (fun q => by have := (fa_le64 _ _).mp q.1; omega)] at h
    exact h
  · rw [lg_cmp_gt, fa_lt64] at d
    rw [decide_eq_false (fun q => by have := (fa_le64 _ _).mp q.2; omega)] at h
    exact h
  · rw [lg_cmp_lt, fa_lt64] at c
    rw [lg_cmp_gt, fa_lt64] at d
    rw [decide_eq_true ⟨(fa_le64 _ _).mpr (by omega), (fa_le64 _ _).mpr (by omega)⟩] at h
    exact h
/-- the range of an int, asked in longs -/
theorem sr_175i {x : Int32} {a b : Nat} (ha : a < 2 ^ 31) (hb : b < 2 ^ 31) (h : Q (some (.int (in_b (rg x a b)))) M) : px_T 0 175 0 [some (.long x.toInt64), none, some (.long (lN a)), none, some (.long (lN b)), none] [] M Q := by
  refine sr_175 ?_
  have e : decide (lN a ≤ x.toInt64 ∧ x.toInt64 ≤ lN b) = rg x a b := by
    unfold rg
    refine decide_eq_decide.mpr ?_
    rw [fa_le64, fa_le64, lN_toInt ha, lN_toInt hb, Int32.toInt_toInt64]
  rw [e]
  exact h
theorem sr_176l {a : Nat} (ha : a < 2 ^ 31) : ∀ (n i c : Nat), i + n = 16 → Q (some (.int (nI (c + in_pc n (a / 2 ^ i))))) M → px_T 0 176 4 [some (.int (nI a)), some (.int (nI c)), some (.int (nI i))] [] M Q
  | 0, i, c, hi, h => by
    refine sg_176_4 (fun c1 => ?_) (fun c1 => by exfalso; (try simp (disch := omega) only [in_lt, in_le, in_eq, in_add, in_mul, in_sb, in_cl, in_bz, in_bo, in_mo, not_true_eq_false, not_false_eq_true, il_0, il_1, il_2, il_3, il_4, il_5, il_6, il_7, il_8, il_9, il_10, il_11, il_12, il_13, il_14, il_15, il_16, il_31] at c1) <;> omega)
    exact h
  | n + 1, i, c, hi, h => by
    refine sg_176_4 (fun c1 => by exfalso; (try simp (disch := omega) only [in_lt, in_le, in_eq, in_add, in_mul, in_sb, in_cl, in_bz, in_bo, in_mo, not_true_eq_false, not_false_eq_true, il_0, il_1, il_2, il_3, il_4, il_5, il_6, il_7, il_8, il_9, il_10, il_11, il_12, il_13, il_14, il_15, il_16, il_31] at c1) <;> omega) (fun c1 => ?_)
    rw [in_shr ha (by omega), in_and1, in_add, in_a1]
    refine sr_176l ha n (i + 1) _ (by omega) ?_
    rw [Nat.pow_succ, ← Nat.div_div_eq_div_mul, Nat.add_assoc]
    exact h
theorem sr_176 {a : Nat} (ha : a < 2 ^ 31) (h : Q (some (.int (nI (in_pc 16 a)))) M) : px_T 0 176 0 [some (.int (nI a)), none, none] [] M Q := by
  refine sg_176_0 (sr_176l ha 16 0 0 rfl ?_)
  rw [Nat.zero_add, Nat.pow_zero, Nat.div_one]
  exact h
theorem ir_ln (R : ir y M) : M.1 57 4 = nI (iv_ln y) := R.2.2.2.2.2.1
theorem ir_l41 (R : ir y M) : iv_ln y ≤ 41 := by have := R.1; unfold iv_yok at this; omega
theorem sr_180 (R : ir y M) (h : Q (some (.int (in_b (decide (iv_ln y ≠ 0))))) M) : px_T 0 180 0 [some (.ref 56)] [] M Q := by
  have f := ir_ln R
  have hl := ir_l41 R
  refine sg_180_0 (fun c => ?_) (fun c => ?_)
  · simp (disch := omega) only [in_lt, in_le, in_eq, in_add, in_mul, in_sb, in_cl, in_bz, in_bo, in_mo, not_true_eq_false, not_false_eq_true, il_0, il_1, il_2, il_3, il_4, il_5, il_6, il_7, il_8, il_9, il_10, il_11, il_12, il_13, il_14, il_15, il_16, il_31, f] at c
    rw [decide_eq_false (by omega)] at h
    exact h
  · simp (disch := omega) only [in_lt, in_le, in_eq, in_add, in_mul, in_sb, in_cl, in_bz, in_bo, in_mo, not_true_eq_false, not_false_eq_true, il_0, il_1, il_2, il_3, il_4, il_5, il_6, il_7, il_8, il_9, il_10, il_11, il_12, il_13, il_14, il_15, il_16, il_31, f] at c
    rw [decide_eq_true (by omega)] at h
    exact h
theorem sr_181 (R : ir y M) (h : Q (some (.int (nI (iv_n y)))) M) : px_T 0 181 0 [some (.ref 56)] [] M Q := by
  refine sg_181_0 ?_
  rw [R.2.2.2.1, R.2.2.2.2.1, in_add]
  exact h
theorem sr_183 (R : ir y M) {x : Int32} (h : Q (some (.int (in_b (tk y x)))) M) : px_T 0 183 0 [some (.ref 56), some (.long x.toInt64), none] [] M Q := by
  have hn := iv_yn R.1
  unfold tk at h
  refine sg_183_0 (sr_180 R ?_)
  refine sg_183_4 (fun c => ?_) (fun c => ?_)
  · rw [in_b0] at c
    rw [c] at h
    exact h
  · rw [in_b0, Bool.not_eq_false] at c
    refine sr_181 R ?_
    refine sg_183_13 ?_
    rw [nI_l (by omega)]
    refine sr_175i (a := 0) (b := iv_n y) (by omega) (by omega) ?_
    rw [c, Bool.true_and] at h
    refine sg_183_17 (fun d => ?_) (fun d => ?_)
    · rw [in_b0] at d
      have d2 : rg x 0 (iv_n y) = false := d
      rw [d2] at h
      exact h
    · rw [in_b0, Bool.not_eq_false] at d
      have d2 : rg x 0 (iv_n y) = true := d
      rw [d2] at h
      exact h
theorem sr_184 {x : Int32} (h : Q (some (.int (in_b (rg x 1 15)))) M) : px_T 0 184 0 [some (.long x.toInt64), none] [] M Q :=
  sg_184_0 (sr_175i (a := 1) (b := 15) (by omega) (by omega) (sg_184_8 (in_b01 _) h))
theorem sr_185 {x : Int32} (h : Q (some (.int (in_b (rg x 0 7)))) M) : px_T 0 185 0 [some (.int x)] [] M Q :=
  sg_185_0 (sr_175i (a := 0) (b := 7) (by omega) (by omega) (sg_185_9 (in_b01 _) h))
theorem sr_186 {x : Int32} (h : Q (some (.int (in_b (rg x 0 199)))) M) : px_T 0 186 0 [some (.int x)] [] M Q :=
  sg_186_0 (sr_175i (a := 0) (b := 199) (by omega) (by omega) (sg_186_9 (in_b01 _) h))
theorem sr_187 (R : ir y M) {e w : Nat} (he : e < iv_n y) (hw : w < 4) (h : Q (some (.int (M.1 57 (5 + 4 * e + w)))) M) : px_T 0 187 0 [some (.ref 56), some (.int (nI e)), some (.int (nI w))] [] M Q := by
  have hn := iv_yn R.1
  refine sg_187_0 (by (try simp (disch := omega) only [in_lt, in_le, in_eq, in_add, in_mul, in_sb, in_cl, in_bz, in_bo, in_mo, not_true_eq_false, not_false_eq_true, il_0, il_1, il_2, il_3, il_4, il_5, il_6, il_7, il_8, il_9, il_10, il_11, il_12, il_13, il_14, il_15, il_16, il_31] at ⊢) <;> exact me_vin (by omega) (by omega)) ?_
  rw [il_5, il_4, in_mul, in_add, in_add, in_cl (by omega)]
  exact h
/-- events are laid: the rest is as it was -/
def lq (M M' : px_Mem) : Prop := (∀ a, (a < 63 ∨ 68 ≤ a) → a ≠ 56 → M'.1 a = M.1 a) ∧ M'.2 = M.2 ∧ ∀ i, i ≠ 20 → i ≠ 21 → M'.1 56 i = M.1 56 i
theorem lq_rf : lq M M := ⟨fun _ _ _ => rfl, rfl, fun _ _ _ => rfl⟩
theorem lq_tr {M1 M2 : px_Mem} (h : lq M M1) (h2 : lq M1 M2) : lq M M2 := ⟨fun a h3 h4 => (h2.1 a h3 h4).trans (h.1 a h3 h4), h2.2.1.trans h.2.1, fun i a b => (h2.2.2 i a b).trans (h.2.2 i a b)⟩
theorem lq_I {M1 : px_Mem} {a i : Nat} {x : Int32} (h : lq M M1) (h1 : 63 ≤ a) (h2 : a < 68) : lq M (px_wI M1 a i x) := ⟨fun b h3 h4 => by rw [me_Io (by omega)]; exact h.1 b h3 h4, h.2.1, fun j a b => by rw [me_Io (by omega)]; exact h.2.2 j a b⟩
theorem lq_F {M1 : px_Mem} {i : Nat} {x : Int32} (h : lq M M1) (h1 : i = 20 ∨ i = 21) : lq M (px_wI M1 56 i x) := ⟨fun b h3 h4 => by rw [me_Io h4]; exact h.1 b h3 h4, h.2.1, fun j a b => by rw [me_Ii (by omega)]; exact h.2.2 j a b⟩
theorem rq_l {M1 : px_Mem} (h : lq M M1) : rq M M1 := ⟨fun a h1 h2 => h.1 a (by omega) h2, fun a _ => by rw [h.2.1], fun i hi => h.2.2 i (by omega) (by omega)⟩
theorem rf_L_cong {n law : Nat} {ev ev2 : Nat → ws_E} {lf lf2 : Nat → Bool} (h : rf_L n law ev lf M) (h2 : ∀ e, e < n → ev e = ev2 e ∧ lf e = lf2 e) : rf_L n law ev2 lf2 M := by
  refine ⟨h.1, h.2.1, fun e he => ?_⟩
  rw [← (h2 e he).1, ← (h2 e he).2]
  exact h.2.2 e he
theorem sr_208 {n law : Nat} {ev : Nat → ws_E} {lf : Nat → Bool} (hL : rf_L n law ev lf M) (hn : n < 72) {E : ws_E} (h : ∀ M', lq M M' → rf_L (n + 1) law (fun i => if i = n then E else ev i) (fun i => if i = n then false else lf i) M' → Q none M') : px_T 0 208 0 [some (.ref 56), some (.int (nI E.1)), some (.int (nI E.2.1)), some (.int (nI E.2.2.1)), some (.int (nI E.2.2.2))] [] M Q := by
  obtain ⟨f1, f2, f3⟩ := hL
  refine sg_208_0 (by rw [f1]; exact me_vin hn (by omega)) ?_
  rw [f1, in_cl (by omega)]
  generalize hM1 : px_wI (px_wI (px_wI (px_wI M 63 n (nI E.1)) 64 n (nI E.2.1)) 65 n (nI E.2.2.1)) 66 n (nI E.2.2.2) = M1
  have g1 : M1.1 56 20 = nI n := by subst hM1; simp (disch := omega) only [me_II, me_Ii, me_Io, me_I2, me_L1, me_Li, me_LL, me_Lo, me_As, me_Ao, me_A2, me_Bs, me_Bo, me_B1]; exact f1
  refine sg_208_41 (by rw [g1]; exact me_vin hn (by omega)) ?_
  rw [g1, in_cl (by omega), in_a1]
  subst hM1
  refine h _ (lq_F (lq_I (lq_I (lq_I (lq_I (lq_I lq_rf (by omega) (by omega)) (by omega) (by omega)) (by omega) (by omega)) (by omega) (by omega)) (by omega) (by omega)) (by omega)) ⟨?_, ?_, fun e he => ?_⟩
  · simp (disch := omega) only [me_II, me_Ii, me_Io, me_I2, me_L1, me_Li, me_LL, me_Lo, me_As, me_Ao, me_A2, me_Bs, me_Bo, me_B1]
  · simp (disch := omega) only [me_II, me_Ii, me_Io, me_I2, me_L1, me_Li, me_LL, me_Lo, me_As, me_Ao, me_A2, me_Bs, me_Bo, me_B1]; exact f2
  · by_cases hen : e = n
    · subst hen
      dsimp only
      rw [if_pos rfl, if_pos rfl]
      refine ⟨?_, ?_, ?_, ?_, ?_⟩
      · simp (disch := omega) only [me_II, me_Ii, me_Io, me_I2, me_L1, me_Li, me_LL, me_Lo, me_As, me_Ao, me_A2, me_Bs, me_Bo, me_B1]
      · simp (disch := omega) only [me_II, me_Ii, me_Io, me_I2, me_L1, me_Li, me_LL, me_Lo, me_As, me_Ao, me_A2, me_Bs, me_Bo, me_B1]
      · simp (disch := omega) only [me_II, me_Ii, me_Io, me_I2, me_L1, me_Li, me_LL, me_Lo, me_As, me_Ao, me_A2, me_Bs, me_Bo, me_B1]
      · simp (disch := omega) only [me_II, me_Ii, me_Io, me_I2, me_L1, me_Li, me_LL, me_Lo, me_As, me_Ao, me_A2, me_Bs, me_Bo, me_B1]
      · simp (disch := omega) only [me_II, me_Ii, me_Io, me_I2, me_L1, me_Li, me_LL, me_Lo, me_As, me_Ao, me_A2, me_Bs, me_Bo, me_B1]; rfl
    · dsimp only
      rw [if_neg hen, if_neg hen]
      obtain ⟨a1, a2, a3, a4, a5⟩ := f3 e (by omega)
      refine ⟨?_, ?_, ?_, ?_, ?_⟩
      · simp (disch := omega) only [me_II, me_Ii, me_Io, me_I2, me_L1, me_Li, me_LL, me_Lo, me_As, me_Ao, me_A2, me_Bs, me_Bo, me_B1]; exact a1
      · simp (disch := omega) only [me_II, me_Ii, me_Io, me_I2, me_L1, me_Li, me_LL, me_Lo, me_As, me_Ao, me_A2, me_Bs, me_Bo, me_B1]; exact a2
      · simp (disch := omega) only [me_II, me_Ii, me_Io, me_I2, me_L1, me_Li, me_LL, me_Lo, me_As, me_Ao, me_A2, me_Bs, me_Bo, me_B1]; exact a3
      · simp (disch := omega) only [me_II, me_Ii, me_Io, me_I2, me_L1, me_Li, me_LL, me_Lo, me_As, me_Ao, me_A2, me_Bs, me_Bo, me_B1]; exact a4
      · simp (disch := omega) only [me_II, me_Ii, me_Io, me_I2, me_L1, me_Li, me_LL, me_Lo, me_As, me_Ao, me_A2, me_Bs, me_Bo, me_B1]; exact a5
theorem sr_209l (hy : iv_yok y) (h : ∀ M', lq M M' → rf_L (iv_n y) (iv_lw y) (iv_ev y) (fun _ => false) M' → Q none M') : ∀ (n e : Nat) (N : px_Mem), e + n = iv_n y → lq M N → ir y N → rf_L e (iv_lw y) (iv_ev y) (fun _ => false) N → px_T 0 209 17 [some (.ref 56), some (.int (nI e))] [] N Q
  | 0, e, N, he, hq, R, hL => by
    have hn := iv_yn hy
    have e1 : e = iv_n y := by omega
    subst e1
    refine sg_209_17 (sr_181 R ?_)
    refine sg_209_22 (fun c1 => ?_) (fun c1 => by exfalso; (try simp (disch := omega) only [in_lt, in_le, in_eq, in_add, in_mul, in_sb, in_cl, in_bz, in_bo, in_mo, not_true_eq_false, not_false_eq_true, il_0, il_1, il_2, il_3, il_4, il_5, il_6, il_7, il_8, il_9, il_10, il_11, il_12, il_13, il_14, il_15, il_16, il_31] at c1) <;> omega)
    exact h N hq hL
  | n + 1, e, N, he, hq, R, hL => by
    have hn := iv_yn hy
    refine sg_209_17 (sr_181 R ?_)
    obtain ⟨a1, a2, a3, a4⟩ := R.2.2.2.2.2.2 e (by omega)
    refine sg_209_22 (fun c1 => by exfalso; (try simp (disch := omega) only [in_lt, in_le, in_eq, in_add, in_mul, in_sb, in_cl, in_bz, in_bo, in_mo, not_true_eq_false, not_false_eq_true, il_0, il_1, il_2, il_3, il_4, il_5, il_6, il_7, il_8, il_9, il_10, il_11, il_12, il_13, il_14, il_15, il_16, il_31] at c1) <;> omega) (fun c1 => ?_)
    refine sr_187 R (w := 0) (by omega) (by omega) (sg_209_32 (sr_187 R (w := 1) (by omega) (by omega) (sg_209_38 (sr_187 R (w := 2) (by omega) (by omega) (sg_209_44 (sr_187 R (w := 3) (by omega) (by omega) (sg_209_50 ?_)))))))
    rw [Nat.zero_add] at a1 a2 a3 a4
    rw [Nat.add_zero, a1, a2, a3, a4]
    refine sr_208 hL (by omega) (fun N2 k1 k2 => ?_)
    refine sg_209_53 ?_
    rw [in_a1]
    refine sr_209l hy h n (e + 1) N2 (by omega) (lq_tr hq k1) (ir_rq R (rq_l k1)) (rf_L_cong k2 (fun i hi => ⟨?_, ?_⟩))
    · by_cases hie : i = e
      · rw [if_pos hie, hie]
      · rw [if_neg hie]
    · by_cases hie : i = e
      · rw [if_pos hie]
      · rw [if_neg hie]
theorem sr_209 (R : ir y M) (h : ∀ M', lq M M' → rf_L (iv_n y) (iv_lw y) (iv_ev y) (fun _ => false) M' → Q none M') : px_T 0 209 0 [some (.ref 56), none] [] M Q := by
  refine sg_209_0 ?_
  have q : lq M (px_wI (px_wI M 56 21 (M.1 57 0)) 56 20 0) := lq_F (lq_F lq_rf (by omega)) (by omega)
  refine sr_209l R.1 h (iv_n y) 0 _ (by omega) q (ir_rq R (rq_l q)) ⟨?_, ?_, fun e he => absurd he (Nat.not_lt_zero e)⟩
  · simp (disch := omega) only [me_II, me_Ii, me_Io, me_I2, me_L1, me_Li, me_LL, me_Lo, me_As, me_Ao, me_A2, me_Bs, me_Bo, me_B1]; rfl
  · simp (disch := omega) only [me_II, me_Ii, me_Io, me_I2, me_L1, me_Li, me_LL, me_Lo, me_As, me_Ao, me_A2, me_Bs, me_Bo, me_B1]
    exact R.2.1
/-- the run as told and acted, as the reference has it -/
abbrev ra (y : iv_Y) (M : px_Mem) : Prop := rf_A (iv_n y) (iv_lw y) (iv_ev y) (fun _ => false) M
abbrev rl (y : iv_Y) (M : px_Mem) : Prop := rf_L (iv_n y) (iv_lw y) (iv_ev y) (fun _ => false) M
theorem sr_224 (R : ir y M) (h : ∀ M', rq M M' → rl y M' → ra y M' → Q (some (.int (in_b (decide (iv_ln y ≠ 0))))) M') : px_T 0 224 0 [some (.ref 56)] [] M Q := by
  have hn := iv_yn R.1
  refine sg_224_0 (sr_209 R (fun M1 k1 L1 => sg_224_4 (sr_223 L1 (by omega) R.1.1 (fun e he => R.1.2.2.2.2.2 e he) (fun M2 k2 A2 => ?_))))
  have q : rq M M2 := rq_tr (rq_l k1) (rq_g k2)
  exact sg_224_8 (sr_180 (ir_rq R q) (sg_224_12 (in_b01 _) (h M2 q (rf_L_gq L1 k2) A2)))
theorem sr_225 (R : ir y M) {x : Int32} (h1 : ∀ M' t, rq M M' → rl y M' → ra y M' → x = nI t → t ≤ iv_n y → tk y x = true → Q (some (.int 1)) M') (h2 : ∀ M', rq M M' → tk y x = false → Q (some (.int 0)) M') : px_T 0 225 0 [some (.ref 56), some (.int x)] [] M Q := by
  have hn := iv_yn R.1
  refine sg_225_0 (sr_224 R (fun M1 k1 L1 A1 => sg_225_4 (sr_183 (ir_rq R k1) (sg_225_11 (in_b01 _) ?_))))
  cases g : tk y x with
  | true =>
    obtain ⟨t, ht, h3, _⟩ := tk_of hn g
    exact h1 M1 t k1 L1 A1 ht h3 g
  | false => exact h2 M1 k1 g
theorem sr_226 (R : ir y M) {x z : Int32} (h1 : ∀ M' t p, rq M M' → rl y M' → ra y M' → z = nI t → x = nI p → t ≤ iv_n y → 1 ≤ p → p ≤ 15 → (tk y z && rg x 1 15) = true → Q (some (.int 1)) M') (h2 : ∀ M', rq M M' → (tk y z && rg x 1 15) = false → Q (some (.int 0)) M') : px_T 0 226 0 [some (.ref 56), some (.int x), some (.int z)] [] M Q := by
  refine sg_226_0 (sr_225 R (fun M1 t k1 L1 A1 ht h3 g => ?_) (fun M1 k1 g => ?_))
  · refine sg_226_5 (fun c => absurd c (by decide)) (fun _ => sr_184 ?_)
    cases g2 : rg x 1 15 with
    | true =>
      obtain ⟨p, hp, h4, h5⟩ := rg_of g2 (by omega) (by omega)
      exact sg_226_13 (fun c => absurd c (by decide)) (fun _ => h1 M1 t p k1 L1 A1 ht hp h3 (by omega) (by omega) (by rw [g, g2]; rfl))
    | false => exact sg_226_13 (fun _ => h2 M1 k1 (by rw [g2, Bool.and_false])) (fun c => absurd rfl c)
  · exact sg_226_5 (fun _ => h2 M1 k1 (by rw [g]; rfl)) (fun c => absurd rfl c)
/-! ticks as the reference kept them -/
variable {s : ws_S}
theorem sr_227 {p t : Nat} (hA : rt_at s t M) (ha : ws_al s < 2 ^ 16) (ht : t ≤ 72) (hp : p < 32) (h : Q (some (.int (in_b ((ws_al s).testBit p)))) M) : px_T 0 227 0 [some (.ref 56), some (.int (nI p)), some (.int (nI t))] [] M Q := by
  refine sg_227_0 (by (try simp (disch := omega) only [in_lt, in_le, in_eq, in_add, in_mul, in_sb, in_cl, in_bz, in_bo, in_mo, not_true_eq_false, not_false_eq_true, il_0, il_1, il_2, il_3, il_4, il_5, il_6, il_7, il_8, il_9, il_10, il_11, il_12, il_13, il_14, il_15, il_16, il_31] at ⊢) <;> exact me_vin (by omega) (by omega)) ?_
  rw [in_cl (by omega), hA.1.1]
  refine sr_177 (by omega) hp ?_
  refine sg_227_10 (fun c => ?_) (fun c => ?_)
  · simp (disch := omega) only [in_lt, in_le, in_eq, in_add, in_mul, in_sb, in_cl, in_bz, in_bo, in_mo, not_true_eq_false, not_false_eq_true, il_0, il_1, il_2, il_3, il_4, il_5, il_6, il_7, il_8, il_9, il_10, il_11, il_12, il_13, il_14, il_15, il_16, il_31] at c
    rw [c] at h
    exact h
  · simp (disch := omega) only [in_lt, in_le, in_eq, in_add, in_mul, in_sb, in_cl, in_bz, in_bo, in_mo, not_true_eq_false, not_false_eq_true, il_0, il_1, il_2, il_3, il_4, il_5, il_6, il_7, il_8, il_9, il_10, il_11, il_12, il_13, il_14, il_15, il_16, il_31] at c
    rw [Bool.not_eq_true] at c
    rw [c] at h
    exact h
/-- asked of nobody: not alive -/
theorem sr_227m {t : Nat} (hA : rt_at s t M) (ha : ws_al s < 2 ^ 16) (ht : t ≤ 72) (h : Q (some (.int 0)) M) : px_T 0 227 0 [some (.ref 56), some (.int (-1)), some (.int (nI t))] [] M Q := by
  refine sg_227_0 (by (try simp (disch := omega) only [in_lt, in_le, in_eq, in_add, in_mul, in_sb, in_cl, in_bz, in_bo, in_mo, not_true_eq_false, not_false_eq_true, il_0, il_1, il_2, il_3, il_4, il_5, il_6, il_7, il_8, il_9, il_10, il_11, il_12, il_13, il_14, il_15, il_16, il_31] at ⊢) <;> exact me_vin (by omega) (by omega)) ?_
  rw [in_cl (by omega), hA.1.1]
  refine sg_177_0 ?_
  have e : ((nI (ws_al s)) >>> ((-1 : Int32) &&& 31)) &&& 1 = 0 := by
    rw [show ((-1 : Int32) &&& 31) = (nI 31 &&& 31) from rfl, in_bit0 (by omega) (by omega)]
    exact Nat.testBit_lt_two_pow (by omega)
  rw [e]
  exact sg_227_10 (fun c => absurd c (by decide)) (fun _ => h)
def vl_pa (s : ws_S) (p : Nat) : Int32 := if (ws_al s).testBit p = true then nI (ws_pa s p) else -1
def vl_se (s : ws_S) (p : Nat) : Int32 := if (ws_al s).testBit p = true then nI (ws_se s p) else -1
theorem sr_228 {p t : Nat} (hA : rt_at s t M) (ha : ws_al s < 2 ^ 16) (ht : t ≤ 72) (hp : p < 16) (h : Q (some (.int (vl_pa s p))) M) : px_T 0 228 0 [some (.ref 56), some (.int (nI p)), some (.int (nI t))] [] M Q := by
  refine sg_228_0 (sr_227 hA ha ht (by omega) ?_)
  unfold vl_pa at h
  refine sg_228_6 (fun c1 => ?_) (fun c1 => by (try simp (disch := omega) only [in_lt, in_le, in_eq, in_add, in_mul, in_sb, in_cl, in_bz, in_bo, in_mo, not_true_eq_false, not_false_eq_true, il_0, il_1, il_2, il_3, il_4, il_5, il_6, il_7, il_8, il_9, il_10, il_11, il_12, il_13, il_14, il_15, il_16, il_31] at c1 ⊢) <;> exact me_vin (by omega) (by omega)) (fun c1 => ?_)
  · rw [in_b0] at c1
    rw [c1] at h
    exact h
  · rw [in_b0, Bool.not_eq_false] at c1
    rw [if_pos c1] at h
    rw [il_16, in_mul, in_add, in_cl (by omega), hA.2.1 p hp]
    exact h
theorem sr_228m {t : Nat} (hA : rt_at s t M) (ha : ws_al s < 2 ^ 16) (ht : t ≤ 72) (h : Q (some (.int (-1))) M) : px_T 0 228 0 [some (.ref 56), some (.int (-1)), some (.int (nI t))] [] M Q := by
  refine sg_228_0 (sr_227m hA ha ht ?_)
  exact sg_228_6 (fun _ => h) (fun c => absurd rfl c) (fun c => absurd rfl c)
theorem sr_229 {p t : Nat} (hA : rt_at s t M) (ha : ws_al s < 2 ^ 16) (ht : t ≤ 72) (hp : p < 16) (h : Q (some (.int (vl_se s p))) M) : px_T 0 229 0 [some (.ref 56), some (.int (nI p)), some (.int (nI t))] [] M Q := by
  refine sg_229_0 (sr_227 hA ha ht (by omega) ?_)
  unfold vl_se at h
  refine sg_229_6 (fun c1 => ?_) (fun c1 => by (try simp (disch := omega) only [in_lt, in_le, in_eq, in_add, in_mul, in_sb, in_cl, in_bz, in_bo, in_mo, not_true_eq_false, not_false_eq_true, il_0, il_1, il_2, il_3, il_4, il_5, il_6, il_7, il_8, il_9, il_10, il_11, il_12, il_13, il_14, il_15, il_16, il_31] at c1 ⊢) <;> exact me_vin (by omega) (by omega)) (fun c1 => ?_)
  · rw [in_b0] at c1
    rw [c1] at h
    exact h
  · rw [in_b0, Bool.not_eq_false] at c1
    rw [if_pos c1] at h
    rw [il_16, in_mul, in_add, in_cl (by omega), hA.2.2.1 p hp]
    exact h
theorem sr_229m {t : Nat} (hA : rt_at s t M) (ha : ws_al s < 2 ^ 16) (ht : t ≤ 72) (h : Q (some (.int (-1))) M) : px_T 0 229 0 [some (.ref 56), some (.int (-1)), some (.int (nI t))] [] M Q := by
  refine sg_229_0 (sr_227m hA ha ht ?_)
  exact sg_229_6 (fun _ => h) (fun c => absurd rfl c) (fun c => absurd rfl c)
theorem sr_230 {t : Nat} (hA : rt_at s t M) (ha : ws_al s < 2 ^ 16) (ht : t ≤ 72) (h : Q (some (.int (nI (in_pc 16 (ws_al s))))) M) : px_T 0 230 0 [some (.ref 56), some (.int (nI t))] [] M Q := by
  refine sg_230_0 (by (try simp (disch := omega) only [in_lt, in_le, in_eq, in_add, in_mul, in_sb, in_cl, in_bz, in_bo, in_mo, not_true_eq_false, not_false_eq_true, il_0, il_1, il_2, il_3, il_4, il_5, il_6, il_7, il_8, il_9, il_10, il_11, il_12, il_13, il_14, il_15, il_16, il_31] at ⊢) <;> exact me_vin (by omega) (by omega)) ?_
  rw [in_cl (by omega), hA.1.1]
  exact sr_176 (by omega) (sg_230_9 h)
theorem sr_246 {p k t : Nat} (hA : rt_at s t M) (ht : t ≤ 72) (hp : p < 16) (hk : k < 8) (h : Q (some (.int (nI (ws_ob s (8 * p + k)) - 1))) M) : px_T 0 246 0 [some (.ref 56), some (.int (nI p)), some (.int (nI k)), some (.int (nI t))] [] M Q := by
  have e : (128 * nI t + 8 * nI p) + nI k = nI (128 * t + (8 * p + k)) := by
    rw [il_128, il_8, in_mul, in_mul, in_add, in_add, Nat.add_assoc]
  refine sg_246_0 ?_ ?_
  · rw [e]
    exact me_vin (by omega) (by omega)
  · rw [e, in_cl (by omega), hA.2.2.2.1 _ (by omega)]
    exact h
end K43
