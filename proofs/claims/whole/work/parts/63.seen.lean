/-! seen: the class -/
abbrev sn_G : Type := Nat → Nat × Nat × Int32
def alB (p : Nat → Bool) : Nat → Bool
  | 0 => true
  | n + 1 => alB p n && p n
theorem alB_s (p : Nat → Bool) (n : Nat) : alB p (n + 1) = (alB p n && p n) := rfl
theorem alB_t {p : Nat → Bool} : ∀ {n : Nat}, alB p n = true ↔ ∀ i, i < n → p i = true
  | 0 => ⟨fun _ i hi => absurd hi (Nat.not_lt_zero i), fun _ => rfl⟩
  | n + 1 => by
    rw [alB_s, Bool.and_eq_true, alB_t (n := n)]
    constructor
    · intro h i hi
      rcases Nat.lt_or_ge i n with q | q
      · exact h.1 i q
      · rw [show i = n by omega]
        exact h.2
    · intro h
      exact ⟨fun i hi => h i (by omega), h n (by omega)⟩
theorem alB_f {p : Nat → Bool} {n i : Nat} (hi : i < n) (h : p i = false) : alB p n = false := by
  cases e : alB p n with
  | false => rfl
  | true => rw [alB_t.mp e i hi] at h; exact absurd h (by decide)
/-- one triple: a tick, a process, a parent -/
def sn_d (y : iv_Y) (f : Nat → Int64) (i : Nat) : Bool := decide (0 ≤ (f (3 * i)).toInt ∧ (f (3 * i)).toInt ≤ iv_n y) && (decide (1 ≤ (f (3 * i + 1)).toInt ∧ (f (3 * i + 1)).toInt ≤ 15) && decide (-1 ≤ (f (3 * i + 2)).toInt ∧ (f (3 * i + 2)).toInt ≤ 15))
def sn_t (f : Nat → Int64) : sn_G := fun i => ((f (3 * i)).toInt.toNat, (f (3 * i + 1)).toInt.toNat, (f (3 * i + 2)).toInt32)
def sn_ok (y : iv_Y) (n : Nat) (f : Nat → Int64) : Bool := decide (n % 3 = 0) && alB (sn_d y f) (n / 3)
/-- whether a run is as seen -/
def sn_h (y : iv_Y) (law : Nat) (sk : Nat → Bool) (x : Nat × Nat × Int32) : Bool := decide (vl_pa (ws_run law (iv_ev y) sk x.1) x.2.1 = x.2.2)
def sn_v (y : iv_Y) (law : Nat) (sk : Nat → Bool) (n : Nat) (f : Nat → Int64) : Bool := alB (fun i => sn_h y law sk (sn_t f i)) (n / 3)
def sn_l (y : iv_Y) (b : Bool) (n : Nat) (f : Nat → Int64) (x : Int32) : Int32 := if (rg x 0 3 && decide (iv_ln y ≠ 0)) = true then (if b = true then (if sn_ok y n f = true then 0 else -2) else -6) else -2
def an_128 (y : iv_Y) (b : Bool) (n : Nat) (f : Nat → Int64) (x : Int32) : Int32 := if sn_l y b n f x = 0 then nI (fb_ct (fun e => sn_v y (iv_lw y) (tr_k (nI e)) n f) (iv_td y)) else sn_l y b n f x
def an_129 (y : iv_Y) (b : Bool) (n : Nat) (f : Nat → Int64) (x : Int32) : Int32 := if sn_l y b n f x = 0 then vl_ft (fun e => sn_v y (iv_lw y) (tr_k (nI e)) n f) (iv_td y) 0 else sn_l y b n f x
def an_130 (y : iv_Y) (b : Bool) (n : Nat) (f : Nat → Int64) (x : Int32) : Int32 := if sn_l y b n f x = 0 then in_b (sn_v y (iv_lw y) (tr_k (-1)) n f) else sn_l y b n f x
def an_131 (y : iv_Y) (b : Bool) (n : Nat) (f : Nat → Int64) (x : Int32) : Int32 := if sn_l y b n f x = 0 then nI (bs (fun l => sn_v y l (tr_k (-1)) n f) 4) else sn_l y b n f x
/-- a row, as the class keeps it -/
def rwc (k : Nat) (b : Bool) (n : Nat) (f : Nat → Int64) (M : px_Mem) : Prop := n ≤ 60 ∧ ((b = false ∧ M.1 (16 + 2 * k) 1 = 0) ∨ (b = true ∧ M.1 (16 + 2 * k) 1 = 1 ∧ M.1 (16 + 2 * k) 3 = nI n ∧ ∀ i, i < 60 → M.2 (17 + 2 * k) i = f i))
def rwr (k : Nat) (b : Bool) (n : Nat) (f : Nat → Int64) (M : px_Mem) : Prop := n ≤ 60 ∧ ((b = false ∧ M.1 88 k = -1) ∨ (b = true ∧ M.1 88 k = nI n ∧ ∀ i, i < 60 → M.2 90 (60 * k + i) = f i))
def Sn (m : Nat) (g : sn_G) (M : px_Mem) : Prop := M.1 24 3 = nI m ∧ ∀ i, i < m → M.1 25 i = nI (g i).1 ∧ M.1 26 i = nI (g i).2.1 ∧ M.1 27 i = (g i).2.2
def Sr (m : Nat) (g : sn_G) : Prop := ∀ i j, i ≤ j → j < m → (g i).1 ≤ (g j).1
def sn_B (y : iv_Y) (m : Nat) (g : sn_G) : Prop := ∀ i, i < m → (g i).1 ≤ iv_n y ∧ 1 ≤ (g i).2.1 ∧ (g i).2.1 ≤ 15
def sn_fr (M M' : px_Mem) : Prop := (∀ a, (a < 24 ∨ 28 ≤ a) → M'.1 a = M.1 a) ∧ M'.2 = M.2
def sn_in (g : sn_G) (i : Nat) (x : Nat × Nat × Int32) : sn_G := fun j => if j < i then g j else if j = i then x else g (j - 1)
section S63
variable {M : px_Mem} {Q : px_Po} {y : iv_Y}
theorem sn_fr_rf : sn_fr M M := ⟨fun _ _ => rfl, rfl⟩
theorem sn_fr_tr {M1 M2 : px_Mem} (h : sn_fr M M1) (h2 : sn_fr M1 M2) : sn_fr M M2 := ⟨fun a ha => (h2.1 a ha).trans (h.1 a ha), h2.2.trans h.2⟩
theorem sn_fr_I {M1 : px_Mem} {a i : Nat} {x : Int32} (h : sn_fr M M1) (h1 : 24 ≤ a) (h2 : a < 28) : sn_fr M (px_wI M1 a i x) := ⟨fun b hb => by rw [me_Io (by omega)]; exact h.1 b hb, h.2⟩
theorem sn_fr_q {M1 : px_Mem} (C : ic y M) (h : sn_fr M M1) : cq y M M1 := cq_w C (fun a ha => h.1 a (by omega)) (fun a _ => by rw [h.2])
theorem Sn_fr {m : Nat} {g : sn_G} {M1 : px_Mem} (h : Sn m g M) (h1 : ∀ a, 24 ≤ a → a < 28 → M1.1 a = M.1 a) : Sn m g M1 := by
  unfold Sn
  rw [h1 24 (by omega) (by omega), h1 25 (by omega) (by omega), h1 26 (by omega) (by omega), h1 27 (by omega) (by omega)]
  exact h
theorem in_lt1 {i : Nat} (h : 1 ≤ i) : nI i + Int32.ofInt (-1) = nI (i - 1) := by
  rw [show Int32.ofInt (-1) = -1 from rfl, ← Int32.sub_eq_add_neg]
  exact in_s1 h
theorem sc_41 {m : Nat} {g : sn_G} {x : Nat × Nat × Int32} (hm : m < 20) (hS : Sn m g M) (hr : Sr m g) (hg : ∀ i, i < m → (g i).1 ≤ 70) (hx : x.1 ≤ 70) (h : ∀ M' g', sn_fr M M' → Sn (m + 1) g' M' → Sr (m + 1) g' → (∀ φ : Nat × Nat × Int32 → Prop, (∀ i, i < m + 1 → φ (g' i)) ↔ ((∀ i, i < m → φ (g i)) ∧ φ x)) → Q none M') : px_T 0 41 0 [some (.ref 24), some (.int (nI x.1)), some (.int (nI x.2.1)), some (.int x.2.2), none] [] M Q := by
  have hS1 := hS.1
  refine sg_41_0 (fun c1 => ?_) (fun c1 => by exfalso; (try simp (disch := omega) only [in_lt, in_le, in_eq, in_add, in_mul, in_sb, in_cl, in_bz, in_bo, in_mo, not_true_eq_false, not_false_eq_true, il_0, il_1, il_2, il_3, il_4, il_5, il_6, il_7, il_8, il_9, il_10, il_11, il_12, il_13, il_14, il_15, il_16, il_20, il_31, hS1] at c1) <;> omega)
  rw [hS1]
  have fin : ∀ (i : Nat) (N : px_Mem), i ≤ m → sn_fr M N → N.1 24 3 = nI m → (∀ j, j ≤ m → j ≠ i → N.1 25 j = nI (sn_in g i x j).1 ∧ N.1 26 j = nI (sn_in g i x j).2.1 ∧ N.1 27 j = (sn_in g i x j).2.2) → (∀ j, i ≤ j → j < m → x.1 ≤ (g j).1) → (∀ j, j < i → (g j).1 ≤ x.1) → Q none (px_wI (px_wI (px_wI (px_wI N 25 i (nI x.1)) 26 i (nI x.2.1)) 27 i x.2.2) 24 3 (nI (m + 1))) := by
    intro i N him hf h3 hj hgt hle
    have ei : sn_in g i x i = x := by unfold sn_in; rw [if_neg (Nat.lt_irrefl i), if_pos rfl]
    refine h _ (sn_in g i x) (sn_fr_I (sn_fr_I (sn_fr_I (sn_fr_I hf (by omega) (by omega)) (by omega) (by omega)) (by omega) (by omega)) (by omega) (by omega)) ⟨by simp (disch := omega) only [me_II, me_Ii, me_Io, me_I2, me_L1, me_Li, me_LL, me_Lo, me_As, me_Ao, me_A2, me_Bs, me_Bo, me_B1], fun j hj2 => ?_⟩ (fun a b hab hb => ?_) (fun φ => ?_)
    · by_cases hji : j = i
      · subst hji
        rw [ei]
        refine ⟨?_, ?_, ?_⟩
        · simp (disch := omega) only [me_II, me_Ii, me_Io, me_I2, me_L1, me_Li, me_LL, me_Lo, me_As, me_Ao, me_A2, me_Bs, me_Bo, me_B1]
        · simp (disch := omega) only [me_II, me_Ii, me_Io, me_I2, me_L1, me_Li, me_LL, me_Lo, me_As, me_Ao, me_A2, me_Bs, me_Bo, me_B1]
        · simp (disch := omega) only [me_II, me_Ii, me_Io, me_I2, me_L1, me_Li, me_LL, me_Lo, me_As, me_Ao, me_A2, me_Bs, me_Bo, me_B1]
      · obtain ⟨a1, a2, a3⟩ := hj j (by omega) hji
        refine ⟨?_, ?_, ?_⟩
        · simp (disch := omega) only [me_II, me_Ii, me_Io, me_I2, me_L1, me_Li, me_LL, me_Lo, me_As, me_Ao, me_A2, me_Bs, me_Bo, me_B1]; exact a1
        · simp (disch := omega) only [me_II, me_Ii, me_Io, me_I2, me_L1, me_Li, me_LL, me_Lo, me_As, me_Ao, me_A2, me_Bs, me_Bo, me_B1]; exact a2
        · simp (disch := omega) only [me_II, me_Ii, me_Io, me_I2, me_L1, me_Li, me_LL, me_Lo, me_As, me_Ao, me_A2, me_Bs, me_Bo, me_B1]; exact a3
    · unfold sn_in
      by_cases ha : a < i
      · rw [if_pos ha]
        by_cases hb2 : b < i
        · rw [if_pos hb2]
          exact hr a b hab (by omega)
        · rw [if_neg hb2]
          by_cases hb3 : b = i
          · rw [if_pos hb3]
            exact hle a ha
          · rw [if_neg hb3]
            exact hr a (b - 1) (by omega) (by omega)
      · rw [if_neg ha, if_neg (show ¬ b < i by omega)]
        by_cases ha2 : a = i
        · rw [if_pos ha2]
          by_cases hb3 : b = i
          · rw [if_pos hb3]
            exact Nat.le_refl _
          · rw [if_neg hb3]
            exact hgt (b - 1) (by omega) (by omega)
        · rw [if_neg ha2, if_neg (show ¬ b = i by omega)]
          exact hr (a - 1) (b - 1) (by omega) (by omega)
    · constructor
      · intro hp
        refine ⟨fun j hj2 => ?_, ?_⟩
        · by_cases hji : j < i
          · have h9 := hp j (by omega)
            unfold sn_in at h9
            rw [if_pos hji] at h9
            exact h9
          · have h9 := hp (j + 1) (by omega)
            unfold sn_in at h9
            rw [if_neg (by omega), if_neg (by omega), Nat.add_sub_cancel] at h9
            exact h9
        · have h9 := hp i (by omega)
          rw [ei] at h9
          exact h9
      · intro hp j hj2
        unfold sn_in
        split
        · exact hp.1 j (by omega)
        · split
          · exact hp.2
          · exact hp.1 (j - 1) (by omega)
  have hl : ∀ (i : Nat) (N : px_Mem), i ≤ m → sn_fr M N → N.1 24 3 = nI m → (∀ j, j ≤ m → j ≠ i → N.1 25 j = nI (sn_in g i x j).1 ∧ N.1 26 j = nI (sn_in g i x j).2.1 ∧ N.1 27 j = (sn_in g i x j).2.2) → (∀ j, i ≤ j → j < m → x.1 ≤ (g j).1) → px_T 0 41 16 [some (.ref 24), some (.int (nI x.1)), some (.int (nI x.2.1)), some (.int x.2.2), some (.int (nI i))] [] N Q := by
    intro i
    induction i with
    | zero =>
      intro N him hf h3 hj hgt
      refine sg_41_16 (fun _ => me_vin (by omega) (by omega)) (fun _ => ?_) (fun c => absurd (by decide) c) (fun c => absurd (by decide) c) (fun c => absurd (by decide) c) (fun c => absurd (by decide) c) (fun c => absurd (by decide) c)
      rw [in_cl (by omega), h3, in_a1]
      exact fin 0 N him hf h3 hj hgt (fun j hj => absurd hj (Nat.not_lt_zero j))
    | succ i ih =>
      intro N him hf h3 hj hgt
      have hi1 : nI (i + 1) - 1 = nI i := in_s1 (by omega)
      have es : sn_in g (i + 1) x i = g i := by unfold sn_in; rw [if_pos (by omega)]
      obtain ⟨a1, a2, a3⟩ := hj i (by omega) (by omega)
      rw [es] at a1 a2 a3
      have hgi := hg i (by omega)
      refine sg_41_16 (fun c => ?_) (fun c => ?_) (fun c => by rw [hi1]; exact me_vin (by omega) (by omega)) (fun _ _ => me_vin (by omega) (by omega)) (fun _ d => ?_) (fun _ _ => me_vin (by omega) (by omega)) (fun _ d => ?_)
      · simp (disch := omega) only [in_lt, in_le, in_eq, in_add, in_mul, in_sb, in_cl, in_bz, in_bo, in_mo, not_true_eq_false, not_false_eq_true, il_0, il_1, il_2, il_3, il_4, il_5, il_6, il_7, il_8, il_9, il_10, il_11, il_12, il_13, il_14, il_15, il_16, il_31] at c
        omega
      · simp (disch := omega) only [in_lt, in_le, in_eq, in_add, in_mul, in_sb, in_cl, in_bz, in_bo, in_mo, not_true_eq_false, not_false_eq_true, il_0, il_1, il_2, il_3, il_4, il_5, il_6, il_7, il_8, il_9, il_10, il_11, il_12, il_13, il_14, il_15, il_16, il_31] at c
        omega
      · rw [hi1, in_cl (by omega), a1, in_le (by omega) (by omega)] at d
        rw [in_cl (by omega)]
        refine sg_41_112 ?_
        rw [show (px_wI (px_wI (px_wI N 25 (i + 1) (nI x.1)) 26 (i + 1) (nI x.2.1)) 27 (i + 1) x.2.2).1 24 3 = nI m by simp (disch := omega) only [me_II, me_Ii, me_Io, me_I2, me_L1, me_Li, me_LL, me_Lo, me_As, me_Ao, me_A2, me_Bs, me_Bo, me_B1]; exact h3, in_a1]
        exact fin (i + 1) N him hf h3 hj hgt (fun j hj2 => Nat.le_trans (hr j i (by omega) (by omega)) d)
      · rw [hi1, in_cl (by omega), a1, in_le (by omega) (by omega)] at d
        rw [hi1, in_cl (by omega), in_cl (by omega), a1, a2]
        refine sg_41_66 (by rw [hi1]; exact me_vin (by omega) (by omega)) (me_vin (by omega) (by omega)) ?_
        rw [hi1, in_cl (by omega), in_cl (by omega)]
        refine sg_41_82 ?_
        rw [in_lt1 (by omega), Nat.add_sub_cancel]
        have e27 : (px_wI (px_wI N 25 (i + 1) (nI (g i).1)) 26 (i + 1) (nI (g i).2.1)).1 27 i = (g i).2.2 := by simp (disch := omega) only [me_II, me_Ii, me_Io, me_I2, me_L1, me_Li, me_LL, me_Lo, me_As, me_Ao, me_A2, me_Bs, me_Bo, me_B1]; exact a3
        rw [e27]
        refine ih _ (by omega) (sn_fr_I (sn_fr_I (sn_fr_I hf (by omega) (by omega)) (by omega) (by omega)) (by omega) (by omega)) (by simp (disch := omega) only [me_II, me_Ii, me_Io, me_I2, me_L1, me_Li, me_LL, me_Lo, me_As, me_Ao, me_A2, me_Bs, me_Bo, me_B1]; exact h3) (fun j hj2 hj3 => ?_) (fun j hj2 hj3 => ?_)
        · by_cases hji : j = i + 1
          · subst hji
            have e5 : sn_in g i x (i + 1) = g i := by unfold sn_in; rw [if_neg (by omega), if_neg (by omega), Nat.add_sub_cancel]
            rw [e5]
            refine ⟨?_, ?_, ?_⟩
            · simp (disch := omega) only [me_II, me_Ii, me_Io, me_I2, me_L1, me_Li, me_LL, me_Lo, me_As, me_Ao, me_A2, me_Bs, me_Bo, me_B1]
            · simp (disch := omega) only [me_II, me_Ii, me_Io, me_I2, me_L1, me_Li, me_LL, me_Lo, me_As, me_Ao, me_A2, me_Bs, me_Bo, me_B1]
            · simp (disch := omega) only [me_II, me_Ii, me_Io, me_I2, me_L1, me_Li, me_LL, me_Lo, me_As, me_Ao, me_A2, me_Bs, me_Bo, me_B1]
          · have e5 : sn_in g i x j = sn_in g (i + 1) x j := by
              unfold sn_in
              by_cases hlt : j < i
              · rw [if_pos hlt, if_pos (by omega)]
              · rw [if_neg hlt, if_neg hj3, if_neg (by omega), if_neg hji]
            obtain ⟨b1, b2, b3⟩ := hj j hj2 hji
            rw [e5]
            refine ⟨?_, ?_, ?_⟩
            · simp (disch := omega) only [me_II, me_Ii, me_Io, me_I2, me_L1, me_Li, me_LL, me_Lo, me_As, me_Ao, me_A2, me_Bs, me_Bo, me_B1]; exact b1
            · simp (disch := omega) only [me_II, me_Ii, me_Io, me_I2, me_L1, me_Li, me_LL, me_Lo, me_As, me_Ao, me_A2, me_Bs, me_Bo, me_B1]; exact b2
            · simp (disch := omega) only [me_II, me_Ii, me_Io, me_I2, me_L1, me_Li, me_LL, me_Lo, me_As, me_Ao, me_A2, me_Bs, me_Bo, me_B1]; exact b3
        · by_cases hji : j = i
          · subst hji
            omega
          · exact hgt j (by omega) hj3
  refine hl m M (Nat.le_refl _) sn_fr_rf hS1 (fun j hj hjm => ?_) (fun j h1 h2 => absurd h1 (by omega))
  have e5 : sn_in g m x j = g j := by unfold sn_in; rw [if_pos (by omega)]
  rw [e5]
  exact hS.2 j (by omega)
/-- a row's triples, learnt -/
theorem l_i32 {x : Int64} {a b : Int} (ha : a ≤ x.toInt) (hb : x.toInt ≤ b) (h1 : -2147483648 ≤ a) (h2 : b < 2147483648) : x.toInt32.toInt = x.toInt := by
  rw [Int64.toInt_toInt32, Int.bmod_eq_of_le (by omega) (by omega)]
theorem l_nI {x : Int64} {b : Int} (ha : 0 ≤ x.toInt) (hb : x.toInt ≤ b) (h2 : b < 2147483648) : x.toInt32 = nI x.toInt.toNat := by
  apply Int32.toInt_inj.mp
  rw [l_i32 ha hb (by omega) h2, nI_toInt (by omega)]
  omega
theorem sc_40 (C : ic y M) {o n : Nat} {f : Nat → Int64} (ho : px_isR o) (hn : n ≤ 60) (h3 : M.1 o 3 = nI n) (hf : ∀ i, i < 60 → M.2 (o + 1) i = f i) (h1 : ∀ M' g, sn_fr M M' → Sn (n / 3) g M' → Sr (n / 3) g → (∀ φ : Nat × Nat × Int32 → Prop, (∀ i, i < n / 3 → φ (g i)) ↔ (∀ i, i < n / 3 → φ (sn_t f i))) → sn_ok y n f = true → Q (some (.int 1)) M') (h2 : ∀ M', sn_fr M M' → sn_ok y n f = false → Q (some (.int 0)) M') : px_T 0 40 0 [some (.ref 24), some (.ref o), some (.int (nI (iv_n y))), none, none, none, none, none, none, none] [] M Q := by
  have hny := ic_n C
  have ho2 : o ≠ 24 ∧ o < 24 := by unfold px_isR at ho; omega
  have rem : M.1 o 3 - M.1 o 3 / 3 * 3 = nI (n % 3) := by rw [h3]; exact pk_rem (d := 3) (by omega) (by omega) (by omega)
  have fr0 : sn_fr M (px_wI M 24 3 0) := sn_fr_I sn_fr_rf (by omega) (by omega)
  refine sg_40_0 ho (fun c => ?_) (fun c => ?_)
  · rw [rem] at c
    simp (disch := omega) only [in_lt, in_le, in_eq, in_add, in_mul, in_sb, in_cl, in_bz, in_bo, in_mo, not_true_eq_false, not_false_eq_true, il_0, il_1, il_2, il_3, il_4, il_5, il_6, il_7, il_8, il_9, il_10, il_11, il_12, il_13, il_14, il_15, il_16, il_31] at c
    have hl : ∀ (k m : Nat) (g : sn_G) (N : px_Mem) (d4 d6 d8 : Option Value), m + k = n / 3 → sn_fr M N → Sn m g N → Sr m g → alB (sn_d y f) m = true → (∀ φ : Nat × Nat × Int32 → Prop, (∀ i, i < m → φ (g i)) ↔ (∀ i, i < m → φ (sn_t f i))) → px_T 0 40 18 [some (.ref 24), some (.ref o), some (.int (nI (iv_n y))), some (.int (nI (3 * m))), d4, none, d6, none, d8, none] [] N Q := by
      intro k
      induction k with
      | zero =>
        intro m g N d4 d6 d8 hm hfr hS hr hal hphi
        have e1 : m = n / 3 := by omega
        subst e1
        have g3 : N.1 o 3 = nI n := by rw [hfr.1 o (by omega)]; exact h3
        have hle : N.1 o 3 ≤ nI (3 * (n / 3)) + 2 := by rw [g3, il_2, in_add, in_le (by omega) (by omega)]; omega
        refine sg_40_18 ho (fun _ => h1 N g hfr hS hr hphi ?_) (fun q => absurd hle q) (fun q => absurd hle q) (fun q => absurd hle q) (fun q => absurd hle q) (fun q => absurd hle q) (fun q => absurd hle q)
        unfold sn_ok
        rw [decide_eq_true c, hal]
        rfl
      | succ k ih =>
        intro m g N d4 d6 d8 hm hfr hS hr hal hphi
        have g3 : N.1 o 3 = nI n := by rw [hfr.1 o (by omega)]; exact h3
        have f0 : N.2 (o + 1) (3 * m) = f (3 * m) := by rw [hfr.2]; exact hf _ (by omega)
        have f1 : N.2 (o + 1) (3 * m + 1) = f (3 * m + 1) := by rw [hfr.2]; exact hf _ (by omega)
        have f2 : N.2 (o + 1) (3 * m + 2) = f (3 * m + 2) := by rw [hfr.2]; exact hf _ (by omega)
        have i1 : nI (3 * m) + 1 = nI (3 * m + 1) := in_a1 _
        have i2 : nI (3 * m) + 2 = nI (3 * m + 2) := by rw [il_2, in_add]
        have bad : sn_d y f m = false → Q (some (.int 0)) N := by
          intro hb
          refine h2 N hfr ?_
          unfold sn_ok
          rw [alB_f (show m < n / 3 by omega) hb, Bool.and_false]
        have bad1 : ¬ (0 ≤ (f (3 * m)).toInt ∧ (f (3 * m)).toInt ≤ iv_n y) → Q (some (.int 0)) N := fun q => bad (by unfold sn_d; rw [decide_eq_false q]; rfl)
        have bad2 : ¬ (1 ≤ (f (3 * m + 1)).toInt ∧ (f (3 * m + 1)).toInt ≤ 15) → Q (some (.int 0)) N := fun q => bad (by unfold sn_d; rw [decide_eq_false q, Bool.false_and, Bool.and_false])
        have bad3 : ¬ (-1 ≤ (f (3 * m + 2)).toInt ∧ (f (3 * m + 2)).toInt ≤ 15) → Q (some (.int 0)) N := fun q => bad (by unfold sn_d; rw [decide_eq_false q, Bool.and_false, Bool.and_false])
        have hgt : ¬ N.1 o 3 ≤ nI (3 * m) + 2 := by rw [g3, i2, in_le (by omega) (by omega)]; omega
        have z0 : (0 : Int64).toInt = 0 := rfl
        have z1 : (1 : Int64).toInt = 1 := rfl
        have zm : (-1 : Int64).toInt = -1 := rfl
        have z15 : (15 : Int64).toInt = 15 := rfl
        have zn : ((nI (iv_n y)).toInt64).toInt = iv_n y := by rw [Int32.toInt_toInt64, nI_toInt (by omega)]
        refine sg_40_18 ho (fun q => absurd q hgt) (fun _ => me_vin (by omega) (by omega)) (fun _ => by rw [i1]; exact me_vin (by omega) (by omega)) (fun _ => by rw [i2]; exact me_vin (by omega) (by omega)) (fun _ d => bad1 ?_) (fun _ d e => sg_40_87 (bad1 ?_)) (fun _ d e => ?_)
        · rw [in_cl (by omega), f0, lg_cmp_lt, fa_lt64, z0] at d
          omega
        · rw [in_cl (by omega), f0, lg_cmp_gt, fa_lt64, zn] at e
          omega
        · rw [in_cl (by omega), f0, lg_cmp_lt, fa_lt64, z0] at d
          rw [in_cl (by omega), f0, lg_cmp_gt, fa_lt64, zn] at e
          rw [i1, i2, in_cl (by omega), in_cl (by omega), in_cl (by omega), f0, f1, f2]
          refine sg_40_71 ho (fun a => sg_40_87 (bad2 ?_)) (fun a b c => bad3 ?_) (fun a b c d2 => ?_) (fun a b c d2 => bad3 ?_) (fun a b => sg_40_87 (bad2 ?_))
          · rw [lg_cmp_lt, fa_lt64, z1] at a
            omega
          · rw [lg_cmp_lt, fa_lt64, zm] at c
            omega
          · rw [lg_cmp_lt, fa_lt64, z1] at a
            rw [lg_cmp_le, fa_le64, z15] at b
            rw [lg_cmp_lt, fa_lt64, zm] at c
            rw [lg_cmp_le, fa_le64, z15] at d2
            have hd : sn_d y f m = true := by
              unfold sn_d
              rw [decide_eq_true (show 0 ≤ (f (3 * m)).toInt ∧ (f (3 * m)).toInt ≤ iv_n y by omega), decide_eq_true (show 1 ≤ (f (3 * m + 1)).toInt ∧ (f (3 * m + 1)).toInt ≤ 15 by omega), decide_eq_true (show -1 ≤ (f (3 * m + 2)).toInt ∧ (f (3 * m + 2)).toInt ≤ 15 by omega)]
              rfl
            rw [l_nI (x := f (3 * m)) (b := 70) (by omega) (by omega) (by omega), l_nI (x := f (3 * m + 1)) (b := 15) (by omega) (by omega) (by omega)]
            have hbd : ∀ i, i < m → (g i).1 ≤ 70 := by
              refine (hphi (fun x => x.1 ≤ 70)).mpr (fun i hi => ?_)
              have h9 := alB_t.mp hal i hi
              unfold sn_d at h9
              rw [Bool.and_eq_true] at h9
              have h8 := of_decide_eq_true h9.1
              show (f (3 * i)).toInt.toNat ≤ 70
              omega
            refine sc_41 (x := sn_t f m) (by omega) hS hr hbd (by show (f (3 * m)).toInt.toNat ≤ 70; omega) (fun M2 g2 k1 k2 k3 k4 => sg_40_122 ho ?_)
            rw [show nI (3 * m) + 3 = nI (3 * (m + 1)) by rw [il_3, in_add]; rfl]
            refine ih (m + 1) g2 M2 _ _ _ (by omega) (sn_fr_tr hfr k1) k2 k3 (by rw [alB_s, hal, hd]; rfl) (fun φ => ?_)
            rw [k4 φ, hphi φ]
            constructor
            · intro hp i hi
              by_cases him : i = m
              · rw [him]; exact hp.2
              · exact hp.1 i (by omega)
            · intro hp
              exact ⟨fun i hi => hp i (by omega), hp m (by omega)⟩
          · rw [lg_cmp_le, fa_le64, z15] at d2
            omega
          · rw [lg_cmp_le, fa_le64, z15] at b
            omega
    exact hl (n / 3) 0 (fun _ => (0, 0, 0)) _ _ _ _ (by omega) fr0 ⟨by simp (disch := omega) only [me_II, me_Ii, me_Io, me_I2, me_L1, me_Li, me_LL, me_Lo, me_As, me_Ao, me_A2, me_Bs, me_Bo, me_B1]; rfl, fun i hi => absurd hi (Nat.not_lt_zero i)⟩ (fun i j _ hj => absurd hj (Nat.not_lt_zero j)) rfl (fun φ => ⟨fun _ i hi => absurd hi (Nat.not_lt_zero i), fun _ i hi => absurd hi (Nat.not_lt_zero i)⟩)
  · rw [rem] at c
    simp (disch := omega) only [in_lt, in_le, in_eq, in_add, in_mul, in_sb, in_cl, in_bz, in_bo, in_mo, not_true_eq_false, not_false_eq_true, il_0, il_1, il_2, il_3, il_4, il_5, il_6, il_7, il_8, il_9, il_10, il_11, il_12, il_13, il_14, il_15, il_16, il_31] at c
    refine h2 _ fr0 ?_
    unfold sn_ok
    rw [decide_eq_false c]
    rfl
end S63
