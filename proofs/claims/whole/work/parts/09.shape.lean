def px_cv (fv : Value) (ar : Nat → Nat) : Value → Value
  | .ref a => if a = 1003 then fv else .ref (ar a)
  | v => v
theorem px_cv_r {fv : Value} {ar : Nat → Nat} {a : Nat} (h : a ≠ 1003) : px_cv fv ar (.ref a) = .ref (ar a) := if_neg h
def px_fw (ar : Nat → Nat) (M : px_Mem) (a i c : Nat) : Value := match c with
  | 1 => .long (M.2 a i)
  | 3 => .ref (ar (px_rf a i))
  | _ => .int (M.1 a i)
def px_ae (ar : Nat → Nat) (M : px_Mem) (a t n : Nat) : vp_A := (n, match t with
  | 1 => .inr (.inl (M.2 a))
  | 4 => .inr (.inr (.inr (.inr (fun j => some (ar (px_rf a j))))))
  | 5 => .inr (.inr (.inr (.inr (fun j => some (ar (px_rf a j))))))
  | 6 => .inr (.inr (.inr (.inr (fun j => some (ar (px_rf a j))))))
  | _ => .inl (M.1 a))
def px_e (ar : Nat → Nat) (cA : Nat → ClassId) (M : px_Mem) (a : Nat) : va_E := match px_sh0 a with
  | some (.inl ci) => .inr (ci, (px_fcl.getD ci []).mapIdx (fun i c => px_fw ar M a i c))
  | some (.inr (t, n)) => .inl (cA t, px_ae ar M a t n)
  | none => .inr (0, [])
def px_L (g : Nat) : List Nat := if g = 0 then List.range 163 else [47, 48, 49, 50, 51, 52, 53, 54]
def px_ws (g : Nat) (ar : Nat → Nat) (cA : Nat → ClassId) (M : px_Mem) : va_W := (px_L g).map fun a => (ar a, px_e ar cA M a)
def px_aty (t : Nat) : FieldType := match t with
  | 0 => .int
  | 1 => .long
  | 2 => .byte
  | 3 => .boolean
  | 4 => .object "FrozenTrees$Story"
  | 5 => .object "FrozenTrees$Row"
  | _ => .array .long
def px_tys (g : Nat) (cA : Nat → ClassId) : List (ClassId × FieldType) := if g = 0 then (List.range 7).map (fun t => (cA t, px_aty t)) else [(cA 0, .int)]
def px_tyb (x : Nat ⊕ (Nat × Nat)) : Bool := match x with
  | .inl ci => decide (ci < 12)
  | .inr q => decide (q.1 < 7)
theorem px_shl_all : px_shl.all px_tyb = true := by decide +kernel
theorem px_shl_ty {x : Nat ⊕ (Nat × Nat)} (h : x ∈ px_shl) : px_tyb x = true := List.all_eq_true.mp px_shl_all x h
theorem px_shl_ln : px_shl.length = 163 := by decide +kernel
theorem px_sh_0 {g a : Nat} {x : Nat ⊕ (Nat × Nat)} (h : px_sh g a = some x) : px_sh0 a = some x := by
  unfold px_sh at h
  split at h
  · exact h
  · split at h
    · exact h
    · cases h
theorem px_sh0_w {a : Nat} (h : a < 1000) : px_sh0 a = px_shl[a]? := if_pos h
theorem px_sh_L {g a : Nat} {x : Nat ⊕ (Nat × Nat)} (h : px_sh g a = some x) (ha : a < 1000) : a ∈ px_L g := by
  unfold px_sh at h
  unfold px_L
  split at h
  · rename_i hg
    rw [if_pos hg]
    rw [px_sh0_w ha] at h
    have := (List.getElem?_eq_some_iff.mp h).1
    rw [px_shl_ln] at this
    exact List.mem_range.mpr this
  · rename_i hg
    rw [if_neg hg]
    split at h
    · rename_i hr
      have : a = 47 ∨ a = 48 ∨ a = 49 ∨ a = 50 ∨ a = 51 ∨ a = 52 ∨ a = 53 ∨ a = 54 := by omega
      simp [this]
    · cases h
theorem px_L_lt {g a : Nat} (h : a ∈ px_L g) : a < 163 := by
  unfold px_L at h
  split at h
  · exact List.mem_range.mp h
  · simp at h
    omega
theorem px_L_nd (g : Nat) : (px_L g).Nodup := by
  unfold px_L
  split
  · exact List.nodup_range
  · decide
theorem px_sh0_c {a ci : Nat} (ha : a < 1000) (h : px_sh0 a = some (.inl ci)) : ci < 12 := by
  rw [px_sh0_w ha] at h
  exact of_decide_eq_true (px_shl_ty (List.mem_of_getElem? h))
theorem px_sh0_t {a t n : Nat} (ha : a < 1000) (h : px_sh0 a = some (.inr (t, n))) : t < 7 := by
  rw [px_sh0_w ha] at h
  exact of_decide_eq_true (px_shl_ty (List.mem_of_getElem? h))
theorem px_sh1_t {a t n : Nat} (h : 47 ≤ a ∧ a < 55) (hs : px_sh0 a = some (.inr (t, n))) : t = 0 := by
  have : a = 47 ∨ a = 48 ∨ a = 49 ∨ a = 50 ∨ a = 51 ∨ a = 52 ∨ a = 53 ∨ a = 54 := by omega
  rcases this with rfl | rfl | rfl | rfl | rfl | rfl | rfl | rfl
  · rw [show px_sh0 47 = some (.inl 9) by decide +kernel] at hs
    cases hs
  · rw [show px_sh0 48 = some (.inr (0, 16)) by decide +kernel] at hs
    cases hs
    rfl
  · rw [show px_sh0 49 = some (.inr (0, 16)) by decide +kernel] at hs
    cases hs
    rfl
  · rw [show px_sh0 50 = some (.inr (0, 16)) by decide +kernel] at hs
    cases hs
    rfl
  · rw [show px_sh0 51 = some (.inr (0, 128)) by decide +kernel] at hs
    cases hs
    rfl
  · rw [show px_sh0 52 = some (.inr (0, 200)) by decide +kernel] at hs
    cases hs
    rfl
  · rw [show px_sh0 53 = some (.inr (0, 200)) by decide +kernel] at hs
    cases hs
    rfl
  · rw [show px_sh0 54 = some (.inr (0, 200)) by decide +kernel] at hs
    cases hs
    rfl
theorem px_ty_at {g a t n : Nat} {cA : Nat → ClassId} (h : px_sh g a = some (.inr (t, n))) (ha : a < 1000) : (px_tys g cA)[t]? = some (cA t, px_aty t) := by
  have h7 := px_sh0_t ha (px_sh_0 h)
  unfold px_tys
  by_cases hg : g = 0
  · rw [if_pos hg, List.getElem?_map, List.getElem?_range h7]
    rfl
  · rw [if_neg hg]
    unfold px_sh at h
    rw [if_neg hg] at h
    split at h
    · rename_i hr
      have ht : t = 0 := px_sh1_t hr h
      subst ht
      rfl
    · cases h
theorem px_ws_get {g a : Nat} {ar : Nat → Nat} {cA : Nat → ClassId} {M : px_Mem} (h : a ∈ px_L g) : ∃ q : Nat, (px_L g)[q]? = some a ∧ (px_ws g ar cA M)[q]? = some (ar a, px_e ar cA M a) := by
  obtain ⟨q, hq⟩ := List.getElem?_of_mem h
  refine ⟨q, hq, ?_⟩
  unfold px_ws
  rw [List.getElem?_map, hq]
  rfl
theorem px_ws_set {g a q : Nat} {ar : Nat → Nat} {cA : Nat → ClassId} {M M' : px_Mem} {x : va_E} (hq : (px_L g)[q]? = some a) (hx : px_e ar cA M' a = x) (ho : ∀ b, b ≠ a → px_e ar cA M' b = px_e ar cA M b) : (px_ws g ar cA M).set q (ar a, x) = px_ws g ar cA M' := by
  subst hx
  apply List.ext_getElem?
  intro j
  have hlt := (List.getElem?_eq_some_iff.mp hq).1
  unfold px_ws
  by_cases hj : j = q
  · subst hj
    rw [List.getElem?_set_self (by rw [List.length_map]; exact hlt), List.getElem?_map, hq]
    rfl
  · rw [List.getElem?_set_ne (fun e => hj e.symm), List.getElem?_map, List.getElem?_map]
    cases hb : (px_L g)[j]? with
    | none => rfl
    | some b =>
      have hne : b ≠ a := by
        intro e
        subst e
        have h1 := (List.getElem?_eq_some_iff.mp hb)
        have h2 := (List.getElem?_eq_some_iff.mp hq)
        obtain ⟨l1, e1⟩ := h1
        obtain ⟨l2, e2⟩ := h2
        exact hj ((List.getElem_inj (px_L_nd g)).mp (e1.trans e2.symm))
      show some (ar b, px_e ar cA M b) = some (ar b, px_e ar cA M' b)
      rw [ho b hne]
theorem px_e_o {ar : Nat → Nat} {cA : Nat → ClassId} {M : px_Mem} {a ci : Nat} (h : px_sh0 a = some (.inl ci)) : px_e ar cA M a = .inr (ci, (px_fcl.getD ci []).mapIdx (fun i c => px_fw ar M a i c)) := by
  unfold px_e
  rw [h]
theorem px_e_a {ar : Nat → Nat} {cA : Nat → ClassId} {M : px_Mem} {a t n : Nat} (h : px_sh0 a = some (.inr (t, n))) : px_e ar cA M a = .inl (cA t, px_ae ar M a t n) := by
  unfold px_e
  rw [h]
theorem px_e_oth {ar : Nat → Nat} {cA : Nat → ClassId} {M M' : px_Mem} {b : Nat} (h1 : M'.1 b = M.1 b) (h2 : M'.2 b = M.2 b) : px_e ar cA M' b = px_e ar cA M b := by
  unfold px_e px_ae px_fw
  rw [h1, h2]
theorem px_rfl_lt : ∀ l ∈ px_rfl, ∀ x ∈ l, x < 163 := by decide +kernel
theorem px_rf_ne (a i : Nat) : px_rf a i ≠ 1003 := by
  unfold px_rf
  split
  · intro h
    have h1 : (px_rfl.getD a []).getD i 0 < 163 := by
      by_cases h2 : a < px_rfl.length
      · have h3 : px_rfl.getD a [] ∈ px_rfl := by
          rw [List.getD_eq_getElem?_getD, List.getElem?_eq_getElem h2]
          exact List.getElem_mem h2
        by_cases h4 : i < (px_rfl.getD a []).length
        · apply px_rfl_lt _ h3
          rw [List.getD_eq_getElem?_getD (l := px_rfl.getD a []), List.getElem?_eq_getElem h4]
          exact List.getElem_mem h4
        · rw [List.getD_eq_getElem?_getD (l := px_rfl.getD a []), List.getElem?_eq_none (by omega)]
          decide
      · rw [List.getD_eq_getElem?_getD (l := px_rfl), List.getElem?_eq_none (by omega)]
        show (0 : Nat) < 163
        decide
    omega
  · omega
theorem px_fv_cv {fv : Value} {ar : Nat → Nat} {M : px_Mem} {a i c : Nat} : px_cv fv ar (px_fv M a i c) = px_fw ar M a i c := by
  unfold px_fv px_fw
  split
  · rfl
  · exact px_cv_r (px_rf_ne a i)
  · split <;> first | rfl | contradiction
theorem px_ro_t {a t n : Nat} (ha : ¬ a < 1000) (h : px_sh0 a = some (.inr (t, n))) : (a = 1000 ∧ t = 12 ∧ n = 0) ∨ (a = 1001 ∧ t = 10 ∧ n = 10) ∨ (a = 1002 ∧ t = 10 ∧ n = 6) ∨ ∃ i, i < 14 ∧ a = 1200 + i ∧ t = 11 ∧ n = (px_str.getD i []).length := by
  unfold px_sh0 at h
  rw [if_neg ha] at h
  split at h
  · cases h; exact Or.inl ⟨by assumption, rfl, rfl⟩
  · split at h
    · cases h; exact Or.inr (Or.inl ⟨by assumption, rfl, rfl⟩)
    · split at h
      · cases h; exact Or.inr (Or.inr (Or.inl ⟨by assumption, rfl, rfl⟩))
      · split at h
        · cases h
        · split at h
          · rename_i hr
            cases h
            exact Or.inr (Or.inr (Or.inr ⟨a - 1200, by omega, by omega, rfl, rfl⟩))
          · cases h
theorem px_ro_o {a ci : Nat} (ha : ¬ a < 1000) (h : px_sh0 a = some (.inl ci)) : ∃ i, i < 14 ∧ a = 1100 + i ∧ ci = 12 := by
  unfold px_sh0 at h
  rw [if_neg ha] at h
  split at h
  · cases h
  · split at h
    · cases h
    · split at h
      · cases h
      · split at h
        · rename_i hr
          cases h
          exact ⟨a - 1100, by omega, by omega, rfl⟩
        · split at h <;> cases h
theorem px_sh_g {g a : Nat} {x : Nat ⊕ (Nat × Nat)} (h : px_sh g a = some x) (ha : ¬ a < 1000) : g = 0 := by
  unfold px_sh at h
  split at h
  · assumption
  · split at h
    · omega
    · cases h
/-! locals -/
def px_lvs (fv : Value) (ar : Nat → Nat) (ls : px_Lo) : List (Nat × Value) := (List.range ls.length).filterMap fun p => (px_ld ls p).map fun v => (p, px_cv fv ar v)
theorem px_lvs_in {fv : Value} {ar : Nat → Nat} {ls : px_Lo} {q : Nat × Value} : q ∈ px_lvs fv ar ls ↔ ∃ v, px_ld ls q.1 = some v ∧ q.2 = px_cv fv ar v := by
  unfold px_lvs
  rw [List.mem_filterMap]
  constructor
  · rintro ⟨p, -, hp⟩
    cases hv : px_ld ls p with
    | none => rw [hv] at hp; cases hp
    | some v =>
      rw [hv] at hp
      cases hp
      exact ⟨v, hv, rfl⟩
  · rintro ⟨v, h1, h2⟩
    refine ⟨q.1, ?_, ?_⟩
    · apply List.mem_range.mpr
      by_cases h : q.1 < ls.length
      · exact h
      · unfold px_ld at h1
        rw [List.getD_eq_getElem?_getD, List.getElem?_eq_none (by omega)] at h1
        cases h1
    · rw [h1]
      show some (q.1, px_cv fv ar v) = some q
      rw [← h2]
theorem px_lv_mono {ls : Array Slot} {n : Nat} {l l' : List (Nat × Value)} (h : lv_has ls n l) (hs : ∀ q ∈ l', q ∈ l) : lv_has ls n l' := ⟨h.1, h.2.1, fun q hq => h.2.2 q (hs q hq)⟩
theorem px_lv_at {ls : Array Slot} {n : Nat} {fv : Value} {ar : Nat → Nat} {lo : px_Lo} {j : Nat} {v : Value} (h : lv_has ls n (px_lvs fv ar lo)) (hv : px_ld lo j = some v) : ls[j]? = some (.val (px_cv fv ar v)) := h.2.2 (j, px_cv fv ar v) (px_lvs_in.mpr ⟨v, hv, rfl⟩)
def px_wfp (k : Nat) (ls : px_Lo) : Prop := ∀ (p : Nat) (w : Value), px_ld ls p = some w → w.category = 2 → (px_ls k).contains p = true
theorem px_ld_set {ls : px_Lo} {i p : Nat} {x : Option Value} : px_ld (ls.set i x) p = if p = i ∧ i < ls.length then x else px_ld ls p := by
  unfold px_ld
  rw [List.getD_eq_getElem?_getD, List.getD_eq_getElem?_getD, List.getElem?_set]
  by_cases h : i = p
  · subst h
    by_cases h2 : i < ls.length
    · simp [h2]
    · simp [h2]
  · rw [if_neg h, if_neg (fun q => h q.1.symm)]
theorem px_k1_ld {k i p : Nat} {ls : px_Lo} {w : Value} (h : px_ld (px_k1 k ls i) p = some w) : px_ld ls p = some w ∧ (p + 1 = i → ¬ (px_ls k).contains p = true) := by
  unfold px_k1 at h
  split at h
  · rename_i hc
    rw [Bool.and_eq_true] at hc
    rw [px_ld_set] at h
    split at h
    · cases h
    · rename_i hn
      refine ⟨h, fun e => ?_⟩
      exfalso
      apply hn
      refine ⟨by omega, ?_⟩
      by_cases hl : i - 1 < ls.length
      · exact hl
      · unfold px_ld at h
        rw [List.getD_eq_getElem?_getD, List.getElem?_eq_none (by omega)] at h
        cases h
  · rename_i hc
    refine ⟨h, fun e hcon => hc ?_⟩
    rw [show i - 1 = p by omega, hcon]
    simp
    omega
theorem px_cv_cat {fv : Value} {ar : Nat → Nat} {v : Value} (hf : fv.category = 1) : (px_cv fv ar v).category = v.category := by
  cases v with
  | ref a =>
    show (if a = 1003 then fv else Value.ref (ar a)).category = 1
    by_cases h : a = 1003
    · rw [if_pos h]
      exact hf
    · rw [if_neg h]
      rfl
  | _ => rfl
theorem px_s1_sub {k i : Nat} {ls : px_Lo} {v : Value} {fv : Value} {ar : Nat → Nat} (hf : fv.category = 1) (hw : px_wfp k ls) : ∀ q ∈ px_lvs fv ar (px_s1 k ls i v), q ∈ (i, px_cv fv ar v) :: (px_lvs fv ar ls).filter (fun q => !(q.1 == i) && !(q.1 + 1 == i && q.2.category == 2)) := by
  intro q hq
  obtain ⟨w, h1, h2⟩ := px_lvs_in.mp hq
  unfold px_s1 at h1
  rw [px_ld_set] at h1
  split at h1
  · rename_i hi
    cases h1
    rw [show q = (i, px_cv fv ar v) from Prod.ext hi.1 h2]
    exact List.mem_cons_self
  · rename_i hi
    obtain ⟨h3, h4⟩ := px_k1_ld h1
    have hne : q.1 ≠ i := by
      intro e
      apply hi
      refine ⟨e, ?_⟩
      by_cases hl : i < (px_k1 k ls i).length
      · exact hl
      · unfold px_ld at h1
        rw [List.getD_eq_getElem?_getD, List.getElem?_eq_none (by omega)] at h1
        cases h1
    refine List.mem_cons_of_mem _ (List.mem_filter.mpr ⟨px_lvs_in.mpr ⟨w, h3, h2⟩, ?_⟩)
    have hc : ¬ (q.1 + 1 = i ∧ q.2.category = 2) := by
      rintro ⟨e1, e2⟩
      rw [h2, px_cv_cat hf] at e2
      exact h4 e1 (hw _ _ h3 e2)
    simp only [Bool.and_eq_true, Bool.not_eq_true', beq_eq_false_iff_ne, ne_eq, Bool.and_eq_false_iff]
    refine ⟨hne, ?_⟩
    by_cases e1 : q.1 + 1 = i
    · exact Or.inr (fun e2 => hc ⟨e1, e2⟩)
    · exact Or.inl e1
theorem px_s2_sub {k i : Nat} {ls : px_Lo} {v : Value} {fv : Value} {ar : Nat → Nat} (hf : fv.category = 1) (hw : px_wfp k ls) : ∀ q ∈ px_lvs fv ar (px_s2 k ls i v), q ∈ (i, px_cv fv ar v) :: (px_lvs fv ar ls).filter (fun q => !(q.1 == i) && (!(q.1 == i + 1) && !(q.1 + 1 == i && q.2.category == 2))) := by
  intro q hq
  obtain ⟨w, h1, h2⟩ := px_lvs_in.mp hq
  unfold px_s2 at h1
  rw [px_ld_set] at h1
  split at h1
  · cases h1
  · rename_i hj
    rw [px_ld_set] at h1
    split at h1
    · rename_i hi
      cases h1
      rw [show q = (i, px_cv fv ar v) from Prod.ext hi.1 h2]
      exact List.mem_cons_self
    · rename_i hi
      obtain ⟨h3, h4⟩ := px_k1_ld h1
      have hlt : q.1 < (px_k1 k ls i).length := by
        by_cases hl : q.1 < (px_k1 k ls i).length
        · exact hl
        · unfold px_ld at h1
          rw [List.getD_eq_getElem?_getD, List.getElem?_eq_none (by omega)] at h1
          cases h1
      have hne : q.1 ≠ i := fun e => hi ⟨e, by omega⟩
      have hne2 : q.1 ≠ i + 1 := fun e => hj ⟨e, by rw [List.length_set]; omega⟩
      refine List.mem_cons_of_mem _ (List.mem_filter.mpr ⟨px_lvs_in.mpr ⟨w, h3, h2⟩, ?_⟩)
      have hc : ¬ (q.1 + 1 = i ∧ q.2.category = 2) := by
        rintro ⟨e1, e2⟩
        rw [h2, px_cv_cat hf] at e2
        exact h4 e1 (hw _ _ h3 e2)
      simp only [Bool.and_eq_true, Bool.not_eq_true', beq_eq_false_iff_ne, ne_eq, Bool.and_eq_false_iff]
      refine ⟨hne, hne2, ?_⟩
      by_cases e1 : q.1 + 1 = i
      · exact Or.inr (fun e2 => hc ⟨e1, e2⟩)
      · exact Or.inl e1
theorem px_s1_wf {k i : Nat} {ls : px_Lo} {v : Value} (hw : px_wfp k ls) (hv : v.category = 1) : px_wfp k (px_s1 k ls i v) := by
  intro p w h hc
  unfold px_s1 at h
  rw [px_ld_set] at h
  split at h
  · cases h
    rw [hv] at hc
    cases hc
  · exact hw p w (px_k1_ld h).1 hc
theorem px_s2_wf {k i : Nat} {ls : px_Lo} {v : Value} (hw : px_wfp k ls) (hi : (px_ls k).contains i = true) : px_wfp k (px_s2 k ls i v) := by
  intro p w h hc
  unfold px_s2 at h
  rw [px_ld_set] at h
  split at h
  · cases h
  · rw [px_ld_set] at h
    split at h
    · rename_i e
      rw [e.1]
      exact hi
    · exact hw p w (px_k1_ld h).1 hc
