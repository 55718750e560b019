/-! the running system, as numbers: who is alive and who ever was (bit p), parents, sessions, handles (8 p + h: 0 none, o + 1 the object o), objects made, their kinds, their bytes -/
abbrev ws_S : Type := Nat × Nat × (Nat → Nat) × (Nat → Nat) × (Nat → Nat) × Nat × (Nat → Nat) × (Nat → Nat)
def ws_al (s : ws_S) : Nat := s.1
def ws_ev (s : ws_S) : Nat := s.2.1
def ws_pa (s : ws_S) : Nat → Nat := s.2.2.1
def ws_se (s : ws_S) : Nat → Nat := s.2.2.2.1
def ws_ob (s : ws_S) : Nat → Nat := s.2.2.2.2.1
def ws_md (s : ws_S) : Nat := s.2.2.2.2.2.1
def ws_kd (s : ws_S) : Nat → Nat := s.2.2.2.2.2.2.1
def ws_by (s : ws_S) : Nat → Nat := s.2.2.2.2.2.2.2
def ws_0 : ws_S := (2, 2, fun _ => 0, fun p => if p = 1 then 1 else 0, fun _ => 0, 0, fun _ => 0, fun _ => 0)
/-- an event: kind and three numbers -/
abbrev ws_E : Type := Nat × Nat × Nat × Nat
def ws_up (f : Nat → Nat) (k x : Nat) : Nat → Nat := fun j => if j = k then x else f j
/-- whether q stands on the way up from at, n steps at most -/
def ws_hb (pa : Nat → Nat) (q : Nat) : Nat → Nat → Bool
  | 0, _ => false
  | n + 1, a => if a = 0 then false else if a = q then true else ws_hb pa q n (pa a)
def ws_ct (ob : Nat → Nat) (x : Nat) : Nat := fb_ct (fun i => decide (ob i = x + 1)) 128
def ws_hd (s : ws_S) (o : Nat) : Bool := decide (0 < ws_ct (ws_ob s) o)
def ws_np (law : Nat) (al : Nat) (se pa : Nat → Nat) (child gone least : Nat) : Nat :=
  if law = 0 then 1 else if law = 1 ∨ (law = 3 ∧ child = least) then pa gone else if law = 3 then least
  else if al.testBit (se child) = true ∧ se child ≠ child ∧ ws_hb pa child 16 (pa (se child)) = false then se child else 1
/-- parents behind an exit: n children from c on are still to be looked at -/
def ws_xl (law gone al : Nat) (se : Nat → Nat) : Nat → Nat → Nat → (Nat → Nat) → (Nat → Nat)
  | 0, _, _, pa => pa
  | n + 1, c, least, pa => if al.testBit c = true ∧ pa c = gone then ws_xl law gone al se n (c + 1) (if least = 0 then c else least) (ws_up pa c (ws_np law al se pa c gone (if least = 0 then c else least)))
    else ws_xl law gone al se n (c + 1) least pa
def ws_hw (s : ws_S) (k p a b : Nat) : Nat :=
  let f := ws_ob s (8 * p + a)
  let g := ws_ob s (8 * p + b)
  if k = 3 then (if f ≠ 0 then 3 else 0)
  else if k = 4 then (if f ≠ 0 ∨ g ≠ 0 ∨ a = b then 3 else 0)
  else if k = 5 then (if f = 0 ∨ g ≠ 0 then 3 else 0)
  else (if f ≠ 0 then 0 else 3)
def ws_pw (s : ws_S) (k p a n : Nat) : Nat :=
  let o := ws_ob s (8 * p + a) - 1
  if k = 7 then (if ws_kd s o ≠ 2 then 4 else if ws_hd s (o - 1) = false then 5 else if 60 < ws_by s (o - 1) + n then 6 else 0)
  else (if ws_kd s o ≠ 1 then 4 else if ws_by s o < n ∧ ws_hd s (o + 1) = true then 5 else 0)
def ws_why (s : ws_S) (e : ws_E) : Nat :=
  let k := e.1
  let p := e.2.1
  let a := e.2.2.1
  let b := e.2.2.2
  if (ws_al s).testBit p = false then 1
  else if k = 0 then (if (ws_ev s).testBit a = true then 2 else 0)
  else if k = 1 then (if ws_se s p = p then 2 else 0)
  else if k = 2 then (if p = 1 then 2 else 0)
  else if k = 9 then 0
  else if ws_hw s k p a b ≠ 0 then ws_hw s k p a b
  else if k = 7 ∨ k = 8 then ws_pw s k p a b
  else 0
def ws_clr (f : Nat → Nat) (p : Nat) : Nat → Nat := fun i => if i / 8 = p then 0 else f i
def ws_ap (law : Nat) (s : ws_S) (e : ws_E) : ws_S :=
  let k := e.1
  let p := e.2.1
  let a := e.2.2.1
  let b := e.2.2.2
  if k = 0 then (ws_al s ||| 2 ^ a, ws_ev s ||| 2 ^ a, ws_up (ws_pa s) a p, ws_up (ws_se s) a (ws_se s p), (fun i => if i / 8 = a then ws_ob s (8 * p + i % 8) else ws_ob s i), ws_md s, ws_kd s, ws_by s)
  else if k = 1 then (ws_al s, ws_ev s, ws_pa s, ws_up (ws_se s) p p, ws_ob s, ws_md s, ws_kd s, ws_by s)
  else if k = 2 then (ws_al s ^^^ 2 ^ p, ws_ev s, ws_xl law p (ws_al s ^^^ 2 ^ p) (ws_se s) 15 1 0 (ws_pa s), ws_se s, ws_clr (ws_ob s) p, ws_md s, ws_kd s, ws_by s)
  else if k = 3 then (ws_al s, ws_ev s, ws_pa s, ws_se s, ws_up (ws_ob s) (8 * p + a) (ws_md s + 1), ws_md s + 1, ws_up (ws_kd s) (ws_md s) 0, ws_up (ws_by s) (ws_md s) 0)
  else if k = 4 then (ws_al s, ws_ev s, ws_pa s, ws_se s, ws_up (ws_up (ws_ob s) (8 * p + a) (ws_md s + 1)) (8 * p + b) (ws_md s + 2), ws_md s + 2, ws_up (ws_up (ws_kd s) (ws_md s) 1) (ws_md s + 1) 2, ws_up (ws_up (ws_by s) (ws_md s) 0) (ws_md s + 1) 0)
  else if k = 5 then (ws_al s, ws_ev s, ws_pa s, ws_se s, ws_up (ws_ob s) (8 * p + b) (ws_ob s (8 * p + a)), ws_md s, ws_kd s, ws_by s)
  else if k = 6 then (ws_al s, ws_ev s, ws_pa s, ws_se s, ws_up (ws_ob s) (8 * p + a) 0, ws_md s, ws_kd s, ws_by s)
  else if k = 7 then (ws_al s, ws_ev s, ws_pa s, ws_se s, ws_ob s, ws_md s, ws_kd s, ws_up (ws_by s) (ws_ob s (8 * p + a) - 2) (ws_by s (ws_ob s (8 * p + a) - 2) + b))
  else if k = 8 then (ws_al s, ws_ev s, ws_pa s, ws_se s, ws_ob s, ws_md s, ws_kd s, ws_up (ws_by s) (ws_ob s (8 * p + a) - 1) (ws_by s (ws_ob s (8 * p + a) - 1) - b))
  else s
def ws_st (law : Nat) (s : ws_S) (e : ws_E) : ws_S := if ws_why s e = 0 then ws_ap law s e else s
/-- the state behind t events, those of sk left out -/
def ws_run (law : Nat) (ev : Nat → ws_E) (sk : Nat → Bool) : Nat → ws_S
  | 0 => ws_0
  | t + 1 => if sk t = true then ws_run law ev sk t else ws_st law (ws_run law ev sk t) (ev t)
/-! what holds between two calls -/
def iv_pk (e : ws_E) : Nat := e.1 + 16 * e.2.1 + 256 * e.2.2.1 + 4096 * e.2.2.2
def iv_ok (e : ws_E) : Prop := e.1 ≤ 9 ∧ 1 ≤ e.2.1 ∧ e.2.1 ≤ 15 ∧
  ((e.1 = 0 ∧ 1 ≤ e.2.2.1 ∧ e.2.2.1 ≤ 15 ∧ e.2.2.2 = 0) ∨ ((e.1 = 1 ∨ e.1 = 2) ∧ e.2.2.1 = 0 ∧ e.2.2.2 = 0) ∨ ((e.1 = 3 ∨ e.1 = 6 ∨ e.1 = 9) ∧ e.2.2.1 ≤ 7 ∧ e.2.2.2 = 0) ∨ ((e.1 = 4 ∨ e.1 = 5) ∧ e.2.2.1 ≤ 7 ∧ e.2.2.2 ≤ 7) ∨ ((e.1 = 7 ∨ e.1 = 8) ∧ e.2.2.1 ≤ 7 ∧ 1 ≤ e.2.2.2 ∧ e.2.2.2 ≤ 30))
/-- a system: lines, law, odds, told, acts, events -/
abbrev iv_Y : Type := Nat × Nat × Nat × Nat × Nat × (Nat → ws_E)
def iv_ln (y : iv_Y) : Nat := y.1
def iv_lw (y : iv_Y) : Nat := y.2.1
def iv_od (y : iv_Y) : Nat := y.2.2.1
def iv_td (y : iv_Y) : Nat := y.2.2.2.1
def iv_ac (y : iv_Y) : Nat := y.2.2.2.2.1
def iv_ev (y : iv_Y) : Nat → ws_E := y.2.2.2.2.2
def iv_n (y : iv_Y) : Nat := iv_td y + iv_ac y
def iv_yok (y : iv_Y) : Prop := iv_lw y ≤ 3 ∧ iv_od y ≤ 10 ∧ iv_td y ≤ 40 ∧ iv_ac y ≤ 30 ∧ ((iv_ln y = 0 ∧ iv_td y = 0 ∧ iv_ac y = 0) ∨ iv_ln y = iv_td y + 1) ∧ ∀ e, e < iv_n y → iv_ok (iv_ev y e)
/-- as the class keeps it, at o -/
def iv_sc (y : iv_Y) (o : Nat) (M : px_Mem) : Prop := M.1 o 1 = nI (iv_ln y) ∧ M.1 o 2 = nI (iv_lw y) ∧ M.1 o 3 = nI (iv_od y) ∧ M.1 o 4 = nI (iv_td y) ∧ M.1 o 5 = nI (iv_ac y) ∧ ∀ e, e < iv_n y → M.1 (o + 1) e = nI (iv_pk (iv_ev y e))
/-- as the reference keeps it, in the row a from b on -/
def iv_sr (y : iv_Y) (a b : Nat) (M : px_Mem) : Prop := M.1 a b = nI (iv_lw y) ∧ M.1 a (b + 1) = nI (iv_od y) ∧ M.1 a (b + 2) = nI (iv_td y) ∧ M.1 a (b + 3) = nI (iv_ac y) ∧ M.1 a (b + 4) = nI (iv_ln y) ∧ ∀ e, e < iv_n y → M.1 a (b + 5 + 4 * e) = nI (iv_ev y e).1 ∧ M.1 a (b + 5 + 4 * e + 1) = nI (iv_ev y e).2.1 ∧ M.1 a (b + 5 + 4 * e + 2) = nI (iv_ev y e).2.2.1 ∧ M.1 a (b + 5 + 4 * e + 3) = nI (iv_ev y e).2.2.2
def iv_tape (t : Nat) (M : px_Mem) : Prop := t ≤ 900 ∧ M.1 1 1 = nI t ∧ M.1 56 5 = nI t ∧ ∀ i, i < t → ∃ v, v < 256 ∧ M.1 2 i = nI v ∧ M.1 60 i = (nI v).toInt8.toInt32
def iv_flt (M : px_Mem) : Prop := M.1 3 1 = M.1 56 12 ∧ M.1 3 2 = M.1 56 13
def iv_img (M : px_Mem) : Prop := ∀ k, k < 3 → (M.1 (9 + 2 * k) 6 = 0 ∧ M.1 59 k = 0) ∨ (M.1 (9 + 2 * k) 6 = 1 ∧ M.1 59 k = 1 ∧ ∃ y, iv_yok y ∧ iv_sc y (9 + 2 * k) M ∧ iv_sr y 58 (285 * k) M)
def iv_rows (M : px_Mem) : Prop := ∀ k, k < 4 → ((M.1 (16 + 2 * k) 1 = 0 ∧ M.1 88 k = -1) ∨ (M.1 (16 + 2 * k) 1 = 1 ∧ ∃ n w, n ≤ 60 ∧ w ≤ 3 ∧ M.1 (16 + 2 * k) 3 = nI n ∧ M.1 88 k = nI n ∧ M.1 (16 + 2 * k) 2 = nI w ∧ M.1 89 k = nI w)) ∧ ∀ i, i < 60 → M.2 (17 + 2 * k) i = M.2 90 (60 * k + i)
def ws_C (s : ws_S) (o : Nat) (M : px_Mem) : Prop :=
  (M.1 o 0 = nI (ws_al s / 2) ∧ M.1 o 1 = nI (ws_md s) ∧ M.1 o 2 = nI (ws_ev s / 2)) ∧
  (∀ p, p < 16 → M.1 (o + 1) p = nI (ws_pa s p)) ∧ (∀ p, p < 16 → M.1 (o + 2) p = nI (ws_se s p)) ∧
  (∀ i, i < 128 → M.1 (o + 4) i = nI (ws_ob s i) - 1) ∧ (∀ x, x < ws_md s → M.1 (o + 5) x = nI (ws_kd s x)) ∧ (∀ x, x < 200 → M.1 (o + 6) x = nI (ws_ct (ws_ob s) x)) ∧ (∀ x, x < ws_md s → M.1 (o + 7) x = nI (ws_by s x))
def iv_rn (y : iv_Y) (t : Nat) : ws_S := ws_run (iv_lw y) (iv_ev y) (fun _ => false) t
/-- the run kept by the class -/
def iv_film (y : iv_Y) (M : px_Mem) : Prop := ∃ t, t ≤ iv_n y ∧ M.1 28 3 = nI t ∧ ws_C (iv_rn y t) 29 M ∧ (∀ i, i < t → M.1 37 i = nI (ws_why (iv_rn y i) (iv_ev y i))) ∧ ∀ p, p < 16 → ∃ v, v < 256 ∧ M.1 32 p = nI v
/-- the rows that nobody writes -/
def iv_ro (M : px_Mem) : Prop := (∀ i, i < 10 → M.1 1001 i = nI ([2, 1, 1, 2, 3, 3, 2, 3, 3, 2].getD i 0)) ∧ (∀ i, i < 6 → M.1 1002 i = nI ([120, 24, 12, 12, 24, 120].getD i 0)) ∧ (∀ i, i < 14 → M.1 (1100 + i) 1 = 0) ∧ (∀ i j, i < 14 → M.1 (1200 + i) j = (px_str.getD i []).getD j 0)
theorem iv_okb {e : ws_E} (h : iv_ok e) : e.1 ≤ 9 ∧ 1 ≤ e.2.1 ∧ e.2.1 ≤ 15 ∧ e.2.2.1 ≤ 15 ∧ e.2.2.2 ≤ 30 := by
  unfold iv_ok at h
  omega
theorem iv_pkb {e : ws_E} (h : iv_ok e) : iv_pk e < 2 ^ 20 := by
  have := iv_okb h
  unfold iv_pk
  omega
/-- a system that is well formed -/
def ws_W (s : ws_S) : Prop :=
  (ws_al s < 2 ^ 16 ∧ ws_ev s < 2 ^ 16 ∧ (ws_al s).testBit 0 = false ∧ (ws_al s).testBit 1 = true ∧ (∀ p, (ws_al s).testBit p = true → (ws_ev s).testBit p = true)) ∧
  (∀ p, ws_pa s p < 16) ∧ (∀ p, ws_se s p < 16) ∧ (∀ p, (ws_ev s).testBit p = true → 1 ≤ ws_se s p) ∧
  (∀ i, ws_ob s i ≤ ws_md s) ∧ (∀ i, ws_ob s i ≠ 0 → (ws_al s).testBit (i / 8) = true) ∧
  (∀ x, x < ws_md s → ws_kd s x ≤ 2 ∧ (ws_kd s x = 1 → x + 1 < ws_md s ∧ ws_kd s (x + 1) = 2) ∧ (ws_kd s x = 2 → 1 ≤ x ∧ ws_kd s (x - 1) = 1)) ∧
  (∀ x, x < ws_md s → ws_by s x ≤ 60)
/-- soiled pages behind an event -/
def ws_sl (why : Nat) (e : ws_E) (f : Nat → Int32) : Nat → Int32 := if why = 0 then (if e.1 = 0 then upd f e.2.2.1 255 else if e.1 = 9 then upd f e.2.1 (f e.2.1 ||| nI (2 ^ e.2.2.1)) else f) else f
/-- a world behind an event -/
def ws_P (law : Nat) (s : ws_S) (e : ws_E) (o : Nat) (M M' : px_Mem) : Prop := me_fw o (o + 8) M M' ∧ ws_C (ws_st law s e) o M' ∧ M'.1 (o + 3) = ws_sl (ws_why s e) e (M.1 (o + 3))
theorem ws_P_no {law : Nat} {s : ws_S} {e : ws_E} {o : Nat} {M : px_Mem} (hC : ws_C s o M) (h : ¬ ws_why s e = 0) : ws_P law s e o M M := ⟨me_fw_rf, by rw [ws_st, if_neg h]; exact hC, by rw [ws_sl, if_neg h]⟩
theorem ws_P_do {law : Nat} {s : ws_S} {e : ws_E} {o : Nat} {M M' : px_Mem} (hw : ws_why s e = 0) (h1 : me_fw o (o + 8) M M') (hC : ws_C (ws_ap law s e) o M') (h3 : M'.1 (o + 3) = ws_sl 0 e (M.1 (o + 3))) : ws_P law s e o M M' := ⟨h1, by rw [ws_st, if_pos hw]; exact hC, by rw [hw]; exact h3⟩
theorem ws_hd0 {s : ws_S} {x : Nat} : ws_hd s x = false ↔ ws_ct (ws_ob s) x = 0 := by
  unfold ws_hd
  rw [decide_eq_false_iff_not]
  omega
theorem ws_hd1 {s : ws_S} {x : Nat} : ws_hd s x = true ↔ ¬ ws_ct (ws_ob s) x = 0 := by
  unfold ws_hd
  rw [decide_eq_true_iff]
  omega
