/-! what a World does: the parts of act -/
def ws_wob (s : ws_S) (ob : Nat → Nat) : ws_S := (ws_al s, ws_ev s, ws_pa s, ws_se s, ob, ws_md s, ws_kd s, ws_by s)
def ws_wpa (s : ws_S) (pa : Nat → Nat) : ws_S := (ws_al s, ws_ev s, pa, ws_se s, ws_ob s, ws_md s, ws_kd s, ws_by s)
def ws_hold (s : ws_S) (i v : Nat) : ws_S := ws_wob s (ws_up (ws_ob s) i v)
def ws_new (s : ws_S) (k : Nat) : ws_S := (ws_al s, ws_ev s, ws_pa s, ws_se s, ws_ob s, ws_md s + 1, ws_up (ws_kd s) (ws_md s) k, ws_up (ws_by s) (ws_md s) 0)
def ws_wby (s : ws_S) (v y : Nat) : ws_S := (ws_al s, ws_ev s, ws_pa s, ws_se s, ws_ob s, ws_md s, ws_kd s, ws_up (ws_by s) v y)
def ws_wse (s : ws_S) (p y : Nat) : ws_S := (ws_al s, ws_ev s, ws_pa s, ws_up (ws_se s) p y, ws_ob s, ws_md s, ws_kd s, ws_by s)
/-- an array's rows a .. with f in the first i of its eight -/
def ws_sp (ob : Nat → Nat) (a : Nat) (f : Nat → Nat) (i : Nat) : Nat → Nat := fun j => if j / 8 = a ∧ j % 8 < i then f (j % 8) else ob j
theorem ws_sp_0 (ob : Nat → Nat) (a : Nat) (f : Nat → Nat) : ws_sp ob a f 0 = ob := funext fun j => if_neg (by omega)
theorem ws_sp_s (ob : Nat → Nat) (a : Nat) (f : Nat → Nat) {i : Nat} (hi : i < 8) : ws_up (ws_sp ob a f i) (8 * a + i) (f i) = ws_sp ob a f (i + 1) := by
  funext j
  unfold ws_up ws_sp
  by_cases h : j = 8 * a + i
  · subst h
    rw [if_pos rfl, if_pos (by omega)]
    congr 1
    omega
  · rw [if_neg h]
    by_cases h2 : j / 8 = a ∧ j % 8 < i
    · rw [if_pos h2, if_pos (by omega)]
    · rw [if_neg h2, if_neg (by omega)]
theorem ws_sp_8 (ob : Nat → Nat) (a : Nat) (f : Nat → Nat) : ws_sp ob a f 8 = fun j => if j / 8 = a then f (j % 8) else ob j := by
  funext j
  unfold ws_sp
  by_cases h : j / 8 = a
  · rw [if_pos h, if_pos ⟨h, by omega⟩]
  · rw [if_neg h, if_neg (fun q => h q.1)]
def ws_ap0 (s : ws_S) (p a : Nat) : ws_S := (ws_al s ||| 2 ^ a, ws_ev s ||| 2 ^ a, ws_up (ws_pa s) a p, ws_up (ws_se s) a (ws_se s p), ws_ob s, ws_md s, ws_kd s, ws_by s)
def ws_ap2 (s : ws_S) (p : Nat) : ws_S := (ws_al s ^^^ 2 ^ p, ws_ev s, ws_pa s, ws_se s, ws_ob s, ws_md s, ws_kd s, ws_by s)
theorem ws_ap_0 (law : Nat) (s : ws_S) (p a b : Nat) : ws_ap law s (0, p, a, b) = ws_wob (ws_ap0 s p a) (fun i => if i / 8 = a then ws_ob s (8 * p + i % 8) else ws_ob s i) := rfl
theorem ws_ap_1 (law : Nat) (s : ws_S) (p a b : Nat) : ws_ap law s (1, p, a, b) = ws_wse s p p := rfl
theorem ws_ap_2 (law : Nat) (s : ws_S) (p a b : Nat) : ws_ap law s (2, p, a, b) = ws_wpa (ws_wob (ws_ap2 s p) (ws_clr (ws_ob s) p)) (ws_xl law p (ws_al s ^^^ 2 ^ p) (ws_se s) 15 1 0 (ws_pa s)) := rfl
theorem ws_ap_3 (law : Nat) (s : ws_S) (p a b : Nat) : ws_ap law s (3, p, a, b) = ws_hold (ws_new s 0) (8 * p + a) (ws_md s + 1) := rfl
theorem ws_ap_4 (law : Nat) (s : ws_S) (p a b : Nat) : ws_ap law s (4, p, a, b) = ws_hold (ws_new (ws_hold (ws_new s 1) (8 * p + a) (ws_md s + 1)) 2) (8 * p + b) (ws_md s + 2) := rfl
theorem ws_ap_5 (law : Nat) (s : ws_S) (p a b : Nat) : ws_ap law s (5, p, a, b) = ws_hold s (8 * p + b) (ws_ob s (8 * p + a)) := rfl
theorem ws_ap_6 (law : Nat) (s : ws_S) (p a b : Nat) : ws_ap law s (6, p, a, b) = ws_hold s (8 * p + a) 0 := rfl
theorem ws_ap_7 (law : Nat) (s : ws_S) (p a b : Nat) : ws_ap law s (7, p, a, b) = ws_wby s (ws_ob s (8 * p + a) - 2) (ws_by s (ws_ob s (8 * p + a) - 2) + b) := rfl
theorem ws_ap_8 (law : Nat) (s : ws_S) (p a b : Nat) : ws_ap law s (8, p, a, b) = ws_wby s (ws_ob s (8 * p + a) - 1) (ws_by s (ws_ob s (8 * p + a) - 1) - b) := rfl
theorem ws_ap_9 (law : Nat) (s : ws_S) (p a b : Nat) : ws_ap law s (9, p, a, b) = s := rfl
/-- only the world at o changed, and not its soiled pages -/
def ws_K (o : Nat) (M M' : px_Mem) : Prop := me_fw o (o + 8) M M' ∧ M'.1 (o + 3) = M.1 (o + 3)
theorem ws_K_rf {o : Nat} {M : px_Mem} : ws_K o M M := ⟨me_fw_rf, rfl⟩
theorem ws_K_tr {o : Nat} {M M' M2 : px_Mem} (h : ws_K o M M') (h2 : ws_K o M' M2) : ws_K o M M2 := ⟨me_fw_tr h.1 h2.1, h2.2.trans h.2⟩
theorem ws_K_I {o a i : Nat} {x : Int32} {M M' : px_Mem} (h : ws_K o M M') (h1 : o ≤ a) (h2 : a < o + 8) (h3 : a ≠ o + 3) : ws_K o M (px_wI M' a i x) := ⟨me_fw_I h.1 h1 h2, by rw [me_Io (by omega)]; exact h.2⟩
theorem ws_K_fr {o : Nat} {M M' : px_Mem} (h : me_fr [o + 4, o + 6] M M') : ws_K o M M' := ⟨fun a ha => h a (by simp; omega), (h (o + 3) (by simp)).1⟩
section W36
variable {o : Nat} {M : px_Mem} {Q : px_Po} {s : ws_S}
theorem ws_no {law r : Nat} {e : ws_E} (h : ∀ M', ws_P law s e o M M' → Q (some (.int (nI (ws_why s e)))) M') (hC : ws_C s o M) (hr : ws_why s e = r) (h0 : ¬ r = 0) : Q (some (.int (nI r))) M := by
  subst hr
  exact h M (ws_P_no hC h0)
theorem ws_do {law : Nat} {e : ws_E} {M' : px_Mem} (h : ∀ M', ws_P law s e o M M' → Q (some (.int (nI (ws_why s e)))) M') (hr : ws_why s e = 0) (h1 : me_fw o (o + 8) M M') (hC : ws_C (ws_ap law s e) o M') (h3 : M'.1 (o + 3) = ws_sl 0 e (M.1 (o + 3))) : Q (some (.int 0)) M' := by
  have h4 := h M' (ws_P_do hr h1 hC h3)
  rw [hr] at h4
  exact h4
theorem ws_doK {law k p a b : Nat} {M' : px_Mem} (h : ∀ M', ws_P law s (k, p, a, b) o M M' → Q (some (.int (nI (ws_why s (k, p, a, b))))) M') (hr : ws_why s (k, p, a, b) = 0) (h1 : ws_K o M M') (hC : ws_C (ws_ap law s (k, p, a, b)) o M') (h0 : ¬ k = 0) (h9 : ¬ k = 9) : Q (some (.int 0)) M' := ws_do h hr h1.1 hC (by rw [h1.2, ws_sl, if_pos rfl, if_neg h0, if_neg h9])
theorem ws_C_by (hC : ws_C s o M) (v y : Nat) : ws_C (ws_wby s v y) o (px_wI M (o + 7) v (nI y)) := by
  obtain ⟨⟨h1, h2, h3⟩, h4, h5, h6, h7, h8, h9⟩ := hC
  refine ⟨⟨?_, ?_, ?_⟩, ?_, ?_, ?_, ?_, ?_, ?_⟩
  · rw [me_Io (by omega)]; exact h1
  · rw [me_Io (by omega)]; exact h2
  · rw [me_Io (by omega)]; exact h3
  · rw [me_Io (by omega)]; exact h4
  · rw [me_Io (by omega)]; exact h5
  · rw [me_Io (by omega)]; exact h6
  · rw [me_Io (by omega)]; exact h7
  · rw [me_Io (by omega)]; exact h8
  · intro x hx
    show _ = nI (ws_up (ws_by s) v y x)
    by_cases hxv : x = v
    · subst hxv
      rw [me_II, ws_up_s]
    · rw [me_Ii hxv, ws_up_n _ _ hxv]
      exact h9 x hx
theorem ws_C_se (hC : ws_C s o M) (v y : Nat) : ws_C (ws_wse s v y) o (px_wI M (o + 2) v (nI y)) := by
  obtain ⟨⟨h1, h2, h3⟩, h4, h5, h6, h7, h8, h9⟩ := hC
  refine ⟨⟨?_, ?_, ?_⟩, ?_, ?_, ?_, ?_, ?_, ?_⟩
  · rw [me_Io (by omega)]; exact h1
  · rw [me_Io (by omega)]; exact h2
  · rw [me_Io (by omega)]; exact h3
  · rw [me_Io (by omega)]; exact h4
  · intro x hx
    show _ = nI (ws_up (ws_se s) v y x)
    by_cases hxv : x = v
    · subst hxv
      rw [me_II, ws_up_s]
    · rw [me_Ii hxv, ws_up_n _ _ hxv]
      exact h5 x hx
  · rw [me_Io (by omega)]; exact h6
  · rw [me_Io (by omega)]; exact h7
  · rw [me_Io (by omega)]; exact h8
  · rw [me_Io (by omega)]; exact h9
theorem ws_C_pa (hC : ws_C s o M) (v y : Nat) : ws_C (ws_wpa s (ws_up (ws_pa s) v y)) o (px_wI M (o + 1) v (nI y)) := by
  obtain ⟨⟨h1, h2, h3⟩, h4, h5, h6, h7, h8, h9⟩ := hC
  refine ⟨⟨?_, ?_, ?_⟩, ?_, ?_, ?_, ?_, ?_, ?_⟩
  · rw [me_Io (by omega)]; exact h1
  · rw [me_Io (by omega)]; exact h2
  · rw [me_Io (by omega)]; exact h3
  · intro x hx
    show _ = nI (ws_up (ws_pa s) v y x)
    by_cases hxv : x = v
    · subst hxv
      rw [me_II, ws_up_s]
    · rw [me_Ii hxv, ws_up_n _ _ hxv]
      exact h4 x hx
  · rw [me_Io (by omega)]; exact h5
  · rw [me_Io (by omega)]; exact h6
  · rw [me_Io (by omega)]; exact h7
  · rw [me_Io (by omega)]; exact h8
  · rw [me_Io (by omega)]; exact h9
theorem ws_C_new (hC : ws_C s o M) (k : Nat) : ws_C (ws_new s k) o (px_wI (px_wI (px_wI M (o + 5) (ws_md s) (nI k)) (o + 7) (ws_md s) 0) o 1 (nI (ws_md s + 1))) := by
  obtain ⟨⟨h1, h2, h3⟩, h4, h5, h6, h7, h8, h9⟩ := hC
  refine ⟨⟨?_, ?_, ?_⟩, ?_, ?_, ?_, ?_, ?_, ?_⟩
  · simp (disch := omega) only [me_II, me_Ii, me_Io, me_I2, me_L1, me_Li, me_LL, me_Lo, me_As, me_Ao, me_A2, me_Bs, me_Bo, me_B1]; exact h1
  · simp (disch := omega) only [me_II, me_Ii, me_Io, me_I2, me_L1, me_Li, me_LL, me_Lo, me_As, me_Ao, me_A2, me_Bs, me_Bo, me_B1]; rfl
  · simp (disch := omega) only [me_II, me_Ii, me_Io, me_I2, me_L1, me_Li, me_LL, me_Lo, me_As, me_Ao, me_A2, me_Bs, me_Bo, me_B1]; exact h3
  · simp (disch := omega) only [me_II, me_Ii, me_Io, me_I2, me_L1, me_Li, me_LL, me_Lo, me_As, me_Ao, me_A2, me_Bs, me_Bo, me_B1]; exact h4
  · simp (disch := omega) only [me_II, me_Ii, me_Io, me_I2, me_L1, me_Li, me_LL, me_Lo, me_As, me_Ao, me_A2, me_Bs, me_Bo, me_B1]; exact h5
  · simp (disch := omega) only [me_II, me_Ii, me_Io, me_I2, me_L1, me_Li, me_LL, me_Lo, me_As, me_Ao, me_A2, me_Bs, me_Bo, me_B1]; exact h6
  · intro x hx
    show _ = nI (ws_up (ws_kd s) (ws_md s) k x)
    rw [me_Io (by omega), me_Io (by omega)]
    by_cases hxv : x = ws_md s
    · subst hxv
      rw [me_II, ws_up_s]
    · rw [me_Ii hxv, ws_up_n _ _ hxv]
      have hx2 : x < ws_md s + 1 := hx
      exact h7 x (by omega)
  · simp (disch := omega) only [me_II, me_Ii, me_Io, me_I2, me_L1, me_Li, me_LL, me_Lo, me_As, me_Ao, me_A2, me_Bs, me_Bo, me_B1]; exact h8
  · intro x hx
    show _ = nI (ws_up (ws_by s) (ws_md s) 0 x)
    rw [me_Io (by omega)]
    by_cases hxv : x = ws_md s
    · subst hxv
      rw [me_II, ws_up_s]
      rfl
    · rw [me_Ii hxv, ws_up_n _ _ hxv, me_Io (by omega)]
      have hx2 : x < ws_md s + 1 := hx
      exact h9 x (by omega)
theorem ws_C_hold {ob : Nat → Nat} {M' : px_Mem} (hC : ws_C s o M) (hf : me_fr [o + 4, o + 6] M M') (h1 : ∀ i, i < 128 → M'.1 (o + 4) i = nI (ob i) - 1) (h2 : ∀ x, x < 200 → M'.1 (o + 6) x = nI (ws_ct ob x)) : ws_C (ws_wob s ob) o M' := by
  obtain ⟨k1, k4, k5, k6, k7, k8, k9⟩ := hC
  refine ⟨?_, ?_, ?_, h1, ?_, h2, ?_⟩
  · rw [(hf o (by simp)).1]; exact k1
  · rw [(hf (o + 1) (by simp)).1]; exact k4
  · rw [(hf (o + 2) (by simp)).1]; exact k5
  · rw [(hf (o + 5) (by simp)).1]; exact k7
  · rw [(hf (o + 7) (by simp)).1]; exact k9
/-- newObject and hold, over states -/
theorem sq_84 (ho : px_isW o) (hC : ws_C s o M) (hb : ws_md s < 200) {k : Nat} (h : ∀ M', ws_K o M M' → ws_C (ws_new s k) o M' → Q (some (.int (nI (ws_md s)))) M') : px_T 0 84 0 [some (.ref o), some (.int (nI k))] [] M Q :=
  sp_84 ho hC.1.2.1 hb (h _ (ws_K_I (ws_K_I (ws_K_I ws_K_rf (by omega) (by omega) (by omega)) (by omega) (by omega) (by omega)) (by omega) (by omega) (by omega)) (ws_C_new hC k))
theorem sq_85 (ho : px_isW o) (hC : ws_C s o M) {p k v : Nat} (hp : p < 16) (hk : k < 8) (hv : v ≤ 200) (hb : ∀ i, i < 128 → ws_ob s i ≤ 200) (h : ∀ M', ws_K o M M' → ws_C (ws_hold s (8 * p + k) v) o M' → Q none M') : px_T 0 85 0 [some (.ref o), some (.int (nI p)), some (.int (nI k)), some (.int (nI v - 1)), none] [] M Q :=
  sp_85 ho hp hk hv hC.2.2.2.1 hb hC.2.2.2.2.2.1 (fun M' k1 k2 k3 => h M' (ws_K_fr k1) (ws_C_hold hC k1 k2 k3))
theorem sq_68 (ho : px_isW o) (hC : ws_C s o M) {p k : Nat} (hp : p < 16) (hk : k < 8) (h : Q (some (.int (nI (ws_ob s (8 * p + k)) - 1))) M) : px_T 0 68 0 [some (.ref o), some (.int (nI p)), some (.int (nI k)), none] [] M Q :=
  sp_68 ho hp hk (by rw [hC.2.2.2.1 (8 * p + k) (by omega)]; exact h)
theorem sp_2 {e : ws_E} (he : iv_ok e) (h : Q (some (.int (nI e.1))) M) : px_T 0 2 0 [some (.int (nI (iv_pk e)))] [] M Q := by
  refine sg_2_0 ?_
  have hb := iv_okb he
  have e1 : iv_pk e % 16 = e.1 := by
    unfold iv_pk
    omega
  rw [il_15, in_m15, e1]
  exact h
theorem sp_3a {e : ws_E} (he : iv_ok e) (h : Q (some (.int (nI e.2.1))) M) : px_T 0 3 0 [some (.int (nI (iv_pk e))), some (.int 1)] [] M Q := by
  refine sg_3_0 (fun c => absurd c (by decide)) (fun _ => ?_)
  have hb := iv_okb he
  have hk := iv_pkb he
  have e1 : iv_pk e / 2 ^ 4 % 16 = e.2.1 := by
    unfold iv_pk
    omega
  rw [show (4 : Int32) * 1 = nI 4 from by decide, in_shr (by omega) (by omega), il_15, in_m15, e1]
  exact h
theorem sp_3b {e : ws_E} (he : iv_ok e) (h : Q (some (.int (nI e.2.2.1))) M) : px_T 0 3 0 [some (.int (nI (iv_pk e))), some (.int 2)] [] M Q := by
  refine sg_3_0 (fun c => absurd c (by decide)) (fun _ => ?_)
  have hb := iv_okb he
  have hk := iv_pkb he
  have e1 : iv_pk e / 2 ^ 8 % 16 = e.2.2.1 := by
    unfold iv_pk
    omega
  rw [show (4 : Int32) * 2 = nI 8 from by decide, in_shr (by omega) (by omega), il_15, in_m15, e1]
  exact h
theorem sp_3c {e : ws_E} (he : iv_ok e) (h : Q (some (.int (nI e.2.2.2))) M) : px_T 0 3 0 [some (.int (nI (iv_pk e))), some (.int 3)] [] M Q := by
  refine sg_3_0 (fun _ => ?_) (fun c => absurd rfl c)
  have hb := iv_okb he
  have hk := iv_pkb he
  have e1 : iv_pk e / 2 ^ 12 % 32 = e.2.2.2 := by
    unfold iv_pk
    omega
  rw [show (4 : Int32) * 3 = nI 12 from by decide, in_shr (by omega) (by omega), il_31, in_m31, e1]
  exact h
theorem sp_71 (ho : px_isW o) (hC : ws_C s o M) (hW : ws_W s) (hm : ws_md s ≤ 200) {a : Nat} (ha : a < ws_md s) (h : Q (some (.int (if ws_kd s a = 1 then nI a else if ws_kd s a = 2 then nI (a - 1) else -1))) M) : px_T 0 71 0 [some (.ref o), some (.int (nI a))] [] M Q := by
  obtain ⟨⟨_, hmd, _⟩, _, _, _, hkd, _, _⟩ := hC
  have k1 := hkd a ha
  obtain ⟨w1, w2, w3⟩ := hW.2.2.2.2.2.2.1 a ha
  refine sg_71_0 ho (fun c1 => by exfalso; (try simp (disch := omega) only [in_lt, in_le, in_eq, in_add, in_mul, in_sb, in_cl, in_bz, in_bo, in_mo, il_0, il_1, il_2, il_3, il_4, il_5, il_6, il_7, il_8, il_9, il_10, il_11, il_12, il_13, il_14, il_15, il_16, il_31, k1, hmd] at c1) <;> omega) (fun c1 c2 => by (try simp (disch := omega) only [in_lt, in_le, in_eq, in_add, in_mul, in_sb, in_cl, in_bz, in_bo, in_mo, il_0, il_1, il_2, il_3, il_4, il_5, il_6, il_7, il_8, il_9, il_10, il_11, il_12, il_13, il_14, il_15, il_16, il_31, k1, hmd] at c1 c2 ⊢) <;> exact me_vin (by omega) (by omega)) (fun c1 c2 c3 c4 c5 c6 => by exfalso; (try simp (disch := omega) only [in_lt, in_le, in_eq, in_add, in_mul, in_sb, in_cl, in_bz, in_bo, in_mo, il_0, il_1, il_2, il_3, il_4, il_5, il_6, il_7, il_8, il_9, il_10, il_11, il_12, il_13, il_14, il_15, il_16, il_31, k1, hmd] at c1 c2 c3 c4 c5 c6) <;> omega) (fun c1 c2 c3 c4 c5 c6 => by exfalso; (try simp (disch := omega) only [in_lt, in_le, in_eq, in_add, in_mul, in_sb, in_cl, in_bz, in_bo, in_mo, il_0, il_1, il_2, il_3, il_4, il_5, il_6, il_7, il_8, il_9, il_10, il_11, il_12, il_13, il_14, il_15, il_16, il_31, k1, hmd] at c1 c2 c3 c4 c5 c6) <;> omega) (fun c1 c2 c3 c4 c5 => by exfalso; (try simp (disch := omega) only [in_lt, in_le, in_eq, in_add, in_mul, in_sb, in_cl, in_bz, in_bo, in_mo, il_0, il_1, il_2, il_3, il_4, il_5, il_6, il_7, il_8, il_9, il_10, il_11, il_12, il_13, il_14, il_15, il_16, il_31, k1, hmd] at c1 c2 c3 c4 c5) <;> omega) (fun c1 c2 c3 c4 => ?_) (fun c1 c2 c3 c4 c5 => by exfalso; (try simp (disch := omega) only [in_lt, in_le, in_eq, in_add, in_mul, in_sb, in_cl, in_bz, in_bo, in_mo, il_0, il_1, il_2, il_3, il_4, il_5, il_6, il_7, il_8, il_9, il_10, il_11, il_12, il_13, il_14, il_15, il_16, il_31, k1, hmd] at c1 c2 c3 c4 c5) <;> omega) (fun c1 c2 c3 c4 c5 => ?_) (fun c1 c2 c3 c4 => ?_) (fun c1 c2 => by exfalso; (try simp (disch := omega) only [in_lt, in_le, in_eq, in_add, in_mul, in_sb, in_cl, in_bz, in_bo, in_mo, il_0, il_1, il_2, il_3, il_4, il_5, il_6, il_7, il_8, il_9, il_10, il_11, il_12, il_13, il_14, il_15, il_16, il_31, k1, hmd] at c1 c2) <;> omega)
  · simp (disch := omega) only [in_lt, in_le, in_eq, in_add, in_mul, in_sb, in_cl, in_bz, in_bo, in_mo, il_0, il_1, il_2, il_3, il_4, il_5, il_6, il_7, il_8, il_9, il_10, il_11, il_12, il_13, il_14, il_15, il_16, il_31, k1, hmd] at c3
    rw [if_pos c3] at h
    exact h
  · simp (disch := omega) only [in_lt, in_le, in_eq, in_add, in_mul, in_sb, in_cl, in_bz, in_bo, in_mo, il_0, il_1, il_2, il_3, il_4, il_5, il_6, il_7, il_8, il_9, il_10, il_11, il_12, il_13, il_14, il_15, il_16, il_31, k1, hmd] at c3 c4 c5
    rw [if_neg c3, if_pos c4] at h
    rw [in_s1 (by omega)]
    exact h
  · simp (disch := omega) only [in_lt, in_le, in_eq, in_add, in_mul, in_sb, in_cl, in_bz, in_bo, in_mo, il_0, il_1, il_2, il_3, il_4, il_5, il_6, il_7, il_8, il_9, il_10, il_11, il_12, il_13, il_14, il_15, il_16, il_31, k1, hmd] at c3 c4
    rw [if_neg c3, if_neg c4] at h
    exact h
theorem sp_75 (ho : px_isW o) (hC : ws_C s o M) (hW : ws_W s) {law p a b : Nat} (h1 : 1 ≤ p) (h2 : p ≤ 15) (hal : (ws_al s).testBit p = true) (h : ∀ M', ws_P law s (1, p, a, b) o M M' → Q (some (.int (nI (ws_why s (1, p, a, b))))) M') : px_T 0 75 0 [some (.ref o), some (.int (nI p))] [] M Q := by
  have hw : ws_why s (1, p, a, b) = if ws_se s p = p then 2 else 0 := by simp [ws_why, hal]
  have hs := hC.2.2.1 p (by omega)
  have hb := hW.2.2.1 p
  refine sg_75_0 ho (by (try simp (disch := omega) only [in_lt, in_le, in_eq, in_add, in_mul, in_sb, in_cl, in_bz, in_bo, in_mo, il_0, il_1, il_2, il_3, il_4, il_5, il_6, il_7, il_8, il_9, il_10, il_11, il_12, il_13, il_14, il_15, il_16, il_31, hs] at ⊢) <;> exact me_vin (by omega) (by omega)) (fun c1 => ?_) (fun c1 => ?_)
  · simp (disch := omega) only [in_lt, in_le, in_eq, in_add, in_mul, in_sb, in_cl, in_bz, in_bo, in_mo, il_0, il_1, il_2, il_3, il_4, il_5, il_6, il_7, il_8, il_9, il_10, il_11, il_12, il_13, il_14, il_15, il_16, il_31, hs] at c1
    exact ws_no h hC (hw.trans (if_pos c1)) (by decide)
  · simp (disch := omega) only [in_lt, in_le, in_eq, in_add, in_mul, in_sb, in_cl, in_bz, in_bo, in_mo, il_0, il_1, il_2, il_3, il_4, il_5, il_6, il_7, il_8, il_9, il_10, il_11, il_12, il_13, il_14, il_15, il_16, il_31, hs] at c1
    rw [in_cl (by omega)]
    exact ws_doK h (hw.trans (if_neg c1)) (ws_K_I ws_K_rf (by omega) (by omega) (by omega)) (ws_C_se hC p p) (by decide) (by decide)
theorem sp_78 (ho : px_isW o) (hC : ws_C s o M) (hW : ws_W s) (hm : ws_md s < 200) {law p a b : Nat} (h2 : p ≤ 15) (ha : a ≤ 7) (hal : (ws_al s).testBit p = true) (h : ∀ M', ws_P law s (3, p, a, b) o M M' → Q (some (.int (nI (ws_why s (3, p, a, b))))) M') : px_T 0 78 0 [some (.ref o), some (.int (nI p)), some (.int (nI a))] [] M Q := by
  have hu := hW.2.2.2.2.1 (8 * p + a)
  have hob := hW.2.2.2.2.1
  refine sg_78_0 ho (sq_68 ho hC (by omega) (by omega) ?_)
  refine sg_78_6 ho (fun c1 => ?_) (fun c1 => ?_)
  · rw [in_om0 (by omega)] at c1
    refine sq_84 (k := 0) ho hC hm (fun M1 k1 c1' => ?_)
    refine sg_78_19 ho ?_
    rw [← nI_pred (ws_md s)]
    refine sq_85 (v := ws_md s + 1) ho c1' (by omega) (by omega) (by omega) (fun i _ => by have := hob i; show ws_ob s i ≤ 200; omega) (fun M2 k2 c2' => ?_)
    refine sg_78_22 ?_
    exact ws_doK h (by simp [ws_why, hal, ws_hw, c1]) (ws_K_tr k1 k2) c2' (by decide) (by decide)
  · rw [in_om0 (by omega)] at c1
    exact ws_no h hC (by simp [ws_why, hal, ws_hw, c1]) (by decide)
theorem sp_79 (ho : px_isW o) (hC : ws_C s o M) (hW : ws_W s) (hm : ws_md s + 1 < 200) {law p a b : Nat} (h2 : p ≤ 15) (ha : a ≤ 7) (hb : b ≤ 7) (hal : (ws_al s).testBit p = true) (h : ∀ M', ws_P law s (4, p, a, b) o M M' → Q (some (.int (nI (ws_why s (4, p, a, b))))) M') : px_T 0 79 0 [some (.ref o), some (.int (nI p)), some (.int (nI a)), some (.int (nI b))] [] M Q := by
  have hu := hW.2.2.2.2.1 (8 * p + a)
  have hv := hW.2.2.2.2.1 (8 * p + b)
  have hob := hW.2.2.2.2.1
  refine sg_79_0 ho (fun c1 => ?_) (fun c1 => ?_)
  · simp (disch := omega) only [in_lt, in_le, in_eq, in_add, in_mul, in_sb, in_cl, in_bz, in_bo, in_mo, il_0, il_1, il_2, il_3, il_4, il_5, il_6, il_7, il_8, il_9, il_10, il_11, il_12, il_13, il_14, il_15, il_16, il_31] at c1
    exact ws_no h hC (by simp [ws_why, hal, ws_hw, c1]) (by decide)
  simp (disch := omega) only [in_lt, in_le, in_eq, in_add, in_mul, in_sb, in_cl, in_bz, in_bo, in_mo, il_0, il_1, il_2, il_3, il_4, il_5, il_6, il_7, il_8, il_9, il_10, il_11, il_12, il_13, il_14, il_15, il_16, il_31] at c1
  refine sq_68 ho hC (by omega) (by omega) ?_
  refine sg_79_11 ho (fun c2 => ?_) (fun c2 => ?_)
  · simp (disch := omega) only [in_lt, in_le, in_eq, in_add, in_mul, in_sb, in_cl, in_bz, in_bo, in_mo, il_0, il_1, il_2, il_3, il_4, il_5, il_6, il_7, il_8, il_9, il_10, il_11, il_12, il_13, il_14, il_15, il_16, il_31, in_omg] at c2
    exact ws_no h hC (by simp [ws_why, hal, ws_hw, c2]) (by decide)
  simp (disch := omega) only [in_lt, in_le, in_eq, in_add, in_mul, in_sb, in_cl, in_bz, in_bo, in_mo, il_0, il_1, il_2, il_3, il_4, il_5, il_6, il_7, il_8, il_9, il_10, il_11, il_12, il_13, il_14, il_15, il_16, il_31, in_omg] at c2
  refine sq_68 ho hC (by omega) (by omega) ?_
  refine sg_79_20 ho (fun c3 => ?_) (fun c3 => ?_)
  · rw [in_om0 (by omega)] at c3
    refine sq_84 (k := 1) ho hC (by omega) (fun M1 k1 d1 => ?_)
    refine sg_79_33 ho ho ?_
    rw [← nI_pred (ws_md s)]
    refine sq_85 (v := ws_md s + 1) ho d1 (by omega) (by omega) (by omega) (fun i _ => by have := hob i; show ws_ob s i ≤ 200; omega) (fun M2 k2 d2 => ?_)
    refine sg_79_36 ho ?_
    refine sq_84 (k := 2) ho d2 hm (fun M3 k3 d3 => ?_)
    refine sg_79_44 ho ?_
    show px_T 0 85 0 [some (.ref o), some (.int (nI p)), some (.int (nI b)), some (.int (nI (ws_md s + 1))), none] [] M3 _
    rw [← nI_pred (ws_md s + 1)]
    refine sq_85 (v := ws_md s + 2) ho d3 (by omega) (by omega) (by omega) (fun i _ => ?_) (fun M4 k4 d4 => ?_)
    · show ws_up (ws_ob s) (8 * p + a) (ws_md s + 1) i ≤ 200
      unfold ws_up
      have := hob i
      split <;> omega
    refine sg_79_47 ?_
    exact ws_doK h (by simp [ws_why, hal, ws_hw, c1, c2, c3]) (ws_K_tr (ws_K_tr k1 k2) (ws_K_tr k3 k4)) d4 (by decide) (by decide)
  · rw [in_om0 (by omega)] at c3
    exact ws_no h hC (by simp [ws_why, hal, ws_hw, c3]) (by decide)
theorem sp_80 (ho : px_isW o) (hC : ws_C s o M) (hW : ws_W s) (hm : ws_md s ≤ 200) {law p a b : Nat} (h2 : p ≤ 15) (ha : a ≤ 7) (hb : b ≤ 7) (hal : (ws_al s).testBit p = true) (h : ∀ M', ws_P law s (5, p, a, b) o M M' → Q (some (.int (nI (ws_why s (5, p, a, b))))) M') : px_T 0 80 0 [some (.ref o), some (.int (nI p)), some (.int (nI a)), some (.int (nI b))] [] M Q := by
  have hu := hW.2.2.2.2.1 (8 * p + a)
  have hv := hW.2.2.2.2.1 (8 * p + b)
  have hob := hW.2.2.2.2.1
  refine sg_80_0 ho (sq_68 ho hC (by omega) (by omega) ?_)
  refine sg_80_6 ho (fun c1 => ?_) (fun c1 => ?_)
  · rw [in_om0 (by omega)] at c1
    exact ws_no h hC (by simp [ws_why, hal, ws_hw, c1]) (by decide)
  rw [in_om0 (by omega)] at c1
  refine sq_68 ho hC (by omega) (by omega) ?_
  refine sg_80_15 ho (fun c2 => ?_) (fun c2 => ?_)
  · rw [in_om0 (by omega)] at c2
    refine sq_68 ho hC (by omega) (by omega) ?_
    refine sg_80_29 ho ?_
    refine sq_85 ho hC (by omega) (by omega) (by omega) (fun i _ => by have := hob i; omega) (fun M2 k2 d2 => ?_)
    refine sg_80_32 ?_
    exact ws_doK h (by simp [ws_why, hal, ws_hw, c1, c2]) k2 d2 (by decide) (by decide)
  · rw [in_om0 (by omega)] at c2
    exact ws_no h hC (by simp [ws_why, hal, ws_hw, c2]) (by decide)
theorem sp_81 (ho : px_isW o) (hC : ws_C s o M) (hW : ws_W s) (hm : ws_md s ≤ 200) {law p a b : Nat} (h2 : p ≤ 15) (ha : a ≤ 7) (hal : (ws_al s).testBit p = true) (h : ∀ M', ws_P law s (6, p, a, b) o M M' → Q (some (.int (nI (ws_why s (6, p, a, b))))) M') : px_T 0 81 0 [some (.ref o), some (.int (nI p)), some (.int (nI a))] [] M Q := by
  have hu := hW.2.2.2.2.1 (8 * p + a)
  have hob := hW.2.2.2.2.1
  refine sg_81_0 ho (sq_68 ho hC (by omega) (by omega) ?_)
  refine sg_81_6 ho (fun c1 => ?_) (fun c1 => ?_)
  · simp (disch := omega) only [in_lt, in_le, in_eq, in_add, in_mul, in_sb, in_cl, in_bz, in_bo, in_mo, il_0, il_1, il_2, il_3, il_4, il_5, il_6, il_7, il_8, il_9, il_10, il_11, il_12, il_13, il_14, il_15, il_16, il_31, in_omg] at c1
    refine sq_85 (v := 0) ho hC (by omega) (by omega) (by omega) (fun i _ => by have := hob i; omega) (fun M2 k2 d2 => ?_)
    refine sg_81_18 ?_
    exact ws_doK h (by simp [ws_why, hal, ws_hw, c1]) k2 d2 (by decide) (by decide)
  · simp (disch := omega) only [in_lt, in_le, in_eq, in_add, in_mul, in_sb, in_cl, in_bz, in_bo, in_mo, il_0, il_1, il_2, il_3, il_4, il_5, il_6, il_7, il_8, il_9, il_10, il_11, il_12, il_13, il_14, il_15, il_16, il_31, in_omg] at c1
    have c2 : ws_ob s (8 * p + a) = 0 := by omega
    exact ws_no h hC (by simp [ws_why, hal, ws_hw, c2]) (by decide)
end W36
