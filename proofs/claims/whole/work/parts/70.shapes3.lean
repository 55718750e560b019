/-! shapes: the reference -/
def ls_fr (t : Nat) (M M' : px_Mem) : Prop := (∀ a, a ≠ 56 → a ≠ 82 → a ≠ 83 → a ≠ 84 → M'.1 a = M.1 a) ∧ (∀ i, i ≠ 41 → M'.1 56 i = M.1 56 i) ∧ M'.2 = M.2 ∧ ∀ j, (j < 510 * t ∨ 510 * t + 510 ≤ j) → M'.1 84 j = M.1 84 j
def ls_P (t : Nat) (s : ws_S) (M : px_Mem) (J : Nat) (N : px_Mem) : Prop := ls_fr t M N ∧ lb_r 120 s N ∧ ∀ j, j < J → N.1 84 (510 * t + j) = shr s j
/-- rows of all ticks -/
def SR (y : iv_Y) (k : Nat) (M : px_Mem) : Prop := ∀ t, t < k → ∀ j, j < 510 → M.1 84 (510 * t + j) = shr (iv_rn y t) j
section R70
variable {M : px_Mem} {Q : px_Po} {y : iv_Y} {s : ws_S}
theorem ls_rq {t : Nat} {M1 : px_Mem} (h : ls_fr t M M1) : rq M M1 := ⟨fun a h1 h2 => h.1 a h2 (by omega) (by omega) (by omega), fun a _ => by rw [h.2.2.1], fun i hi => h.2.1 i (by omega)⟩
theorem ls_w {t J : Nat} {N : px_Mem} {v : Int32} (P : ls_P t s M J N) (hJ : J < 510) (hv : v = shr s J) : ls_P t s M (J + 1) (px_wI N 84 (510 * t + J) v) := by
  obtain ⟨⟨f1, f2, f3, f4⟩, ⟨l1, l2, l3⟩, r⟩ := P
  refine ⟨⟨fun a a1 a2 a3 a4 => ?_, fun i hi => ?_, f3, fun j hj => ?_⟩, ⟨?_, fun o ho => ?_, fun l hl => ?_⟩, fun j hj => ?_⟩
  · rw [me_Io a4]
    exact f1 a a1 a2 a3 a4
  · rw [me_Io (by omega)]
    exact f2 i hi
  · rw [me_Ii (by omega)]
    exact f4 j hj
  · rw [me_Io (by omega)]
    exact l1
  · rw [me_Io (by omega)]
    exact l2 o ho
  · rw [me_Io (by omega)]
    exact l3 l hl
  · by_cases e : j = J
    · subst e
      rw [me_II, hv]
    · rw [me_Ii (by omega)]
      exact r j (by omega)
theorem sr_259 {t : Nat} (ht : t ≤ 72) (hA : rt_at s t M) (hK : ∀ x, x < ws_md s → M.1 71 x = nI (ws_kd s x)) (hW : ws_W s) (hm : ws_md s ≤ 140) (h : ∀ M', ls_fr t M M' → (∀ j, j < 510 → M'.1 84 (510 * t + j) = shr s j) → Q none M') : px_T 0 259 0 [some (.ref 56), some (.int (nI t)), none, none, none, none, none] [] M Q := by
  have ha := hW.1.1
  have hz := sh_szb (s := s)
  have kA : ∀ {J : Nat} {N : px_Mem}, ls_P t s M J N → rt_at s t N := fun P => rt_at_fr hA (fun a h1 h2 => P.1.1 a (by omega) (by omega) (by omega) (by omega))
  have kK : ∀ {J : Nat} {N : px_Mem}, ls_P t s M J N → ∀ x, x < ws_md s → N.1 71 x = nI (ws_kd s x) := fun P x hx => by rw [P.1.1 71 (by omega) (by omega) (by omega) (by omega)]; exact hK x hx
  -- the objects
  have l2 : ∀ (g l : Nat) (N : px_Mem) (d4 d5 d6 : Option Value), l + g = 120 → ls_P t s M (150 + 3 * l) N → px_T 0 259 112 [some (.ref 56), some (.int (nI t)), some (.int (nI (510 * t + (150 + 3 * l)))), some (.int (nI l)), d4, d5, d6] [] N Q := by
    intro g
    induction g with
    | zero =>
      intro l N d4 d5 d6 hl P
      have e : l = 120 := by omega
      subst e
      have q : ∀ {X : Prop}, (¬ (120 : Int32) ≤ nI 120) → X := fun c => absurd (by decide) c
      exact sg_259_112 (fun _ => h N P.1 P.2.2) (fun c => q c) (fun c => q c) (fun c => q c) (fun c => q c) (fun c => q c) (fun c => q c) (fun c => q c) (fun c => q c) (fun c => q c) (fun c => q c)
    | succ g ih =>
      intro l N d4 d5 d6 hl P
      have L := P.2.1
      have f41 : N.1 56 41 = nI (sh_sz s) := L.1
      have e0 : shr s (150 + 3 * l) = sho s l 0 := shr_o (l := l) (r := 0) (by omega)
      have e1 : shr s (150 + 3 * l + 1) = sho s l 1 := shr_o (by omega)
      have e2 : shr s (150 + 3 * l + 2) = sho s l 2 := shr_o (by omega)
      have i1 : nI (510 * t + (150 + 3 * l)) + 1 = nI (510 * t + (150 + 3 * l + 1)) := by rw [in_a1]; rfl
      have i2 : nI (510 * t + (150 + 3 * l)) + 2 = nI (510 * t + (150 + 3 * l + 2)) := by rw [il_2, in_add]; rfl
      have i3 : nI (510 * t + (150 + 3 * l)) + 3 = nI (510 * t + (150 + 3 * (l + 1))) := by rw [il_3, in_add]; rfl
      have v0 : vp_in (nI (510 * t + (150 + 3 * l))) 37230 := me_vin (by omega) (by omega)
      have v1 : vp_in (nI (510 * t + (150 + 3 * l)) + 1) 37230 := by rw [i1]; exact me_vin (by omega) (by omega)
      have v2 : vp_in (nI (510 * t + (150 + 3 * l)) + 2) 37230 := by rw [i2]; exact me_vin (by omega) (by omega)
      have h120 : ¬ (120 : Int32) ≤ nI l := by rw [show (120 : Int32) = nI 120 from rfl, in_le (by omega) (by omega)]; omega
      by_cases c : l < sh_sz s
      · have hle : ¬ N.1 56 41 ≤ nI l := by rw [f41, in_le (by omega) (by omega)]; omega
        have fm : N.1 83 l = nI (sh_mt s l) := L.2.2 l c
        have hmt := sh_mtb hW c
        have fk : N.1 71 (sh_mt s l) = nI (ws_kd s (sh_mt s l)) := kK P _ hmt
        have hkb := kd_b hW c
        obtain ⟨w1, w2, w3⟩ := hW.2.2.2.2.2.2.1 _ hmt
        rw [sho_y c] at e0 e1 e2
        rw [if_pos rfl] at e0
        rw [if_neg (show ¬ (1 : Nat) = 0 by decide), if_pos (show (1 : Nat) = 1 from rfl)] at e1
        rw [if_neg (show ¬ (2 : Nat) = 0 by decide), if_neg (show ¬ (2 : Nat) = 1 by decide)] at e2
        have fin : ∀ (N2 : px_Mem) (x6 : Int32), ls_P t s M (150 + 3 * l + 1) N2 → x6 = shr s (150 + 3 * l + 2) → px_T 0 259 225 [some (.ref 56), some (.int (nI t)), some (.int (nI (510 * t + (150 + 3 * l)))), some (.int (nI l)), some (.int 1), some (.int (nI (sh_mt s l))), some (.int x6)] [] N2 Q := by
          intro N2 x6 P2 hx6
          refine sg_259_225 (fun q => absurd q (by decide)) (fun q => absurd q (by decide)) (fun q => absurd q (by decide)) (fun _ => ?_)
          refine sr_253 (kA P2) (kK P2) hW hm ht (by omega) (sg_259_244 v1 v2 ?_)
          rw [i1, i2, i3, in_cl (by omega), in_cl (by omega), in_a1]
          exact ih (l + 1) _ _ _ _ (by omega) (ls_w (J := 150 + 3 * l + 2) (ls_w (J := 150 + 3 * l + 1) P2 (by omega) e1.symm) (by omega) hx6)
        by_cases k0 : ws_kd s (sh_mt s l) = 0
        · have hk : N.1 71 ((N.1 83 (nI l).toNatClampNeg).toNatClampNeg) = 0 := by rw [in_cl (by omega), fm, in_cl (by omega), fk, k0]; rfl
          refine sg_259_112 (fun q => absurd q h120) (fun _ q => absurd q hle) (fun _ q => absurd q hle) (fun _ _ => me_vin (by omega) (by omega)) (fun _ _ => by rw [in_cl (by omega), fm]; exact me_vin (by omega) (by omega)) (fun _ _ _ => v0) (fun _ _ _ => ?_) (fun _ _ q => absurd hk q) (fun _ _ q => absurd hk q) (fun _ _ q => absurd hk q) (fun _ _ q => absurd hk q)
          rw [in_cl (show l < 2 ^ 31 by omega), fm, in_cl (show sh_mt s l < 2 ^ 31 by omega), fk, in_cl (by omega)]
          exact fin _ _ (ls_w P (by omega) e0.symm) (by rw [e2, if_pos k0])
        · have hk : ¬ N.1 71 ((N.1 83 (nI l).toNatClampNeg).toNatClampNeg) = 0 := by rw [in_cl (by omega), fm, in_cl (by omega), fk, show (0 : Int32) = nI 0 from rfl, in_eq (by omega) (by omega)]; exact k0
          have hoe := (vl_mt hW c k0).2.2
          have flb : N.1 82 (sh_oe s (sh_mt s l)) = nI (sh_lb s (sh_oe s (sh_mt s l))) - 1 := L.2.1 _ (by omega)
          have hc203 : ∀ x6 : Int32, x6 = shr s (150 + 3 * l + 2) → px_T 0 259 203 [some (.ref 56), some (.int (nI t)), some (.int (nI (510 * t + (150 + 3 * l)))), some (.int (nI l)), some (.int 1), some (.int (nI (sh_mt s l))), some (.int x6)] [] N Q := by
            intro x6 hx6
            refine sg_259_203 (fun q => absurd q (by decide)) (fun q => absurd q (by decide)) (fun _ => me_vin (by omega) (by omega)) (fun _ => v0) (fun _ => ?_)
            rw [in_cl (by omega), in_cl (by omega), fk]
            exact fin _ _ (ls_w P (by omega) e0.symm) hx6
          rw [if_neg k0] at e2
          by_cases k1 : ws_kd s (sh_mt s l) = 1
          · have hk1 : N.1 71 ((N.1 83 (nI l).toNatClampNeg).toNatClampNeg) = 1 := by rw [in_cl (by omega), fm, in_cl (by omega), fk, k1]; rfl
            have ho : sh_oe s (sh_mt s l) = sh_mt s l + 1 := by unfold sh_oe; rw [if_pos k1]
            refine sg_259_112 (fun q => absurd q h120) (fun _ q => absurd q hle) (fun _ q => absurd q hle) (fun _ _ => me_vin (by omega) (by omega)) (fun _ _ => by rw [in_cl (by omega), fm]; exact me_vin (by omega) (by omega)) (fun _ _ q => absurd q hk) (fun _ _ q => absurd q hk) (fun _ _ _ _ => by rw [in_cl (by omega), fm, in_a1]; exact me_vin (by omega) (by omega)) (fun _ _ _ _ => ?_) (fun _ _ _ q => absurd hk1 q) (fun _ _ _ q => absurd hk1 q)
            rw [in_cl (show l < 2 ^ 31 by omega), fm, in_a1, in_cl (by omega)]
            exact hc203 _ (by rw [e2, ← flb, ho])
          · have k2 : ws_kd s (sh_mt s l) = 2 := by omega
            have h1 := (w3 k2).1
            have hk1 : ¬ N.1 71 ((N.1 83 (nI l).toNatClampNeg).toNatClampNeg) = 1 := by rw [in_cl (by omega), fm, in_cl (by omega), fk, show (1 : Int32) = nI 1 from rfl, in_eq (by omega) (by omega)]; exact k1
            have ho : sh_oe s (sh_mt s l) = sh_mt s l - 1 := by unfold sh_oe; rw [if_neg k1]
            refine sg_259_112 (fun q => absurd q h120) (fun _ q => absurd q hle) (fun _ q => absurd q hle) (fun _ _ => me_vin (by omega) (by omega)) (fun _ _ => by rw [in_cl (by omega), fm]; exact me_vin (by omega) (by omega)) (fun _ _ q => absurd q hk) (fun _ _ q => absurd q hk) (fun _ _ _ q => absurd q hk1) (fun _ _ _ q => absurd q hk1) (fun _ _ _ _ => by rw [in_cl (by omega), fm, in_s1 h1]; exact me_vin (by omega) (by omega)) (fun _ _ _ _ => ?_)
            rw [in_cl (show l < 2 ^ 31 by omega), fm, in_s1 h1, in_cl (by omega)]
            exact hc203 _ (by rw [e2, ← flb, ho])
      · have hle : N.1 56 41 ≤ nI l := by rw [f41, in_le (by omega) (by omega)]; omega
        rw [sho_n c] at e0 e1 e2
        refine sg_259_112 (fun q => absurd q h120) (fun _ _ => v0) (fun _ _ => ?_) (fun _ q => absurd hle q) (fun _ q => absurd hle q) (fun _ q => absurd hle q) (fun _ q => absurd hle q) (fun _ q => absurd hle q) (fun _ q => absurd hle q) (fun _ q => absurd hle q) (fun _ q => absurd hle q)
        refine sg_259_225 (fun _ => v1) (fun _ => v2) (fun _ => ?_) (fun q => absurd rfl q)
        rw [i1, i2, i3, in_cl (by omega), in_cl (by omega), in_cl (by omega), in_a1]
        exact ih (l + 1) _ _ _ _ (by omega) (ls_w (J := 150 + 3 * l + 2) (ls_w (J := 150 + 3 * l + 1) (ls_w (J := 150 + 3 * l) P (by omega) e0.symm) (by omega) e1.symm) (by omega) e2.symm)
  -- the processes
  have l1 : ∀ (g q : Nat) (N : px_Mem) (d4 d5 d6 : Option Value), q + g = 15 → ls_P t s M (10 * q) N → px_T 0 259 13 [some (.ref 56), some (.int (nI t)), some (.int (nI (510 * t + 10 * q))), some (.int (nI (q + 1))), d4, d5, d6] [] N Q := by
    intro g
    induction g with
    | zero =>
      intro q N d4 d5 d6 hq P
      have e : q = 15 := by omega
      subst e
      exact sg_259_13 (fun _ => l2 120 0 N _ _ _ (by omega) P) (fun c => absurd (by decide) c)
    | succ g ih =>
      intro q N d4 d5 d6 hq P
      have i1 : nI (510 * t + 10 * q) + 1 = nI (510 * t + (10 * q + 1)) := by rw [in_a1]; rfl
      have i10 : nI (510 * t + 10 * q) + 10 = nI (510 * t + 10 * (q + 1)) := by rw [il_10, in_add]; congr 1
      refine sg_259_13 (fun c1 => by exfalso; (try simp (disch := omega) only [in_lt, in_le, in_eq, in_add, in_mul, in_sb, in_cl, in_bz, in_bo, in_mo, not_true_eq_false, not_false_eq_true, il_0, il_1, il_2, il_3, il_4, il_5, il_6, il_7, il_8, il_9, il_10, il_11, il_12, il_13, il_14, il_15, il_16, il_31] at c1) <;> omega) (fun c1 => ?_)
      refine sr_228 (kA P) ha ht (by omega) (sg_259_30 (me_vin (by omega) (by omega)) ?_)
      rw [in_cl (by omega)]
      have P1 := ls_w P (by omega) (shr_pa (s := s) (q := q) (by omega)).symm
      refine sr_229 (kA P1) ha ht (by omega) ?_
      rw [i1]
      refine sg_259_44 (me_vin (by omega) (by omega)) ?_
      rw [in_cl (by omega)]
      have P2 := ls_w P1 (by omega) (shr_se (s := s) (q := q) (by omega)).symm
      have l3 : ∀ (f k : Nat) (N2 : px_Mem), k + f = 8 → ls_P t s M (10 * q + 2 + k) N2 → px_T 0 259 48 [some (.ref 56), some (.int (nI t)), some (.int (nI (510 * t + 10 * q))), some (.int (nI (q + 1))), some (.int (nI k)), d5, d6] [] N2 Q := by
        intro f
        induction f with
        | zero =>
          intro k N2 hk P3
          have e : k = 8 := by omega
          subst e
          refine sg_259_48 (fun _ => ?_) (fun c => absurd (by decide) c)
          rw [i10, in_a1]
          exact ih (q + 1) N2 _ _ _ (by omega) P3
        | succ f ih2 =>
          intro k N2 hk P3
          have hob := hW.2.2.2.2.1 (8 * (q + 1) + k)
          have ix : (nI (510 * t + 10 * q) + 2) + nI k = nI (510 * t + (10 * q + 2 + k)) := by rw [il_2, in_add, in_add]; congr 1; omega
          have er := shr_la (s := s) (q := q) (k := k) (by omega) (by omega)
          have ela : sh_la s (8 * (q + 1) + k) = if ws_ob s (8 * (q + 1) + k) = 0 then 0 else sh_lb s (ws_ob s (8 * (q + 1) + k) - 1) := rfl
          refine sg_259_48 (fun c1 => by exfalso; (try simp (disch := omega) only [in_lt, in_le, in_eq, in_add, in_mul, in_sb, in_cl, in_bz, in_bo, in_mo, not_true_eq_false, not_false_eq_true, il_0, il_1, il_2, il_3, il_4, il_5, il_6, il_7, il_8, il_9, il_10, il_11, il_12, il_13, il_14, il_15, il_16, il_31] at c1) <;> omega) (fun c1 => ?_)
          refine sr_246 (kA P3) ht (by omega) (by omega) ?_
          rw [ix]
          refine sg_259_73 (fun _ => me_vin (by omega) (by omega)) (fun c => ?_) (fun c => ?_)
          · have c2 : ws_ob s (8 * (q + 1) + k) = 0 := (in_om1 (by omega)).mp c
            rw [in_cl (by omega), in_a1]
            refine ih2 (k + 1) _ (by omega) (ls_w (J := 10 * q + 2 + k) P3 (by omega) ?_)
            rw [er, ela, if_pos c2]
            rfl
          · have c2 : ¬ ws_ob s (8 * (q + 1) + k) = 0 := fun q => c ((in_om1 (by omega)).mpr q)
            refine sr_246 (kA P3) ht (by omega) (by omega) ?_
            rw [in_s1 (by omega)]
            refine sg_259_93 (me_vin (by omega) (by omega)) (me_vin (by omega) (by omega)) ?_
            rw [in_cl (by omega), in_cl (by omega), in_a1, P3.2.1.2.1 _ (by omega)]
            refine ih2 (k + 1) _ (by omega) (ls_w (J := 10 * q + 2 + k) P3 (by omega) ?_)
            rw [er, ela, if_neg c2]
            rfl
      exact l3 8 0 _ (by omega) P2
  refine sg_259_0 (sr_256 hA ht hW hm (fun M1 k1 L1 => sg_259_5 ?_))
  rw [show (510 : Int32) = nI 510 from rfl, in_mul]
  exact l1 15 0 M1 _ _ _ (by omega) ⟨⟨fun a a1 a2 a3 _ => k1.1 a a1 a2 a3, k1.2.1, k1.2.2, fun j _ => by rw [k1.1 84 (by omega) (by omega) (by omega)]⟩, L1, fun j hj => absurd hj (by omega)⟩
theorem sr_260 (hy : iv_yok y) {k a b : Nat} (hk : k ≤ iv_n y + 1) (S : SR y k M) (ha : a < k) (hb : b < k) (h : Q (some (.int (in_b (sh_eq (iv_rn y a) (iv_rn y b))))) M) : px_T 0 260 0 [some (.ref 56), some (.int (nI a)), some (.int (nI b)), none, none] [] M Q := by
  have hn := iv_yn hy
  have ia : ∀ x j : Nat, (510 : Int32) * nI x + nI j = nI (510 * x + j) := fun x j => by rw [show (510 : Int32) = nI 510 from rfl, in_mul, in_add]
  have Wa := iv_rnW hy (t := a) (by omega)
  have Wb := iv_rnW hy (t := b) (by omega)
  have no : ∀ j, j < 510 → ¬ shr (iv_rn y a) j = shr (iv_rn y b) j → sh_eq (iv_rn y a) (iv_rn y b) = false := by
    intro j hj c
    cases q : sh_eq (iv_rn y a) (iv_rn y b) with
    | false => rfl
    | true => exact absurd ((row_eq Wa Wb).mpr q j hj) c
  have hl : ∀ (g j : Nat), j + g = 510 → (∀ i, i < j → shr (iv_rn y a) i = shr (iv_rn y b) i) → px_T 0 260 5 [some (.ref 56), some (.int (nI a)), some (.int (nI b)), some (.int 1), some (.int (nI j))] [] M Q := by
    intro g
    induction g with
    | zero =>
      intro j hj hi
      have e : j = 510 := by omega
      subst e
      refine sg_260_5 (fun _ => Or.inr rfl) (fun _ => ?_) (fun c => absurd (by decide) c) (fun c => absurd (by decide) c) (fun c => absurd (by decide) c) (fun c => absurd (by decide) c) (fun c => absurd (by decide) c) (fun c => absurd (by decide) c)
      rw [(row_eq Wa Wb).mp hi] at h
      exact h
    | succ g ih =>
      intro j hj hi
      have fa := S a ha j (by omega)
      have fb := S b hb j (by omega)
      have h510 : ¬ (510 : Int32) ≤ nI j := by rw [show (510 : Int32) = nI 510 from rfl, in_le (by omega) (by omega)]; omega
      refine sg_260_5 (fun c => absurd c h510) (fun c => absurd c h510) (fun _ c => absurd c (by decide)) (fun _ c => absurd c (by decide)) (fun _ _ => by rw [ia]; exact me_vin (by omega) (by omega)) (fun _ _ => by rw [ia]; exact me_vin (by omega) (by omega)) (fun _ _ c => ?_) (fun _ _ c => ?_)
      · rw [ia, ia, in_cl (by omega), in_cl (by omega), fa, fb] at c
        rw [in_a1]
        refine ih (j + 1) (by omega) (fun i hi2 => ?_)
        by_cases e : i = j
        · rw [e]; exact c
        · exact hi i (by omega)
      · rw [ia, ia, in_cl (by omega), in_cl (by omega), fa, fb] at c
        rw [no j (by omega) c] at h
        rw [in_a1]
        by_cases h5 : j + 1 = 510
        · have c5 : (510 : Int32) ≤ nI (j + 1) := by rw [h5]; decide
          exact sg_260_5 (fun _ => Or.inl rfl) (fun _ => h) (fun q => absurd c5 q) (fun q => absurd c5 q) (fun q => absurd c5 q) (fun q => absurd c5 q) (fun q => absurd c5 q) (fun q => absurd c5 q)
        · have c5 : ¬ (510 : Int32) ≤ nI (j + 1) := by rw [show (510 : Int32) = nI 510 from rfl, in_le (by omega) (by omega)]; omega
          exact sg_260_5 (fun q => absurd q c5) (fun q => absurd q c5) (fun _ _ => Or.inl rfl) (fun _ _ => h) (fun _ q => absurd rfl q) (fun _ q => absurd rfl q) (fun _ q => absurd rfl q) (fun _ q => absurd rfl q)
  exact sg_260_0 (hl 510 0 (by omega) (fun i hi => absurd hi (Nat.not_lt_zero i)))
theorem ra_ls {t : Nat} {M1 : px_Mem} (A : ra y M) (h : ls_fr t M M1) : ra y M1 :=
  ⟨fun u hu => rt_at_fr (A.1 u hu) (fun a h1 h2 => h.1 a (by omega) (by omega) (by omega) (by omega)), fun e he => re_at_fr (A.2.1 e he) (fun a h1 h2 => by rw [h.1 a (by omega) (by omega) (by omega) (by omega)]), fun x hx => by rw [h.1 71 (by omega) (by omega) (by omega) (by omega)]; exact A.2.2 x hx⟩
theorem sr_261 (R : ir y M) (h : ∀ M', rq M M' → M'.1 56 20 = nI (iv_n y) → SR y (iv_n y + 1) M' → Q (some (.int (in_b (decide (iv_ln y ≠ 0))))) M') : px_T 0 261 0 [some (.ref 56), none, none] [] M Q := by
  have hn := iv_yn R.1
  refine sg_261_0 (sr_224 R (fun M1 q1 L1 A1 => sg_261_4 ?_))
  have hl : ∀ (g t : Nat) (N : px_Mem), t + g = iv_n y + 1 → rq M N → N.1 56 20 = nI (iv_n y) → ra y N → SR y t N → px_T 0 261 7 [some (.ref 56), some (.int (in_b (decide (iv_ln y ≠ 0)))), some (.int (nI t))] [] N Q := by
    intro g
    induction g with
    | zero =>
      intro t N ht q f20 A S
      have e : t = iv_n y + 1 := by omega
      subst e
      have c : N.1 56 20 < nI (iv_n y + 1) := by rw [f20, in_lt (by omega) (by omega)]; omega
      exact sg_261_7 (fun _ => in_b01 _) (fun _ => h N q f20 S) (fun q => absurd c q)
    | succ g ih =>
      intro t N ht q f20 A S
      have c : ¬ N.1 56 20 < nI t := by rw [f20, in_lt (by omega) (by omega)]; omega
      refine sg_261_7 (fun q => absurd q c) (fun q => absurd q c) (fun _ => ?_)
      refine sr_259 (by omega) (A.1 t (by omega)) (ra_kd A (by omega)) (iv_rnW R.1 (by omega)) (iv_rnm R.1 (by omega)) (fun M2 k2 r2 => sg_261_20 ?_)
      rw [in_a1]
      refine ih (t + 1) M2 (by omega) (rq_tr q (ls_rq k2)) (by rw [k2.2.1 20 (by omega)]; exact f20) (ra_ls A k2) (fun u hu j hj => ?_)
      by_cases e : u = t
      · subst e
        exact r2 j hj
      · rw [k2.2.2.2 _ (by omega)]
        exact S u (by omega) j hj
  exact hl (iv_n y + 1) 0 M1 (by omega) q1 L1.1 A1 (fun t ht => absurd ht (Nat.not_lt_zero t))
theorem sr_262 (hy : iv_yok y) (S : SR y (iv_n y + 1) M) {t : Nat} (ht : t ≤ iv_n y) (h : Q (some (.int (nI (sh_fs y t)))) M) : px_T 0 262 0 [some (.ref 56), some (.int (nI t)), none] [] M Q := by
  have hn := iv_yn hy
  have hf := fs_le y t
  have hl : ∀ (g u : Nat), u + g = sh_fs y t → px_T 0 262 2 [some (.ref 56), some (.int (nI t)), some (.int (nI u))] [] M Q := by
    intro g
    induction g with
    | zero =>
      intro u hu
      have e : u = sh_fs y t := by omega
      refine sg_262_2 (sr_260 hy (Nat.le_refl _) S (by omega) (by omega) (sg_262_8 (fun c => ?_) (fun _ => ?_)))
      · rw [e, fs_y] at c
        exact absurd c (by decide)
      · rw [e]
        exact h
    | succ g ih =>
      intro u hu
      refine sg_262_2 (sr_260 hy (Nat.le_refl _) S (by omega) (by omega) (sg_262_8 (fun c => ?_) (fun c => ?_)))
      · rw [in_a1]
        exact ih (u + 1) (by omega)
      · rw [fs_n (show u < sh_fs y t by omega)] at c
        exact absurd rfl c
  exact sg_262_0 (hl (sh_fs y t) 0 (by omega))
theorem sr_263 (R : ir y M) {x1 x2 : Int32} (h : ∀ M', rq M M' → Q (some (.int (an_112 y x1 x2))) M') : px_T 0 263 0 [some (.ref 56), some (.int x1), some (.int x2)] [] M Q := by
  unfold an_112 at h
  have hn := iv_yn R.1
  refine sg_263_0 (sr_261 R (fun M1 q1 f20 S => ?_))
  have R1 := ir_rq R q1
  have bad : (tk y x1 = false ∨ tk y x2 = false) → Q (some (.int (-2))) M1 := by
    intro hb
    have h9 := h M1 q1
    rw [if_neg] at h9
    · exact h9
    · rcases hb with q | q <;> rw [q] <;> simp
  refine sg_263_4 (fun c => bad (Or.inl ?_)) (fun _ => sr_183 R1 (sg_263_13 (fun c => bad (Or.inl ((in_b0 _).mp c))) (fun c => sr_183 R1 (sg_263_22 (fun d => bad (Or.inr ((in_b0 _).mp d))) (fun d => ?_)))))
  · rw [in_b0] at c
    unfold tk
    rw [c]
    rfl
  · rw [in_b0, Bool.not_eq_false] at c d
    rw [c, d, if_pos (by decide)] at h
    obtain ⟨a, e1, a1, _⟩ := tk_of hn c
    obtain ⟨b, e2, b1, _⟩ := tk_of hn d
    subst e1 e2
    rw [in_cl (by omega), in_cl (by omega)] at h
    refine sr_260 R.1 (Nat.le_refl _) S (by omega) (by omega) (sg_263_34 (fun c => ?_) (fun c => ?_))
    · rw [in_b0] at c
      rw [c] at h
      exact h M1 q1
    · rw [in_b0, Bool.not_eq_false] at c
      rw [c] at h
      exact h M1 q1
theorem sr_264 (R : ir y M) {x1 : Int32} (h : ∀ M', rq M M' → Q (some (.int (an_113 y x1))) M') : px_T 0 264 0 [some (.ref 56), some (.int x1)] [] M Q := by
  unfold an_113 at h
  have hn := iv_yn R.1
  refine sg_264_0 (sr_261 R (fun M1 q1 f20 S => ?_))
  have R1 := ir_rq R q1
  have bad : tk y x1 = false → Q (some (.int (-2))) M1 := by
    intro hb
    have h9 := h M1 q1
    rw [hb, if_neg (by decide)] at h9
    exact h9
  refine sg_264_4 (fun c => bad ?_) (fun _ => sr_183 R1 (sg_264_13 (fun c => bad ((in_b0 _).mp c)) (fun c => ?_)))
  · rw [in_b0] at c
    unfold tk
    rw [c]
    rfl
  · rw [in_b0, Bool.not_eq_false] at c
    rw [c, if_pos rfl] at h
    obtain ⟨a, e1, a1, _⟩ := tk_of hn c
    subst e1
    rw [in_cl (by omega)] at h
    exact sr_262 R.1 S a1 (sg_264_21 (h M1 q1))
theorem sr_265 (R : ir y M) (h : ∀ M', rq M M' → Q (some (.int (an_114 y))) M') : px_T 0 265 0 [some (.ref 56), none, none] [] M Q := by
  unfold an_114 at h
  have hn := iv_yn R.1
  refine sg_265_0 (sr_261 R (fun M1 q1 f20 S => sg_265_4 (fun c => ?_) (fun c => ?_)))
  · rw [in_b0] at c
    rw [if_neg (of_decide_eq_false c)] at h
    exact h M1 q1
  · rw [in_b0, Bool.not_eq_false] at c
    rw [if_pos (of_decide_eq_true c)] at h
    have hl : ∀ i, i ≤ iv_n y + 1 → px_T 0 265 14 [some (.ref 56), some (.int (nI (fb_ct (fun t => decide (sh_fs y t = t)) i))), some (.int (nI i))] [] M1 Q := by
      refine lp_dn ?_ (fun i hi ih => ?_)
      · exact sg_265_14 (fun _ => h M1 q1) (fun c => absurd (by rw [f20, in_lt (by omega) (by omega)]; omega) c)
      · have fi := fs_le y i
        refine sg_265_14 (fun c => ?_) (fun _ => sr_262 R.1 S (by omega) (sg_265_28 (fun c => ?_) (fun c => ?_)))
        · rw [f20, in_lt (by omega) (by omega)] at c
          omega
        · rw [in_eq (by omega) (by omega)] at c
          rw [ct_y (p := fun t => decide (sh_fs y t = t)) (n := i) (decide_eq_true c)] at ih
          rw [in_a1, in_a1]
          exact ih
        · rw [in_eq (by omega) (by omega)] at c
          rw [ct_n (p := fun t => decide (sh_fs y t = t)) (n := i) (decide_eq_false c)] at ih
          rw [Int32.add_zero, in_a1]
          exact ih
    exact hl 0 (by omega)
theorem tmn_0 {t : Nat} (h : ¬ sh_fs y t = t) : tmn y t = 0 := by
  refine fb_ct_zero.mpr (fun u _ => decide_eq_false (fun q => h ?_))
  have h1 := fs_fs y u
  rw [q] at h1
  exact h1
theorem tmn_pos (y : iv_Y) : 0 < tmn y 0 := fb_ct_pos.mpr ⟨0, by omega, decide_eq_true (Nat.le_zero.mp (fs_le y 0))⟩
theorem sr_266 (R : ir y M) (h : ∀ M', rq M M' → Q (some (.int (an_115 y))) M') : px_T 0 266 0 [some (.ref 56), none, none, none, none, none] [] M Q := by
  unfold an_115 at h
  have hn := iv_yn R.1
  refine sg_266_0 (sr_261 R (fun M1 q1 f20 S => sg_266_4 (fun c => ?_) (fun c => ?_)))
  · rw [in_b0] at c
    rw [if_neg (of_decide_eq_false c)] at h
    exact h M1 q1
  · rw [in_b0, Bool.not_eq_false] at c
    rw [if_pos (of_decide_eq_true c)] at h
    -- the count of one tick's like, from it on
    have inner : ∀ (t : Nat) (x1 x2 : Int32), t ≤ iv_n y → (∀ d4 d5 : Option Value, x2 < nI (tmn y t) → px_T 0 266 16 [some (.ref 56), some (.int (nI t)), some (.int (nI (tmn y t))), some (.int (nI t + 1)), d4, d5] [] M1 Q) → (∀ d4 d5 : Option Value, ¬ x2 < nI (tmn y t) → px_T 0 266 16 [some (.ref 56), some (.int x1), some (.int x2), some (.int (nI t + 1)), d4, d5] [] M1 Q) → px_T 0 266 30 [some (.ref 56), some (.int x1), some (.int x2), some (.int (nI t)), some (.int 0), some (.int (nI t))] [] M1 Q := by
      intro t x1 x2 ht yes no
      have ft := fs_le y t
      by_cases hft : sh_fs y t = t
      · have hl : ∀ (g u : Nat), u + g = iv_n y + 1 → px_T 0 266 30 [some (.ref 56), some (.int x1), some (.int x2), some (.int (nI t)), some (.int (nI (fb_ct (fun u => decide (sh_fs y u = t)) u))), some (.int (nI u))] [] M1 Q := by
          intro g
          induction g with
          | zero =>
            intro u hu
            have e : u = iv_n y + 1 := by omega
            subst e
            have c9 : M1.1 56 20 < nI (iv_n y + 1) := by rw [f20, in_lt (by omega) (by omega)]; omega
            exact sg_266_30 (fun _ c => yes _ _ c) (fun _ c => no _ _ c) (fun q => absurd c9 q)
          | succ g ih =>
            intro u hu
            have c9 : ¬ M1.1 56 20 < nI u := by rw [f20, in_lt (by omega) (by omega)]; omega
            have fu := fs_le y u
            have ih2 := ih (u + 1) (by omega)
            refine sg_266_30 (fun q => absurd q c9) (fun q => absurd q c9) (fun _ => sr_262 R.1 S ht ?_)
            rw [hft]
            refine sg_266_44 (fun _ => sr_262 R.1 S (by omega) (sg_266_56 (fun d => ?_) (fun d => ?_))) (fun q => absurd rfl q) (fun q => absurd rfl q)
            · rw [in_eq (by omega) (by omega)] at d
              rw [ct_y (p := fun u => decide (sh_fs y u = t)) (n := u) (decide_eq_true d)] at ih2
              rw [in_a1, in_a1]
              exact ih2
            · rw [in_eq (by omega) (by omega)] at d
              rw [ct_n (p := fun u => decide (sh_fs y u = t)) (n := u) (decide_eq_false d)] at ih2
              rw [Int32.add_zero, in_a1]
              exact ih2
        have h9 := hl (iv_n y + 1 - t) t (by omega)
        have z : fb_ct (fun u => decide (sh_fs y u = t)) t = 0 := fb_ct_zero.mpr (fun u hu => decide_eq_false (fun q => by have := fs_le y u; omega))
        rw [z] at h9
        exact h9
      · have c9 : ¬ M1.1 56 20 < nI t := by rw [f20, in_lt (by omega) (by omega)]; omega
        have e0 := tmn_0 hft
        have hne : ¬ nI (sh_fs y t) = nI t := by rw [in_eq (by omega) (by omega)]; exact hft
        have yes2 := fun d4 d5 => yes d4 d5
        have no2 := fun d4 d5 => no d4 d5
        rw [e0] at yes2 no2
        exact sg_266_30 (fun q => absurd q c9) (fun q => absurd q c9) (fun _ => sr_262 R.1 S ht (sg_266_44 (fun q => absurd q hne) (fun _ c => yes2 _ _ c) (fun _ c => no2 _ _ c)))
    have outer : ∀ (g k : Nat) (d4 d5 : Option Value), k + g = iv_n y → px_T 0 266 16 [some (.ref 56), some (.int (nI (mxb y k))), some (.int (nI (tmn y (mxb y k)))), some (.int (nI (k + 1))), d4, d5] [] M1 Q := by
      intro g
      induction g with
      | zero =>
        intro k d4 d5 hk
        have e : k = iv_n y := by omega
        subst e
        exact sg_266_16 (fun _ => h M1 q1) (fun c => absurd (by rw [f20, in_lt (by omega) (by omega)]; omega) c)
      | succ g ih =>
        intro k d4 d5 hk
        have t1 := tmn_b y (k + 1)
        have t2 := tmn_b y (mxb y k)
        refine sg_266_16 (fun c => ?_) (fun _ => inner (k + 1) _ _ (by omega) (fun d4 d5 c => ?_) (fun d4 d5 c => ?_))
        · rw [f20, in_lt (by omega) (by omega)] at c
          omega
        · rw [in_lt (by omega) (by omega)] at c
          have h9 := ih (k + 1) d4 d5 (by omega)
          rw [mxb_s, if_pos c] at h9
          rw [in_a1]
          exact h9
        · rw [in_lt (by omega) (by omega)] at c
          have h9 := ih (k + 1) d4 d5 (by omega)
          rw [mxb_s, if_neg c] at h9
          rw [in_a1]
          exact h9
    have t0 := tmn_b y 0
    have tp := tmn_pos y
    refine sg_266_16 (fun c => ?_) (fun _ => inner 0 _ _ (by omega) (fun d4 d5 c => ?_) (fun d4 d5 c => ?_))
    · rw [f20, show (0 : Int32) = nI 0 from rfl, in_lt (by omega) (by omega)] at c
      omega
    · rw [in_a1]
      exact outer (iv_n y) 0 d4 d5 (by omega)
    · rw [show (0 : Int32) = nI 0 from rfl, in_lt (by omega) (by omega)] at c
      omega
end R70
