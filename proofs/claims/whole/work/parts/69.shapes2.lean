/-! shapes: the reference's rows, and that they tell the same -/
def sho (s : ws_S) (l r : Nat) : Int32 := if l < sh_sz s then (if r = 0 then nI (ws_kd s (sh_mt s l)) else if r = 1 then vl_qu s (sh_mt s l) else if ws_kd s (sh_mt s l) = 0 then -1 else nI (sh_lb s (sh_oe s (sh_mt s l))) - 1) else -1
def shr (s : ws_S) (j : Nat) : Int32 := if j < 150 then (if j % 10 = 0 then vl_pa s (j / 10 + 1) else if j % 10 = 1 then vl_se s (j / 10 + 1) else nI (sh_la s (8 * (j / 10 + 1) + (j % 10 - 2))) - 1) else sho s ((j - 150) / 3) ((j - 150) % 3)
def shE (s u : ws_S) : Prop := (∀ p, 1 ≤ p → p ≤ 15 → ((ws_al s).testBit p = (ws_al u).testBit p) ∧ ((ws_al s).testBit p = true → ws_pa s p = ws_pa u p ∧ ws_se s p = ws_se u p) ∧ ∀ h, h < 8 → sh_la s (8 * p + h) = sh_la u (8 * p + h)) ∧ ∀ l, l < 120 → (l < sh_sz s ↔ l < sh_sz u) ∧ (l < sh_sz s → ws_kd s (sh_mt s l) = ws_kd u (sh_mt u l) ∧ (ws_kd s (sh_mt s l) ≠ 0 → ws_by s (sh_re s (sh_mt s l)) = ws_by u (sh_re u (sh_mt u l)) ∧ sh_lb s (sh_oe s (sh_mt s l)) = sh_lb u (sh_oe u (sh_mt u l))))
section R69
variable {M : px_Mem} {Q : px_Po} {y : iv_Y} {s u : ws_S}
theorem shr_pa {q : Nat} (h : q < 15) : shr s (10 * q) = vl_pa s (q + 1) := by
  unfold shr
  rw [if_pos (by omega), if_pos (by omega), show 10 * q / 10 = q by omega]
theorem shr_se {q : Nat} (h : q < 15) : shr s (10 * q + 1) = vl_se s (q + 1) := by
  unfold shr
  rw [if_pos (by omega), if_neg (by omega), if_pos (by omega), show (10 * q + 1) / 10 = q by omega]
theorem shr_la {q k : Nat} (h : q < 15) (hk : k < 8) : shr s (10 * q + 2 + k) = nI (sh_la s (8 * (q + 1) + k)) - 1 := by
  unfold shr
  rw [if_pos (by omega), if_neg (by omega), if_neg (by omega), show (10 * q + 2 + k) / 10 = q by omega, show (10 * q + 2 + k) % 10 - 2 = k by omega]
theorem shr_o {l r : Nat} (hr : r < 3) : shr s (150 + 3 * l + r) = sho s l r := by
  unfold shr
  rw [if_neg (by omega), show (150 + 3 * l + r - 150) / 3 = l by omega, show (150 + 3 * l + r - 150) % 3 = r by omega]
theorem vl_pa_e (hs : ws_W s) (hu : ws_W u) {p : Nat} : vl_pa s p = vl_pa u p ↔ ((ws_al s).testBit p = (ws_al u).testBit p ∧ ((ws_al s).testBit p = true → ws_pa s p = ws_pa u p)) := by
  have h1 := hs.2.1 p
  have h2 := hu.2.1 p
  unfold vl_pa
  cases a : (ws_al s).testBit p <;> cases b : (ws_al u).testBit p
  · simp
  · rw [if_neg (by decide), if_pos rfl]
    exact ⟨fun q => absurd q.symm (in_nm (by omega)), fun q => absurd q.1 (by decide)⟩
  · rw [if_pos rfl, if_neg (by decide)]
    exact ⟨fun q => absurd q (in_nm (by omega)), fun q => absurd q.1 (by decide)⟩
  · rw [if_pos rfl, if_pos rfl, in_eq (by omega) (by omega)]
    exact ⟨fun q => ⟨rfl, fun _ => q⟩, fun q => q.2 rfl⟩
theorem vl_se_e (hs : ws_W s) (hu : ws_W u) {p : Nat} : vl_se s p = vl_se u p ↔ ((ws_al s).testBit p = (ws_al u).testBit p ∧ ((ws_al s).testBit p = true → ws_se s p = ws_se u p)) := by
  have h1 := hs.2.2.1 p
  have h2 := hu.2.2.1 p
  unfold vl_se
  cases a : (ws_al s).testBit p <;> cases b : (ws_al u).testBit p
  · simp
  · rw [if_neg (by decide), if_pos rfl]
    exact ⟨fun q => absurd q.symm (in_nm (by omega)), fun q => absurd q.1 (by decide)⟩
  · rw [if_pos rfl, if_neg (by decide)]
    exact ⟨fun q => absurd q (in_nm (by omega)), fun q => absurd q.1 (by decide)⟩
  · rw [if_pos rfl, if_pos rfl, in_eq (by omega) (by omega)]
    exact ⟨fun q => ⟨rfl, fun _ => q⟩, fun q => q.2 rfl⟩
theorem m1_e {a b : Nat} (ha : a ≤ 200) (hb : b ≤ 200) : nI a - 1 = nI b - 1 ↔ a = b := by
  constructor
  · intro h
    have h2 : nI a - 1 + 1 = nI b - 1 + 1 := by rw [h]
    rw [Int32.sub_add_cancel, Int32.sub_add_cancel, in_eq (by omega) (by omega)] at h2
    exact h2
  · rintro rfl; rfl
theorem sho_y {l r : Nat} (h : l < sh_sz s) : sho s l r = if r = 0 then nI (ws_kd s (sh_mt s l)) else if r = 1 then vl_qu s (sh_mt s l) else if ws_kd s (sh_mt s l) = 0 then -1 else nI (sh_lb s (sh_oe s (sh_mt s l))) - 1 := by
  unfold sho
  rw [if_pos h]
theorem sho_n {l r : Nat} (h : ¬ l < sh_sz s) : sho s l r = -1 := by
  unfold sho
  rw [if_neg h]
theorem qu_0 {a : Nat} (h : ws_kd s a = 0) : vl_qu s a = -1 := by
  unfold vl_qu
  rw [if_neg (fun q => q.2.1 h)]
theorem kd_b (hs : ws_W s) {l : Nat} (h : l < sh_sz s) : ws_kd s (sh_mt s l) ≤ 2 := (hs.2.2.2.2.2.2.1 _ (sh_mtb hs h)).1
theorem rowE (hs : ws_W s) (hu : ws_W u) : (∀ j, j < 510 → shr s j = shr u j) ↔ shE s u := by
  constructor
  · intro h
    refine ⟨fun p p1 p2 => ?_, fun l hl => ?_⟩
    · obtain ⟨q, rfl⟩ : ∃ q, p = q + 1 := ⟨p - 1, by omega⟩
      have h1 := h (10 * q) (by omega)
      have h2 := h (10 * q + 1) (by omega)
      rw [shr_pa (by omega), shr_pa (by omega), vl_pa_e hs hu] at h1
      rw [shr_se (by omega), shr_se (by omega), vl_se_e hs hu] at h2
      refine ⟨h1.1, fun ha => ⟨h1.2 ha, h2.2 ha⟩, fun k hk => ?_⟩
      have h3 := h (10 * q + 2 + k) (by omega)
      rw [shr_la (by omega) hk, shr_la (by omega) hk, m1_e (by have := sh_lab (s := s) (8 * (q + 1) + k); omega) (by have := sh_lab (s := u) (8 * (q + 1) + k); omega)] at h3
      exact h3
    · have h0 := h (150 + 3 * l + 0) (by omega)
      have h1 := h (150 + 3 * l + 1) (by omega)
      have h2 := h (150 + 3 * l + 2) (by omega)
      rw [shr_o (by omega), shr_o (by omega)] at h0 h1 h2
      by_cases a : l < sh_sz s
      · have ka := kd_b hs a
        by_cases b : l < sh_sz u
        · have kb := kd_b hu b
          rw [sho_y a, sho_y b] at h0 h1 h2
          rw [if_pos rfl, if_pos rfl, in_eq (by omega) (by omega)] at h0
          rw [if_neg (show ¬ (1 : Nat) = 0 by decide), if_neg (show ¬ (1 : Nat) = 0 by decide), if_pos (show (1 : Nat) = 1 from rfl), if_pos (show (1 : Nat) = 1 from rfl)] at h1
          rw [if_neg (show ¬ (2 : Nat) = 0 by decide), if_neg (show ¬ (2 : Nat) = 0 by decide), if_neg (show ¬ (2 : Nat) = 1 by decide), if_neg (show ¬ (2 : Nat) = 1 by decide)] at h2
          refine ⟨⟨fun _ => b, fun _ => a⟩, fun _ => ⟨h0, fun hk => ?_⟩⟩
          have hk2 : ws_kd u (sh_mt u l) ≠ 0 := by rw [← h0]; exact hk
          obtain ⟨v1, v2, _⟩ := vl_mt hs a hk
          obtain ⟨w1, w2, _⟩ := vl_mt hu b hk2
          rw [v1, w1, in_eq (by omega) (by omega)] at h1
          rw [if_neg hk, if_neg hk2, m1_e (by have := sh_lbb (s := s) (sh_oe s (sh_mt s l)); omega) (by have := sh_lbb (s := u) (sh_oe u (sh_mt u l)); omega)] at h2
          exact ⟨h1, h2⟩
        · rw [sho_y a, sho_n b, if_pos rfl] at h0
          exact absurd h0 (in_nm (by omega))
      · by_cases b : l < sh_sz u
        · have kb := kd_b hu b
          rw [sho_n a, sho_y b, if_pos rfl] at h0
          exact absurd h0.symm (in_nm (by omega))
        · exact ⟨⟨fun q => absurd q a, fun q => absurd q b⟩, fun q => absurd q a⟩
  · intro h j hj
    by_cases hj2 : j < 150
    · have hp := h.1 (j / 10 + 1) (by omega) (by omega)
      unfold shr
      rw [if_pos hj2, if_pos hj2]
      split
      · exact (vl_pa_e hs hu).mpr ⟨hp.1, fun q => (hp.2.1 q).1⟩
      · split
        · exact (vl_se_e hs hu).mpr ⟨hp.1, fun q => (hp.2.1 q).2⟩
        · rw [hp.2.2 (j % 10 - 2) (by omega)]
    · obtain ⟨ho1, ho2⟩ := h.2 ((j - 150) / 3) (by omega)
      unfold shr
      rw [if_neg hj2, if_neg hj2]
      by_cases a : (j - 150) / 3 < sh_sz s
      · have b := ho1.mp a
        obtain ⟨e1, e2⟩ := ho2 a
        rw [sho_y a, sho_y b, e1]
        by_cases hk : ws_kd s (sh_mt s ((j - 150) / 3)) = 0
        · have hk2 : ws_kd u (sh_mt u ((j - 150) / 3)) = 0 := by rw [← e1]; exact hk
          rw [qu_0 hk, qu_0 hk2, if_pos hk2, if_pos hk2]
        · have hk2 : ws_kd u (sh_mt u ((j - 150) / 3)) ≠ 0 := by rw [← e1]; exact hk
          obtain ⟨e3, e4⟩ := e2 hk
          rw [(vl_mt hs a hk).1, (vl_mt hu b hk2).1, e3, e4]
      · rw [sho_n a, sho_n (fun q => a (ho1.mpr q))]
theorem w_inj : ∀ (n : Nat) (f g : Nat → Nat), (∀ k, f k ≤ 120) → (∀ k, g k ≤ 120) → (sh_w f n = sh_w g n ↔ ∀ k, k < n → f k = g k)
  | 0, f, g, _, _ => ⟨fun _ k hk => absurd hk (Nat.not_lt_zero k), fun _ => rfl⟩
  | n + 1, f, g, hf, hg => by
    have ih := w_inj n (fun k => f (k + 1)) (fun k => g (k + 1)) (fun k => hf (k + 1)) (fun k => hg (k + 1))
    have f0 := hf 0
    have g0 := hg 0
    show f 0 + 128 * sh_w (fun k => f (k + 1)) n = g 0 + 128 * sh_w (fun k => g (k + 1)) n ↔ _
    constructor
    · intro h k hk
      have h1 := ih.mp (by omega)
      cases k with
      | zero => omega
      | succ k => exact h1 k (by omega)
    · intro h
      have h1 := ih.mpr (fun k hk => h (k + 1) (by omega))
      have h0 := h 0 (by omega)
      omega
theorem la_dead (hs : ws_W s) {p h : Nat} (hh : h < 8) (hd : (ws_al s).testBit p = false) : sh_la s (8 * p + h) = 0 := by
  unfold sh_la
  by_cases c : ws_ob s (8 * p + h) = 0
  · rw [if_pos c]
  · have h1 := hs.2.2.2.2.2.1 (8 * p + h) c
    rw [show (8 * p + h) / 8 = p by omega, hd] at h1
    exact absurd h1 (by decide)
theorem pic_p {i : Nat} (h : i < 15) : sh_pic s i = if (ws_al s).testBit (i + 1) = true then sh_pp s (i + 1) else 0 := by
  unfold sh_pic
  rw [if_pos h]
theorem pic_o {q : Nat} : sh_pic s (15 + q) = sh_p1 s (4 * q) + 65536 * sh_p1 s (4 * q + 1) + 4294967296 * sh_p1 s (4 * q + 2) + 281474976710656 * sh_p1 s (4 * q + 3) := by
  unfold sh_pic
  rw [if_neg (by omega), Nat.add_sub_cancel_left]
theorem p1_b (hs : ws_W s) (l : Nat) : sh_p1 s l < 65536 := by
  unfold sh_p1
  split
  · exact sh_pob hs (by assumption)
  · omega
theorem p1_e (hs : ws_W s) (hu : ws_W u) {l : Nat} : sh_p1 s l = sh_p1 u l ↔ ((l < sh_sz s ↔ l < sh_sz u) ∧ (l < sh_sz s → ws_kd s (sh_mt s l) = ws_kd u (sh_mt u l) ∧ (ws_kd s (sh_mt s l) ≠ 0 → ws_by s (sh_re s (sh_mt s l)) = ws_by u (sh_re u (sh_mt u l)) ∧ sh_lb s (sh_oe s (sh_mt s l)) = sh_lb u (sh_oe u (sh_mt u l))))) := by
  unfold sh_p1 sh_po
  by_cases a : l < sh_sz s
  · have ka := kd_b hs a
    have va := vl_mt hs a
    have la := sh_lbb (s := s) (sh_oe s (sh_mt s l))
    by_cases b : l < sh_sz u
    · have kb := kd_b hu b
      have vb := vl_mt hu b
      have lb := sh_lbb (s := u) (sh_oe u (sh_mt u l))
      rw [if_pos a, if_pos b]
      by_cases c : ws_kd s (sh_mt s l) = 0
      · rw [if_pos c]
        by_cases d : ws_kd u (sh_mt u l) = 0
        · rw [if_pos d]
          exact ⟨fun _ => ⟨⟨fun _ => b, fun _ => a⟩, fun _ => ⟨by omega, fun q => absurd c q⟩⟩, fun _ => rfl⟩
        · rw [if_neg d]
          have w2 := (vb d).2.1
          exact ⟨fun q => by omega, fun q => absurd (q.2 a).1 (by omega)⟩
      · rw [if_neg c]
        have w1 := (va c).2.1
        by_cases d : ws_kd u (sh_mt u l) = 0
        · rw [if_pos d]
          exact ⟨fun q => by omega, fun q => absurd (q.2 a).1 (by omega)⟩
        · rw [if_neg d]
          have w2 := (vb d).2.1
          constructor
          · intro q
            exact ⟨⟨fun _ => b, fun _ => a⟩, fun _ => ⟨by omega, fun _ => ⟨by omega, by omega⟩⟩⟩
          · intro q
            obtain ⟨q1, q2⟩ := q.2 a
            obtain ⟨q3, q4⟩ := q2 c
            rw [q1, q3, q4]
    · rw [if_pos a, if_neg b]
      constructor
      · intro q
        split at q <;> omega
      · intro q
        exact absurd (q.1.mp a) b
  · by_cases b : l < sh_sz u
    · rw [if_neg a, if_pos b]
      constructor
      · intro q
        split at q <;> omega
      · intro q
        exact absurd (q.1.mpr b) a
    · rw [if_neg a, if_neg b]
      exact ⟨fun _ => ⟨⟨fun q => absurd q a, fun q => absurd q b⟩, fun q => absurd q a⟩, fun _ => rfl⟩
theorem pp_pos (hs : ws_W s) {p : Nat} (h : (ws_al s).testBit p = true) : 0 < sh_pp s p := by
  have h1 := hs.2.2.2.1 p (hs.1.2.2.2.2 p h)
  unfold sh_pp
  omega
theorem picE (hs : ws_W s) (hu : ws_W u) : (∀ i, i < 45 → sh_pic s i = sh_pic u i) ↔ shE s u := by
  have pe : ∀ p, ((ws_al s).testBit p = true) → ((ws_al u).testBit p = true) → (sh_pp s p = sh_pp u p ↔ (ws_pa s p = ws_pa u p ∧ ws_se s p = ws_se u p) ∧ ∀ h, h < 8 → sh_la s (8 * p + h) = sh_la u (8 * p + h)) := by
    intro p _ _
    have a1 := hs.2.1 p
    have a2 := hu.2.1 p
    have a3 := hs.2.2.1 p
    have a4 := hu.2.2.1 p
    have hw := w_inj 8 (fun h => sh_la s (8 * p + h)) (fun h => sh_la u (8 * p + h)) (fun k => sh_lab _) (fun k => sh_lab _)
    unfold sh_pp
    rw [← hw]
    constructor
    · intro q
      exact ⟨⟨by omega, by omega⟩, by omega⟩
    · intro q
      rw [q.1.1, q.1.2, q.2]
  constructor
  · intro h
    refine ⟨fun p p1 p2 => ?_, fun l hl => ?_⟩
    · obtain ⟨i, rfl⟩ : ∃ q, p = q + 1 := ⟨p - 1, by omega⟩
      have h1 := h i (by omega)
      rw [pic_p (by omega), pic_p (by omega)] at h1
      cases a : (ws_al s).testBit (i + 1) <;> cases b : (ws_al u).testBit (i + 1)
      · exact ⟨rfl, fun q => absurd q (by decide), fun k hk => by rw [la_dead hs hk a, la_dead hu hk b]⟩
      · rw [a, b, if_neg (by decide), if_pos rfl] at h1
        have := pp_pos hu b
        omega
      · rw [a, b, if_pos rfl, if_neg (by decide)] at h1
        have := pp_pos hs a
        omega
      · rw [a, b, if_pos rfl, if_pos rfl, pe _ a b] at h1
        exact ⟨rfl, fun _ => h1.1, h1.2⟩
    · have h1 := h (15 + l / 4) (by omega)
      rw [pic_o, pic_o] at h1
      have s0 := p1_b hs (4 * (l / 4))
      have s1 := p1_b hs (4 * (l / 4) + 1)
      have s2 := p1_b hs (4 * (l / 4) + 2)
      have s3 := p1_b hs (4 * (l / 4) + 3)
      have u0 := p1_b hu (4 * (l / 4))
      have u1 := p1_b hu (4 * (l / 4) + 1)
      have u2 := p1_b hu (4 * (l / 4) + 2)
      have u3 := p1_b hu (4 * (l / 4) + 3)
      have e : sh_p1 s l = sh_p1 u l := by
        have hr : l = 4 * (l / 4) ∨ l = 4 * (l / 4) + 1 ∨ l = 4 * (l / 4) + 2 ∨ l = 4 * (l / 4) + 3 := by omega
        rcases hr with r | r | r | r
        · have e1 : sh_p1 s (4 * (l / 4)) = sh_p1 u (4 * (l / 4)) := by omega
          rw [← r] at e1
          exact e1
        · have e1 : sh_p1 s (4 * (l / 4) + 1) = sh_p1 u (4 * (l / 4) + 1) := by omega
          rw [← r] at e1
          exact e1
        · have e1 : sh_p1 s (4 * (l / 4) + 2) = sh_p1 u (4 * (l / 4) + 2) := by omega
          rw [← r] at e1
          exact e1
        · have e1 : sh_p1 s (4 * (l / 4) + 3) = sh_p1 u (4 * (l / 4) + 3) := by omega
          rw [← r] at e1
          exact e1
      exact (p1_e hs hu).mp e
  · intro h i hi
    by_cases hi2 : i < 15
    · obtain ⟨e1, e2, e3⟩ := h.1 (i + 1) (by omega) (by omega)
      rw [pic_p hi2, pic_p hi2, ← e1]
      by_cases a : (ws_al s).testBit (i + 1) = true
      · rw [if_pos a, if_pos a]
        exact (pe _ a (by rw [← e1]; exact a)).mpr ⟨e2 a, e3⟩
      · rw [if_neg a, if_neg a]
    · obtain ⟨q, rfl⟩ : ∃ q, i = 15 + q := ⟨i - 15, by omega⟩
      rw [pic_o, pic_o, (p1_e hs hu (l := 4 * q)).mpr (h.2 _ (by omega)), (p1_e hs hu (l := 4 * q + 1)).mpr (h.2 _ (by omega)), (p1_e hs hu (l := 4 * q + 2)).mpr (h.2 _ (by omega)), (p1_e hs hu (l := 4 * q + 3)).mpr (h.2 _ (by omega))]
theorem row_eq (hs : ws_W s) (hu : ws_W u) : (∀ j, j < 510 → shr s j = shr u j) ↔ sh_eq s u = true := by
  rw [sh_eq_t, rowE hs hu, picE hs hu]
end R69
