theorem px_br_mono {c : ClassFile.Cond} {x y : Int32} {A A' B B' : Prop} (ha : A → A') (hb : B → B') (h : px_br c x y A B) : px_br c x y A' B' := by
  cases c <;> exact ⟨fun q => ha (h.1 q), fun q => hb (h.2 q)⟩
theorem px_call_mono {k pc : Nat} {ls : px_Lo} {M : px_Mem} {go go' : Nat → px_Lo → List Value → px_Mem → Prop} {cal cal' : Nat → List Value → px_Mem → px_Po → Prop} {y : Nat} {st : List Value} (hgo : ∀ a b c d, go a b c d → go' a b c d) (hcal : ∀ y vs m P, cal y vs m P → cal' y vs m P) (h : px_call k pc ls M go cal y st) : px_call k pc ls M go' cal' y st := by
  obtain ⟨a, r, m, b, c⟩ := h
  exact ⟨a, r, m, hcal _ _ _ _ b, hgo _ _ _ _ c⟩
theorem px_st_mono {g k pc len : Nat} {ls : px_Lo} {M : px_Mem} {Q Q' : px_Po} {go go' : Nat → px_Lo → List Value → px_Mem → Prop} {cal cal' : Nat → List Value → px_Mem → px_Po → Prop} {st : List Value} {i : Instr} (hQ : ∀ r m, Q r m → Q' r m) (hgo : ∀ a b c d, go a b c d → go' a b c d) (hcal : ∀ y vs m P, cal y vs m P → cal' y vs m P) (h : px_st g k pc ls M Q go cal len st i) : px_st g k pc ls M Q' go' cal' len st i := by
  cases i
  all_goals (try simp only [px_st] at h ⊢)
  all_goals (repeat' (split at h))
  all_goals first
    | exact h.elim
    | exact hgo _ _ _ _ h
    | exact ⟨h.1, hgo _ _ _ _ h.2⟩
    | exact ⟨h.1, hQ _ _ h.2⟩
    | exact ⟨h.1, h.2.1, hgo _ _ _ _ h.2.2⟩
    | exact ⟨h.1, h.2.1, hQ _ _ h.2.2⟩
    | exact ⟨h.1, h.2.1, h.2.2.1, hgo _ _ _ _ h.2.2.2⟩
    | exact px_br_mono (hgo _ _ _ _) (hgo _ _ _ _) h
    | exact px_call_mono hgo hcal h
    | exact ⟨h.1, px_call_mono hgo hcal h.2⟩
    | (rcases h with ⟨h1, h2⟩ | ⟨h1, h2⟩
       · exact Or.inl ⟨h1, hgo _ _ _ _ h2⟩
       · exact Or.inr ⟨h1, hgo _ _ _ _ h2⟩)
    | (rcases h with ⟨t, n, h1, h2, h3⟩ | ⟨h1, h2⟩
       · exact Or.inl ⟨t, n, h1, h2, hgo _ _ _ _ h3⟩
       · exact Or.inr ⟨h1, hgo _ _ _ _ h2⟩)
    | (obtain ⟨h1, h2, h3, ⟨h4, h5⟩ | ⟨h4, h5⟩⟩ := h
       · exact ⟨h1, h2, h3, Or.inl ⟨h4, hgo _ _ _ _ h5⟩⟩
       · exact ⟨h1, h2, h3, Or.inr ⟨h4, hgo _ _ _ _ h5⟩⟩)
    | (rename_i hc; rw [if_pos hc]; exact hgo _ _ _ _ h)
    | (rename_i hc; rw [if_pos hc]; exact ⟨h.1, h.2.1, h.2.2.1, hgo _ _ _ _ h.2.2.2⟩)
    | (rename_i hc; rw [if_neg hc]; exact ⟨h.1, h.2.1, h.2.2.1, hgo _ _ _ _ h.2.2.2⟩)
theorem px_wp_mono {g : Nat} : ∀ (n n' : Nat), n ≤ n' → ∀ {k pc : Nat} {ls : px_Lo} {st : List Value} {M : px_Mem} {Q Q' : px_Po}, (∀ r m, Q r m → Q' r m) → px_wp g n k pc ls st M Q → px_wp g n' k pc ls st M Q'
  | 0, _, _, _, _, _, _, _, _, _, _, h => h.elim
  | n + 1, 0, hn, _, _, _, _, _, _, _, _, _ => absurd hn (Nat.not_succ_le_zero n)
  | n + 1, n' + 1, hn, k, pc, ls, st, M, Q, Q', hQ, h => by
    have hn2 : n ≤ n' := Nat.le_of_succ_le_succ hn
    unfold px_wp at h ⊢
    split at h
    · exact px_st_mono hQ (fun _ _ _ _ h => px_wp_mono n n' hn2 hQ h) (fun _ _ _ _ h => px_wp_mono n n' hn2 (fun _ _ h => h) h) h
    · exact h.elim
def px_is (r : Option Value) (m : px_Mem) : px_Po := fun r' m' => r' = r ∧ m' = m
theorem px_st_det {g k pc len : Nat} {ls : px_Lo} {M : px_Mem} {Q : px_Po} {go : Nat → px_Lo → List Value → px_Mem → Prop} {go' : Option Value → px_Mem → Nat → px_Lo → List Value → px_Mem → Prop} {cal : Nat → List Value → px_Mem → px_Po → Prop} {st : List Value} {i : Instr} (hgo : ∀ a b c d, go a b c d → ∃ r m, Q r m ∧ go' r m a b c d) (h : px_st g k pc ls M Q go cal len st i) : ∃ r m, Q r m ∧ px_st g k pc ls M (px_is r m) (go' r m) cal len st i := by
  cases i
  all_goals (try simp only [px_st] at h ⊢)
  all_goals (repeat' (split at h))
  all_goals first
    | exact h.elim
    | exact hgo _ _ _ _ h
    | (obtain ⟨r, m, h3, h4⟩ := hgo _ _ _ _ h.2; exact ⟨r, m, h3, h.1, h4⟩)
    | exact ⟨_, _, h.2, h.1, rfl, rfl⟩
    | (obtain ⟨r, m, h3, h4⟩ := hgo _ _ _ _ h.2.2; exact ⟨r, m, h3, h.1, h.2.1, h4⟩)
    | exact ⟨_, _, h.2.2, h.1, h.2.1, rfl, rfl⟩
    | (obtain ⟨r, m, h3, h4⟩ := hgo _ _ _ _ h.2.2.2; exact ⟨r, m, h3, h.1, h.2.1, h.2.2.1, h4⟩)
    | (obtain ⟨h1, r1, m1, h2, h3⟩ := h
       obtain ⟨r, m, h4, h5⟩ := hgo _ _ _ _ h3
       exact ⟨r, m, h4, h1, r1, m1, h2, h5⟩)
    | (obtain ⟨h0, h1, r1, m1, h2, h3⟩ := h
       obtain ⟨r, m, h4, h5⟩ := hgo _ _ _ _ h3
       exact ⟨r, m, h4, h0, h1, r1, m1, h2, h5⟩)
    | (rcases h with ⟨h1, h2⟩ | ⟨h1, h2⟩
       · obtain ⟨r, m, h3, h4⟩ := hgo _ _ _ _ h2
         exact ⟨r, m, h3, Or.inl ⟨h1, h4⟩⟩
       · obtain ⟨r, m, h3, h4⟩ := hgo _ _ _ _ h2
         exact ⟨r, m, h3, Or.inr ⟨h1, h4⟩⟩)
    | (rcases h with ⟨t, n, h0, h1, h2⟩ | ⟨h1, h2⟩
       · obtain ⟨r, m, h3, h4⟩ := hgo _ _ _ _ h2
         exact ⟨r, m, h3, Or.inl ⟨t, n, h0, h1, h4⟩⟩
       · obtain ⟨r, m, h3, h4⟩ := hgo _ _ _ _ h2
         exact ⟨r, m, h3, Or.inr ⟨h1, h4⟩⟩)
    | (obtain ⟨h1, h2, h3, ⟨h4, h5⟩ | ⟨h4, h5⟩⟩ := h
       · obtain ⟨r, m, h6, h7⟩ := hgo _ _ _ _ h5
         exact ⟨r, m, h6, h1, h2, h3, Or.inl ⟨h4, h7⟩⟩
       · obtain ⟨r, m, h6, h7⟩ := hgo _ _ _ _ h5
         exact ⟨r, m, h6, h1, h2, h3, Or.inr ⟨h4, h7⟩⟩)
    | (rename_i hc
       obtain ⟨r, m, h6, h7⟩ := hgo _ _ _ _ h
       exact ⟨r, m, h6, by rw [if_pos hc]; exact h7⟩)
    | (rename_i hc
       obtain ⟨r, m, h6, h7⟩ := hgo _ _ _ _ h.2.2.2
       exact ⟨r, m, h6, by rw [if_pos hc]; exact ⟨h.1, h.2.1, h.2.2.1, h7⟩⟩)
    | (rename_i hc
       obtain ⟨r, m, h6, h7⟩ := hgo _ _ _ _ h.2.2.2
       exact ⟨r, m, h6, by rw [if_neg hc]; exact ⟨h.1, h.2.1, h.2.2.1, h7⟩⟩)
    | skip
  · rename_i cd _ _ y x _
    cases cd
    · by_cases hc : x = y
      · obtain ⟨r, m, h3, h4⟩ := hgo _ _ _ _ (h.1 hc)
        exact ⟨r, m, h3, fun _ => h4, fun q => absurd hc q⟩
      · obtain ⟨r, m, h3, h4⟩ := hgo _ _ _ _ (h.2 hc)
        exact ⟨r, m, h3, fun q => absurd q hc, fun _ => h4⟩
    · by_cases hc : x = y
      · obtain ⟨r, m, h3, h4⟩ := hgo _ _ _ _ (h.2 hc)
        exact ⟨r, m, h3, fun q => absurd hc q, fun _ => h4⟩
      · obtain ⟨r, m, h3, h4⟩ := hgo _ _ _ _ (h.1 hc)
        exact ⟨r, m, h3, fun _ => h4, fun q => absurd q hc⟩
    · by_cases hc : x < y
      · obtain ⟨r, m, h3, h4⟩ := hgo _ _ _ _ (h.1 hc)
        exact ⟨r, m, h3, fun _ => h4, fun q => absurd hc q⟩
      · obtain ⟨r, m, h3, h4⟩ := hgo _ _ _ _ (h.2 hc)
        exact ⟨r, m, h3, fun q => absurd q hc, fun _ => h4⟩
    · by_cases hc : y ≤ x
      · obtain ⟨r, m, h3, h4⟩ := hgo _ _ _ _ (h.1 hc)
        exact ⟨r, m, h3, fun _ => h4, fun q => absurd hc q⟩
      · obtain ⟨r, m, h3, h4⟩ := hgo _ _ _ _ (h.2 hc)
        exact ⟨r, m, h3, fun q => absurd q hc, fun _ => h4⟩
    · by_cases hc : y < x
      · obtain ⟨r, m, h3, h4⟩ := hgo _ _ _ _ (h.1 hc)
        exact ⟨r, m, h3, fun _ => h4, fun q => absurd hc q⟩
      · obtain ⟨r, m, h3, h4⟩ := hgo _ _ _ _ (h.2 hc)
        exact ⟨r, m, h3, fun q => absurd q hc, fun _ => h4⟩
    · by_cases hc : x ≤ y
      · obtain ⟨r, m, h3, h4⟩ := hgo _ _ _ _ (h.1 hc)
        exact ⟨r, m, h3, fun _ => h4, fun q => absurd hc q⟩
      · obtain ⟨r, m, h3, h4⟩ := hgo _ _ _ _ (h.2 hc)
        exact ⟨r, m, h3, fun q => absurd q hc, fun _ => h4⟩
  · rename_i cd _ _ x _
    cases cd
    · by_cases hc : x = 0
      · obtain ⟨r, m, h3, h4⟩ := hgo _ _ _ _ (h.1 hc)
        exact ⟨r, m, h3, fun _ => h4, fun q => absurd hc q⟩
      · obtain ⟨r, m, h3, h4⟩ := hgo _ _ _ _ (h.2 hc)
        exact ⟨r, m, h3, fun q => absurd q hc, fun _ => h4⟩
    · by_cases hc : x = 0
      · obtain ⟨r, m, h3, h4⟩ := hgo _ _ _ _ (h.2 hc)
        exact ⟨r, m, h3, fun q => absurd hc q, fun _ => h4⟩
      · obtain ⟨r, m, h3, h4⟩ := hgo _ _ _ _ (h.1 hc)
        exact ⟨r, m, h3, fun _ => h4, fun q => absurd q hc⟩
    · by_cases hc : x < 0
      · obtain ⟨r, m, h3, h4⟩ := hgo _ _ _ _ (h.1 hc)
        exact ⟨r, m, h3, fun _ => h4, fun q => absurd hc q⟩
      · obtain ⟨r, m, h3, h4⟩ := hgo _ _ _ _ (h.2 hc)
        exact ⟨r, m, h3, fun q => absurd q hc, fun _ => h4⟩
    · by_cases hc : 0 ≤ x
      · obtain ⟨r, m, h3, h4⟩ := hgo _ _ _ _ (h.1 hc)
        exact ⟨r, m, h3, fun _ => h4, fun q => absurd hc q⟩
      · obtain ⟨r, m, h3, h4⟩ := hgo _ _ _ _ (h.2 hc)
        exact ⟨r, m, h3, fun q => absurd q hc, fun _ => h4⟩
    · by_cases hc : 0 < x
      · obtain ⟨r, m, h3, h4⟩ := hgo _ _ _ _ (h.1 hc)
        exact ⟨r, m, h3, fun _ => h4, fun q => absurd hc q⟩
      · obtain ⟨r, m, h3, h4⟩ := hgo _ _ _ _ (h.2 hc)
        exact ⟨r, m, h3, fun q => absurd q hc, fun _ => h4⟩
    · by_cases hc : x ≤ 0
      · obtain ⟨r, m, h3, h4⟩ := hgo _ _ _ _ (h.1 hc)
        exact ⟨r, m, h3, fun _ => h4, fun q => absurd hc q⟩
      · obtain ⟨r, m, h3, h4⟩ := hgo _ _ _ _ (h.2 hc)
        exact ⟨r, m, h3, fun q => absurd q hc, fun _ => h4⟩
theorem px_wp_det {g : Nat} : ∀ (n : Nat) {k pc : Nat} {ls : px_Lo} {st : List Value} {M : px_Mem} {Q : px_Po}, px_wp g n k pc ls st M Q → ∃ r m, Q r m ∧ px_wp g n k pc ls st M (px_is r m)
  | 0, _, _, _, _, _, _, h => h.elim
  | n + 1, k, pc, ls, st, M, Q, h => by
    unfold px_wp at h
    split at h
    · rename_i i len hin
      obtain ⟨r, m, h1, h2⟩ := px_st_det (go' := fun r m pc' ls' st' M' => px_wp g n k pc' ls' st' M' (px_is r m)) (fun _ _ _ _ h => px_wp_det n h) h
      refine ⟨r, m, h1, ?_⟩
      unfold px_wp
      rw [hin]
      exact h2
    · exact h.elim
def px_T (g k pc : Nat) (ls : px_Lo) (st : List Value) (M : px_Mem) (Q : px_Po) : Prop := ∃ n, px_wp g n k pc ls st M Q
theorem px_T_mono {g k pc : Nat} {ls : px_Lo} {st : List Value} {M : px_Mem} {Q Q' : px_Po} (h : px_T g k pc ls st M Q) (hQ : ∀ r m, Q r m → Q' r m) : px_T g k pc ls st M Q' := by
  obtain ⟨n, h⟩ := h
  exact ⟨n, px_wp_mono n n (Nat.le_refl n) hQ h⟩
theorem px_T_cl {g k pc y : Nat} {ls : px_Lo} {st : List Value} {M : px_Mem} {Q : px_Po} (hok : px_cok k y st = true) (h : px_T g y 0 (px_ent y (st.take (px_na y)).reverse) [] M (fun r M' => px_T g k (pc + 3) ls (r.toList ++ st.drop (px_na y)) M' Q)) : ∃ n, px_call k pc ls M (fun pc' ls' st' M' => px_wp g n k pc' ls' st' M' Q) (fun y vs M' Q' => px_wp g n y 0 (px_ent y vs) [] M' Q') y st := by
  obtain ⟨n1, h1⟩ := h
  obtain ⟨r, m, ⟨n2, h2⟩, h3⟩ := px_wp_det n1 h1
  exact ⟨n1 + n2, hok, r, m, px_wp_mono n1 _ (Nat.le_add_right _ _) (fun _ _ h => h) h3, px_wp_mono n2 _ (Nat.le_add_left _ _) (fun _ _ h => h) h2⟩
theorem px_T_sw {g k pc len t : Nat} {ls : px_Lo} {r : List Value} {M : px_Mem} {Q : px_Po} {d lo hi : Int} {offs : Array Int} {x : Int32} (hin : px_in k pc = some (.tableswitch d lo hi offs, len)) (ht : px_sw pc d lo hi offs x = t) (h : px_T g k t ls r M Q) : px_T g k pc ls (.int x :: r) M Q := by
  subst ht
  obtain ⟨n, h⟩ := h
  refine ⟨n + 1, ?_⟩
  unfold px_wp
  rw [hin]
  exact h
theorem px_sw_o {pc N : Nat} {d : Int} {offs : Array Int} {x : Int32} (hN : N < 2 ^ 31) (h : ∀ v : Nat, v < N → ¬ x = nI v) : px_sw pc d 0 ((N : Int) - 1) offs x = px_jt pc d := by
  unfold px_sw
  rw [if_pos]
  by_cases h1 : x.toInt < 0
  · exact Or.inl h1
  · right
    by_cases h2 : (N : Int) - 1 < x.toInt
    · exact h2
    · exfalso
      obtain ⟨j, hj, rfl⟩ := nI_of (x := x) (by rw [Int32.lt_iff_toInt_lt, Int32.toInt_zero]; exact h1)
      rw [nI_toInt hj] at h2
      exact h j (by omega) rfl
def px_isW (o : Nat) : Prop := o = 29 ∨ o = 47
def px_isS (o : Nat) : Prop := o = 4 ∨ o = 6 ∨ o = 9 ∨ o = 11 ∨ o = 13
def px_isR (o : Nat) : Prop := o = 16 ∨ o = 18 ∨ o = 20 ∨ o = 22
