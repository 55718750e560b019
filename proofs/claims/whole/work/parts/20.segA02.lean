theorem sg_40_87 {d0 : Option Value} {d1 : Option Value} {d2 : Option Value} {d3 : Option Value} {d4 : Option Value} {d6 : Option Value} {d8 : Option Value} {M : px_Mem} {Q : px_Po} (h1 : Q (some (.int 0)) M) : px_T 0 40 87 [d0, d1, d2, d3, d4, none, d6, none, d8, none] [] M Q := by
  exact ⟨2, ⟨Or.inl rfl, h1⟩⟩
theorem sg_40_71 {x1 : Nat} {x2 : Int32} {x3 : Int32} {x4 : Int64} {x6 : Int64} {x8 : Int64} {M : px_Mem} {Q : px_Po} (h_x1 : px_isR x1) (h1 : ((lg_cmp x6 1) < 0) → px_T 0 40 87 [some (.ref 24), some (.ref x1), some (.int x2), some (.int x3), some (.long x4), none, some (.long x6), none, some (.long x8), none] [] M Q) (h2 : (¬ ((lg_cmp x6 1) < 0)) → ((lg_cmp x6 15) ≤ 0) → ((lg_cmp x8 (-1)) < 0) → Q (some (.int 0)) M) (h3 : (¬ ((lg_cmp x6 1) < 0)) → ((lg_cmp x6 15) ≤ 0) → (¬ ((lg_cmp x8 (-1)) < 0)) → ((lg_cmp x8 15) ≤ 0) → px_T 0 41 0 [some (.ref 24), some (.int x4.toInt32), some (.int x6.toInt32), some (.int x8.toInt32), none] [] M (fun r M1 => px_T 0 40 122 [some (.ref 24), some (.ref x1), some (.int x2), some (.int x3), some (.long x4), none, some (.long x6), none, some (.long x8), none] (r.toList ++ []) M1 Q)) (h4 : (¬ ((lg_cmp x6 1) < 0)) → ((lg_cmp x6 15) ≤ 0) → (¬ ((lg_cmp x8 (-1)) < 0)) → (¬ ((lg_cmp x8 15) ≤ 0)) → Q (some (.int 0)) M) (h5 : (¬ ((lg_cmp x6 1) < 0)) → (¬ ((lg_cmp x6 15) ≤ 0)) → px_T 0 40 87 [some (.ref 24), some (.ref x1), some (.int x2), some (.int x3), some (.long x4), none, some (.long x6), none, some (.long x8), none] [] M Q) : px_T 0 40 71 [some (.ref 24), some (.ref x1), some (.int x2), some (.int x3), some (.long x4), none, some (.long x6), none, some (.long x8), none] [] M Q := by
  rcases h_x1 with rfl | rfl | rfl | rfl
  · by_cases c1 : (lg_cmp x6 1) < 0
    · obtain ⟨n, h⟩ := h1 c1
      exact ⟨n + 4, ⟨fun _ => h, fun q => absurd c1 q⟩⟩
    · by_cases c2 : (lg_cmp x6 15) ≤ 0
      · by_cases c3 : (lg_cmp x8 (-1)) < 0
        · exact ⟨14, ⟨fun q => absurd q c1, fun _ => ⟨fun _ => ⟨fun _ => ⟨Or.inl rfl, h2 c1 c2 c3⟩, fun q => absurd c3 q⟩, fun q => absurd c2 q⟩⟩⟩
        · by_cases c4 : (lg_cmp x8 15) ≤ 0
          · obtain ⟨n, h⟩ := px_T_cl (k := 40) (pc := 119) (y := 41) (st := [.int x8.toInt32, .int x6.toInt32, .int x4.toInt32, .ref 24]) rfl (h3 c1 c2 c3 c4)
            exact ⟨n + 24, ⟨fun q => absurd q c1, fun _ => ⟨fun _ => ⟨fun q => absurd q c3, fun _ => ⟨fun _ => ⟨rfl, h⟩, fun q => absurd c4 q⟩⟩, fun q => absurd c2 q⟩⟩⟩
          · exact ⟨18, ⟨fun q => absurd q c1, fun _ => ⟨fun _ => ⟨fun q => absurd q c3, fun _ => ⟨fun q => absurd q c4, fun _ => ⟨Or.inl rfl, h4 c1 c2 c3 c4⟩⟩⟩, fun q => absurd c2 q⟩⟩⟩
      · obtain ⟨n, h⟩ := h5 c1 c2
        exact ⟨n + 8, ⟨fun q => absurd q c1, fun _ => ⟨fun q => absurd q c2, fun _ => h⟩⟩⟩
  · by_cases c1 : (lg_cmp x6 1) < 0
    · obtain ⟨n, h⟩ := h1 c1
      exact ⟨n + 4, ⟨fun _ => h, fun q => absurd c1 q⟩⟩
    · by_cases c2 : (lg_cmp x6 15) ≤ 0
      · by_cases c3 : (lg_cmp x8 (-1)) < 0
        · exact ⟨14, ⟨fun q => absurd q c1, fun _ => ⟨fun _ => ⟨fun _ => ⟨Or.inl rfl, h2 c1 c2 c3⟩, fun q => absurd c3 q⟩, fun q => absurd c2 q⟩⟩⟩
        · by_cases c4 : (lg_cmp x8 15) ≤ 0
          · obtain ⟨n, h⟩ := px_T_cl (k := 40) (pc := 119) (y := 41) (st := [.int x8.toInt32, .int x6.toInt32, .int x4.toInt32, .ref 24]) rfl (h3 c1 c2 c3 c4)
            exact ⟨n + 24, ⟨fun q => absurd q c1, fun _ => ⟨fun _ => ⟨fun q => absurd q c3, fun _ => ⟨fun _ => ⟨rfl, h⟩, fun q => absurd c4 q⟩⟩, fun q => absurd c2 q⟩⟩⟩
          · exact ⟨18, ⟨fun q => absurd q c1, fun _ => ⟨fun _ => ⟨fun q => absurd q c3, fun _ => ⟨fun q => absurd q c4, fun _ => ⟨Or.inl rfl, h4 c1 c2 c3 c4⟩⟩⟩, fun q => absurd c2 q⟩⟩⟩
      · obtain ⟨n, h⟩ := h5 c1 c2
        exact ⟨n + 8, ⟨fun q => absurd q c1, fun _ => ⟨fun q => absurd q c2, fun _ => h⟩⟩⟩
  · by_cases c1 : (lg_cmp x6 1) < 0
    · obtain ⟨n, h⟩ := h1 c1
      exact ⟨n + 4, ⟨fun _ => h, fun q => absurd c1 q⟩⟩
    · by_cases c2 : (lg_cmp x6 15) ≤ 0
      · by_cases c3 : (lg_cmp x8 (-1)) < 0
        · exact ⟨14, ⟨fun q => absurd q c1, fun _ => ⟨fun _ => ⟨fun _ => ⟨Or.inl rfl, h2 c1 c2 c3⟩, fun q => absurd c3 q⟩, fun q => absurd c2 q⟩⟩⟩
        · by_cases c4 : (lg_cmp x8 15) ≤ 0
          · obtain ⟨n, h⟩ := px_T_cl (k := 40) (pc := 119) (y := 41) (st := [.int x8.toInt32, .int x6.toInt32, .int x4.toInt32, .ref 24]) rfl (h3 c1 c2 c3 c4)
            exact ⟨n + 24, ⟨fun q => absurd q c1, fun _ => ⟨fun _ => ⟨fun q => absurd q c3, fun _ => ⟨fun _ => ⟨rfl, h⟩, fun q => absurd c4 q⟩⟩, fun q => absurd c2 q⟩⟩⟩
          · exact ⟨18, ⟨fun q => absurd q c1, fun _ => ⟨fun _ => ⟨fun q => absurd q c3, fun _ => ⟨fun q => absurd q c4, fun _ => ⟨Or.inl rfl, h4 c1 c2 c3 c4⟩⟩⟩, fun q => absurd c2 q⟩⟩⟩
      · obtain ⟨n, h⟩ := h5 c1 c2
        exact ⟨n + 8, ⟨fun q => absurd q c1, fun _ => ⟨fun q => absurd q c2, fun _ => h⟩⟩⟩
  · by_cases c1 : (lg_cmp x6 1) < 0
    · obtain ⟨n, h⟩ := h1 c1
      exact ⟨n + 4, ⟨fun _ => h, fun q => absurd c1 q⟩⟩
    · by_cases c2 : (lg_cmp x6 15) ≤ 0
      · by_cases c3 : (lg_cmp x8 (-1)) < 0
        · exact ⟨14, ⟨fun q => absurd q c1, fun _ => ⟨fun _ => ⟨fun _ => ⟨Or.inl rfl, h2 c1 c2 c3⟩, fun q => absurd c3 q⟩, fun q => absurd c2 q⟩⟩⟩
        · by_cases c4 : (lg_cmp x8 15) ≤ 0
          · obtain ⟨n, h⟩ := px_T_cl (k := 40) (pc := 119) (y := 41) (st := [.int x8.toInt32, .int x6.toInt32, .int x4.toInt32, .ref 24]) rfl (h3 c1 c2 c3 c4)
            exact ⟨n + 24, ⟨fun q => absurd q c1, fun _ => ⟨fun _ => ⟨fun q => absurd q c3, fun _ => ⟨fun _ => ⟨rfl, h⟩, fun q => absurd c4 q⟩⟩, fun q => absurd c2 q⟩⟩⟩
          · exact ⟨18, ⟨fun q => absurd q c1, fun _ => ⟨fun _ => ⟨fun q => absurd q c3, fun _ => ⟨fun q => absurd q c4, fun _ => ⟨Or.inl rfl, h4 c1 c2 c3 c4⟩⟩⟩, fun q => absurd c2 q⟩⟩⟩
      · obtain ⟨n, h⟩ := h5 c1 c2
        exact ⟨n + 8, ⟨fun q => absurd q c1, fun _ => ⟨fun q => absurd q c2, fun _ => h⟩⟩⟩
theorem sg_40_122 {x1 : Nat} {x2 : Int32} {x3 : Int32} {d4 : Option Value} {d6 : Option Value} {d8 : Option Value} {M : px_Mem} {Q : px_Po} (h_x1 : px_isR x1) (h1 : px_T 0 40 18 [some (.ref 24), some (.ref x1), some (.int x2), some (.int (x3 + 3)), d4, none, d6, none, d8, none] [] M Q) : px_T 0 40 122 [some (.ref 24), some (.ref x1), some (.int x2), some (.int x3), d4, none, d6, none, d8, none] [] M Q := by
  rcases h_x1 with rfl | rfl | rfl | rfl
  · obtain ⟨n, h⟩ := h1
    exact ⟨n + 2, h⟩
  · obtain ⟨n, h⟩ := h1
    exact ⟨n + 2, h⟩
  · obtain ⟨n, h⟩ := h1
    exact ⟨n + 2, h⟩
  · obtain ⟨n, h⟩ := h1
    exact ⟨n + 2, h⟩
theorem sg_41_0 {x1 : Int32} {x2 : Int32} {x3 : Int32} {M : px_Mem} {Q : px_Po} (h1 : ((M.1 24 3) < 20) → px_T 0 41 16 [some (.ref 24), some (.int x1), some (.int x2), some (.int x3), some (.int (M.1 24 3))] [] M Q) (h2 : (¬ ((M.1 24 3) < 20)) → Q none M) : px_T 0 41 0 [some (.ref 24), some (.int x1), some (.int x2), some (.int x3), none] [] M Q := by
  by_cases c1 : (M.1 24 3) < 20
  · obtain ⟨n, h⟩ := h1 c1
    exact ⟨n + 7, ⟨rfl, ⟨fun _ => ⟨rfl, h⟩, fun q => absurd c1 q⟩⟩⟩
  · exact ⟨5, ⟨rfl, ⟨fun q => absurd q c1, fun _ => ⟨rfl, h2 c1⟩⟩⟩⟩
theorem sg_41_16 {x1 : Int32} {x2 : Int32} {x3 : Int32} {x4 : Int32} {M : px_Mem} {Q : px_Po} (h1 : (x4 ≤ 0) → vp_in x4 20) (h2 : (x4 ≤ 0) → Q none (px_wI (px_wI (px_wI (px_wI M 25 x4.toNatClampNeg x1) 26 x4.toNatClampNeg x2) 27 x4.toNatClampNeg x3) 24 3 ((M.1 24 3) + 1))) (h3 : (¬ (x4 ≤ 0)) → vp_in (x4 - 1) 20) (h4 : (¬ (x4 ≤ 0)) → ((M.1 25 ((x4 - 1).toNatClampNeg)) ≤ x1) → vp_in x4 20) (h5 : (¬ (x4 ≤ 0)) → ((M.1 25 ((x4 - 1).toNatClampNeg)) ≤ x1) → px_T 0 41 112 [some (.ref 24), some (.int x1), some (.int x2), some (.int x3), some (.int x4)] [] (px_wI (px_wI (px_wI M 25 x4.toNatClampNeg x1) 26 x4.toNatClampNeg x2) 27 x4.toNatClampNeg x3) Q) (h6 : (¬ (x4 ≤ 0)) → (¬ ((M.1 25 ((x4 - 1).toNatClampNeg)) ≤ x1)) → vp_in x4 20) (h7 : (¬ (x4 ≤ 0)) → (¬ ((M.1 25 ((x4 - 1).toNatClampNeg)) ≤ x1)) → px_T 0 41 66 [some (.ref 24), some (.int x1), some (.int x2), some (.int x3), some (.int x4)] [] (px_wI (px_wI M 25 x4.toNatClampNeg (M.1 25 ((x4 - 1).toNatClampNeg))) 26 x4.toNatClampNeg (M.1 26 ((x4 - 1).toNatClampNeg))) Q) : px_T 0 41 16 [some (.ref 24), some (.int x1), some (.int x2), some (.int x3), some (.int x4)] [] M Q := by
  by_cases c1 : x4 ≤ 0
  · exact ⟨24, ⟨fun _ => ⟨rfl, ⟨⟨20, rfl, (h1 c1)⟩, ⟨rfl, ⟨⟨20, rfl, (h1 c1)⟩, ⟨rfl, ⟨⟨20, rfl, (h1 c1)⟩, ⟨rfl, ⟨rfl, ⟨rfl, h2 c1⟩⟩⟩⟩⟩⟩⟩⟩⟩, fun q => absurd c1 q⟩⟩
  · by_cases c2 : (M.1 25 ((x4 - 1).toNatClampNeg)) ≤ x1
    · obtain ⟨n, h⟩ := h5 c1 c2
      exact ⟨n + 25, ⟨fun q => absurd q c1, fun _ => ⟨rfl, ⟨Or.inl ⟨0, 20, Or.inl rfl, rfl, (h3 c1)⟩, ⟨fun _ => ⟨rfl, ⟨⟨20, rfl, (h4 c1 c2)⟩, ⟨rfl, ⟨⟨20, rfl, (h4 c1 c2)⟩, ⟨rfl, ⟨⟨20, rfl, (h4 c1 c2)⟩, h⟩⟩⟩⟩⟩⟩, fun q => absurd c2 q⟩⟩⟩⟩⟩
    · obtain ⟨n, h⟩ := h7 c1 c2
      exact ⟨n + 30, ⟨fun q => absurd q c1, fun _ => ⟨rfl, ⟨Or.inl ⟨0, 20, Or.inl rfl, rfl, (h3 c1)⟩, ⟨fun q => absurd q c2, fun _ => ⟨rfl, ⟨rfl, ⟨Or.inl ⟨0, 20, Or.inl rfl, rfl, (h3 c1)⟩, ⟨⟨20, rfl, (h6 c1 c2)⟩, ⟨rfl, ⟨rfl, ⟨Or.inl ⟨0, 20, Or.inl rfl, rfl, (h3 c1)⟩, ⟨⟨20, rfl, (h6 c1 c2)⟩, h⟩⟩⟩⟩⟩⟩⟩⟩⟩⟩⟩⟩⟩
theorem sg_41_112 {d1 : Option Value} {d2 : Option Value} {d3 : Option Value} {d4 : Option Value} {M : px_Mem} {Q : px_Po} (h1 : Q none (px_wI M 24 3 ((M.1 24 3) + 1))) : px_T 0 41 112 [some (.ref 24), d1, d2, d3, d4] [] M Q := by
  exact ⟨7, ⟨rfl, ⟨rfl, ⟨rfl, h1⟩⟩⟩⟩
theorem sg_41_66 {x1 : Int32} {x2 : Int32} {x3 : Int32} {x4 : Int32} {M : px_Mem} {Q : px_Po} (h1 : vp_in (x4 - 1) 20) (h2 : vp_in x4 20) (h3 : px_T 0 41 82 [some (.ref 24), some (.int x1), some (.int x2), some (.int x3), some (.int x4)] [] (px_wI M 27 x4.toNatClampNeg (M.1 27 ((x4 - 1).toNatClampNeg))) Q) : px_T 0 41 66 [some (.ref 24), some (.int x1), some (.int x2), some (.int x3), some (.int x4)] [] M Q := by
  obtain ⟨n, h⟩ := h3
  exact ⟨n + 10, ⟨rfl, ⟨rfl, ⟨Or.inl ⟨0, 20, Or.inl rfl, rfl, h1⟩, ⟨⟨20, rfl, h2⟩, h⟩⟩⟩⟩⟩
theorem px_T_ii {g k pc j len : Nat} {ls : px_Lo} {st : List Value} {M : px_Mem} {Q : px_Po} {x : Int32} {c : Int} (hin : px_in k pc = some (.iinc j c, len)) (hx : px_ld ls j = some (.int x)) (h : px_T g k (pc + 3) (px_s1 k ls j (.int (x + Int32.ofInt c))) st M Q) : px_T g k pc ls st M Q := by
  obtain ⟨n, h⟩ := h
  refine ⟨n + 1, ?_⟩
  unfold px_wp
  rw [hin]
  simp only [px_st, hx]
  exact h
theorem sg_41_85 {y : Int32} {x1 : Int32} {x2 : Int32} {x3 : Int32} {M : px_Mem} {Q : px_Po} (h1 : px_T 0 41 16 [some (.ref 24), some (.int x1), some (.int x2), some (.int x3), some (.int y)] [] M Q) : px_T 0 41 85 [some (.ref 24), some (.int x1), some (.int x2), some (.int x3), some (.int y)] [] M Q := by
  obtain ⟨n, h⟩ := h1
  exact ⟨n + 1, h⟩
theorem sg_41_82 {x1 : Int32} {x2 : Int32} {x3 : Int32} {x4 : Int32} {M : px_Mem} {Q : px_Po} (h1 : px_T 0 41 16 [some (.ref 24), some (.int x1), some (.int x2), some (.int x3), some (.int (x4 + (Int32.ofInt (-1))))] [] M Q) : px_T 0 41 82 [some (.ref 24), some (.int x1), some (.int x2), some (.int x3), some (.int x4)] [] M Q :=
  px_T_ii (j := 4) (c := -1) (len := 3) rfl rfl (sg_41_85 h1)
theorem sg_42_0 {x1 : Int32} {x2 : Int32} {x3 : Nat} {M : px_Mem} {Q : px_Po} (h_x3 : px_isW x3) (h1 : px_T 0 42 3 [some (.ref 24), some (.int x1), some (.int x2), some (.ref x3), some (.int x1)] [] M Q) : px_T 0 42 0 [some (.ref 24), some (.int x1), some (.int x2), some (.ref x3), none] [] M Q := by
  rcases h_x3 with rfl | rfl
  · obtain ⟨n, h⟩ := h1
    exact ⟨n + 2, h⟩
  · obtain ⟨n, h⟩ := h1
    exact ⟨n + 2, h⟩
theorem sg_42_3 {d1 : Option Value} {x2 : Int32} {x3 : Nat} {x4 : Int32} {M : px_Mem} {Q : px_Po} (h_x3 : px_isW x3) (h1 : (x4 < 0) → Q (some (.int x4)) M) (h2 : (¬ (x4 < 0)) → ((M.1 24 3) ≤ x4) → Q (some (.int x4)) M) (h3 : (¬ (x4 < 0)) → (¬ ((M.1 24 3) ≤ x4)) → vp_in x4 20) (h4 : (¬ (x4 < 0)) → (¬ ((M.1 24 3) ≤ x4)) → ((M.1 25 x4.toNatClampNeg) = x2) → px_T 0 64 0 [some (.ref x3), some (.int (M.1 26 x4.toNatClampNeg))] [] M (fun r M1 => px_T 0 42 39 [some (.ref 24), d1, some (.int x2), some (.ref x3), some (.int x4)] (r.toList ++ []) M1 Q)) (h5 : (¬ (x4 < 0)) → (¬ ((M.1 24 3) ≤ x4)) → (¬ ((M.1 25 x4.toNatClampNeg) = x2)) → Q (some (.int x4)) M) : px_T 0 42 3 [some (.ref 24), d1, some (.int x2), some (.ref x3), some (.int x4)] [] M Q := by
  rcases h_x3 with rfl | rfl
  · by_cases c1 : x4 < 0
    · exact ⟨4, ⟨fun _ => ⟨trivial, h1 c1⟩, fun q => absurd c1 q⟩⟩
    · by_cases c2 : (M.1 24 3) ≤ x4
      · exact ⟨8, ⟨fun q => absurd q c1, fun _ => ⟨rfl, ⟨fun _ => ⟨trivial, h2 c1 c2⟩, fun q => absurd c2 q⟩⟩⟩⟩
      · by_cases c3 : (M.1 25 x4.toNatClampNeg) = x2
        · obtain ⟨n, h⟩ := px_T_cl (k := 42) (pc := 36) (y := 64) (st := [.int (M.1 26 x4.toNatClampNeg), .ref 29]) rfl (h4 c1 c2 c3)
          exact ⟨n + 18, ⟨fun q => absurd q c1, fun _ => ⟨rfl, ⟨fun q => absurd q c2, fun _ => ⟨rfl, ⟨Or.inl ⟨0, 20, Or.inl rfl, rfl, (h3 c1 c2)⟩, ⟨fun q => absurd c3 q, fun _ => ⟨rfl, ⟨Or.inl ⟨0, 20, Or.inl rfl, rfl, (h3 c1 c2)⟩, ⟨rfl, h⟩⟩⟩⟩⟩⟩⟩⟩⟩⟩
        · exact ⟨14, ⟨fun q => absurd q c1, fun _ => ⟨rfl, ⟨fun q => absurd q c2, fun _ => ⟨rfl, ⟨Or.inl ⟨0, 20, Or.inl rfl, rfl, (h3 c1 c2)⟩, ⟨fun _ => ⟨trivial, h5 c1 c2 c3⟩, fun q => absurd q c3⟩⟩⟩⟩⟩⟩⟩
  · by_cases c1 : x4 < 0
    · exact ⟨4, ⟨fun _ => ⟨trivial, h1 c1⟩, fun q => absurd c1 q⟩⟩
    · by_cases c2 : (M.1 24 3) ≤ x4
      · exact ⟨8, ⟨fun q => absurd q c1, fun _ => ⟨rfl, ⟨fun _ => ⟨trivial, h2 c1 c2⟩, fun q => absurd c2 q⟩⟩⟩⟩
      · by_cases c3 : (M.1 25 x4.toNatClampNeg) = x2
        · obtain ⟨n, h⟩ := px_T_cl (k := 42) (pc := 36) (y := 64) (st := [.int (M.1 26 x4.toNatClampNeg), .ref 47]) rfl (h4 c1 c2 c3)
          exact ⟨n + 18, ⟨fun q => absurd q c1, fun _ => ⟨rfl, ⟨fun q => absurd q c2, fun _ => ⟨rfl, ⟨Or.inl ⟨0, 20, Or.inl rfl, rfl, (h3 c1 c2)⟩, ⟨fun q => absurd c3 q, fun _ => ⟨rfl, ⟨Or.inl ⟨0, 20, Or.inl rfl, rfl, (h3 c1 c2)⟩, ⟨rfl, h⟩⟩⟩⟩⟩⟩⟩⟩⟩⟩
        · exact ⟨14, ⟨fun q => absurd q c1, fun _ => ⟨rfl, ⟨fun q => absurd q c2, fun _ => ⟨rfl, ⟨Or.inl ⟨0, 20, Or.inl rfl, rfl, (h3 c1 c2)⟩, ⟨fun _ => ⟨trivial, h5 c1 c2 c3⟩, fun q => absurd q c3⟩⟩⟩⟩⟩⟩⟩
theorem sg_42_39 {d1 : Option Value} {x2 : Int32} {x3 : Nat} {x4 : Int32} {s0 : Int32} {M : px_Mem} {Q : px_Po} (h_x3 : px_isW x3) (h1 : vp_in x4 20) (h2 : (s0 = (M.1 27 x4.toNatClampNeg)) → px_T 0 42 3 [some (.ref 24), d1, some (.int x2), some (.ref x3), some (.int (x4 + 1))] [] M Q) (h3 : (¬ (s0 = (M.1 27 x4.toNatClampNeg))) → Q (some (.int (-1))) M) : px_T 0 42 39 [some (.ref 24), d1, some (.int x2), some (.ref x3), some (.int x4)] [.int s0] M Q := by
  rcases h_x3 with rfl | rfl
  · by_cases c1 : s0 = (M.1 27 x4.toNatClampNeg)
    · obtain ⟨n, h⟩ := h2 c1
      exact ⟨n + 7, ⟨rfl, ⟨Or.inl ⟨0, 20, Or.inl rfl, rfl, h1⟩, ⟨fun _ => h, fun q => absurd c1 q⟩⟩⟩⟩
    · exact ⟨7, ⟨rfl, ⟨Or.inl ⟨0, 20, Or.inl rfl, rfl, h1⟩, ⟨fun q => absurd q c1, fun _ => ⟨trivial, h3 c1⟩⟩⟩⟩⟩
  · by_cases c1 : s0 = (M.1 27 x4.toNatClampNeg)
    · obtain ⟨n, h⟩ := h2 c1
      exact ⟨n + 7, ⟨rfl, ⟨Or.inl ⟨0, 20, Or.inl rfl, rfl, h1⟩, ⟨fun _ => h, fun q => absurd c1 q⟩⟩⟩⟩
    · exact ⟨7, ⟨rfl, ⟨Or.inl ⟨0, 20, Or.inl rfl, rfl, h1⟩, ⟨fun q => absurd q c1, fun _ => ⟨trivial, h3 c1⟩⟩⟩⟩⟩
theorem sg_43_0 {M : px_Mem} {Q : px_Po} (h1 : Q none (px_wI M 38 8 0)) : px_T 0 43 0 [some (.ref 38)] [] M Q := by
  exact ⟨4, ⟨rfl, ⟨rfl, h1⟩⟩⟩
theorem sg_44_0 {x1 : Nat} {M : px_Mem} {Q : px_Po} (h_x1 : px_isW x1) (h1 : px_T 0 340 0 [some (.ref 39), some (.int (-1)), none, none] [] M (fun r M1 => px_T 0 44 8 [some (.ref 38), some (.ref x1), none, none, none] (r.toList ++ []) M1 Q)) : px_T 0 44 0 [some (.ref 38), some (.ref x1), none, none, none] [] M Q := by
  rcases h_x1 with rfl | rfl
  · obtain ⟨n, h⟩ := px_T_cl (k := 44) (pc := 5) (y := 340) (st := [.int (-1), .ref 39]) rfl (h1)
    exact ⟨n + 4, ⟨rfl, h⟩⟩
  · obtain ⟨n, h⟩ := px_T_cl (k := 44) (pc := 5) (y := 340) (st := [.int (-1), .ref 39]) rfl (h1)
    exact ⟨n + 4, ⟨rfl, h⟩⟩
theorem sg_44_8 {x1 : Nat} {d2 : Option Value} {d3 : Option Value} {d4 : Option Value} {M : px_Mem} {Q : px_Po} (h_x1 : px_isW x1) (h1 : px_T 0 44 15 [some (.ref 38), some (.ref x1), some (.int 1), d3, d4] [] (px_wI M 38 4 0) Q) : px_T 0 44 8 [some (.ref 38), some (.ref x1), d2, d3, d4] [] M Q := by
  rcases h_x1 with rfl | rfl
  · obtain ⟨n, h⟩ := h1
    exact ⟨n + 5, ⟨rfl, h⟩⟩
  · obtain ⟨n, h⟩ := h1
    exact ⟨n + 5, ⟨rfl, h⟩⟩
theorem sg_44_15 {x1 : Nat} {x2 : Int32} {d3 : Option Value} {d4 : Option Value} {M : px_Mem} {Q : px_Po} (h_x1 : px_isW x1) (h1 : ((15 : Int32) < x2) → Q none M) (h2 : (¬ ((15 : Int32) < x2)) → px_T 0 44 23 [some (.ref 38), some (.ref x1), some (.int x2), some (.int 0), d4] [] M Q) : px_T 0 44 15 [some (.ref 38), some (.ref x1), some (.int x2), d3, d4] [] M Q := by
  rcases h_x1 with rfl | rfl
  · by_cases c1 : (15 : Int32) < x2
    · exact ⟨4, ⟨fun _ => ⟨rfl, h1 c1⟩, fun q => absurd c1 q⟩⟩
    · obtain ⟨n, h⟩ := h2 c1
      exact ⟨n + 5, ⟨fun q => absurd q c1, fun _ => h⟩⟩
  · by_cases c1 : (15 : Int32) < x2
    · exact ⟨4, ⟨fun _ => ⟨rfl, h1 c1⟩, fun q => absurd c1 q⟩⟩
    · obtain ⟨n, h⟩ := h2 c1
      exact ⟨n + 5, ⟨fun q => absurd q c1, fun _ => h⟩⟩
theorem sg_44_23 {x1 : Nat} {x2 : Int32} {x3 : Int32} {d4 : Option Value} {M : px_Mem} {Q : px_Po} (h_x1 : px_isW x1) (h1 : ((8 : Int32) ≤ x3) → px_T 0 44 15 [some (.ref 38), some (.ref x1), some (.int (x2 + 1)), some (.int x3), d4] [] M Q) (h2 : (¬ ((8 : Int32) ≤ x3)) → px_T 0 68 0 [some (.ref x1), some (.int x2), some (.int x3), none] [] M (fun r M1 => px_T 0 44 35 [some (.ref 38), some (.ref x1), some (.int x2), some (.int x3), d4] (r.toList ++ []) M1 Q)) : px_T 0 44 23 [some (.ref 38), some (.ref x1), some (.int x2), some (.int x3), d4] [] M Q := by
  rcases h_x1 with rfl | rfl
  · by_cases c1 : (8 : Int32) ≤ x3
    · obtain ⟨n, h⟩ := h1 c1
      exact ⟨n + 5, ⟨fun _ => h, fun q => absurd c1 q⟩⟩
    · obtain ⟨n, h⟩ := px_T_cl (k := 44) (pc := 32) (y := 68) (st := [.int x3, .int x2, .ref 29]) rfl (h2 c1)
      exact ⟨n + 7, ⟨fun q => absurd q c1, fun _ => ⟨rfl, h⟩⟩⟩
  · by_cases c1 : (8 : Int32) ≤ x3
    · obtain ⟨n, h⟩ := h1 c1
      exact ⟨n + 5, ⟨fun _ => h, fun q => absurd c1 q⟩⟩
    · obtain ⟨n, h⟩ := px_T_cl (k := 44) (pc := 32) (y := 68) (st := [.int x3, .int x2, .ref 47]) rfl (h2 c1)
      exact ⟨n + 7, ⟨fun q => absurd q c1, fun _ => ⟨rfl, h⟩⟩⟩
theorem sg_44_35 {x1 : Nat} {x2 : Int32} {x3 : Int32} {d4 : Option Value} {s0 : Int32} {M : px_Mem} {Q : px_Po} (h_x1 : px_isW x1) (h1 : (s0 < 0) → px_T 0 44 23 [some (.ref 38), some (.ref x1), some (.int x2), some (.int (x3 + 1)), some (.int s0)] [] M Q) (h2 : (¬ (s0 < 0)) → ((200 : Int32) ≤ s0) → px_T 0 44 23 [some (.ref 38), some (.ref x1), some (.int x2), some (.int (x3 + 1)), some (.int s0)] [] M Q) (h3 : (¬ (s0 < 0)) → (¬ ((200 : Int32) ≤ s0)) → vp_in s0 200) (h4 : (¬ (s0 < 0)) → (¬ ((200 : Int32) ≤ s0)) → ((0 : Int32) ≤ (M.1 39 s0.toNatClampNeg)) → px_T 0 44 23 [some (.ref 38), some (.ref x1), some (.int x2), some (.int (x3 + 1)), some (.int s0)] [] M Q) (h5 : (¬ (s0 < 0)) → (¬ ((200 : Int32) ≤ s0)) → (¬ ((0 : Int32) ≤ (M.1 39 s0.toNatClampNeg))) → vp_in (M.1 38 4) 120) (h6 : (¬ (s0 < 0)) → (¬ ((200 : Int32) ≤ s0)) → (¬ ((0 : Int32) ≤ (M.1 39 s0.toNatClampNeg))) → px_T 0 44 92 [some (.ref 38), some (.ref x1), some (.int x2), some (.int x3), some (.int s0)] [] (px_wI (px_wI (px_wI M 39 s0.toNatClampNeg (M.1 38 4)) 40 ((M.1 38 4).toNatClampNeg) s0) 38 4 ((M.1 38 4) + 1)) Q) : px_T 0 44 35 [some (.ref 38), some (.ref x1), some (.int x2), some (.int x3), d4] [.int s0] M Q := by
  rcases h_x1 with rfl | rfl
  · by_cases c1 : s0 < 0
    · obtain ⟨n, h⟩ := h1 c1
      exact ⟨n + 5, ⟨fun _ => h, fun q => absurd c1 q⟩⟩
    · by_cases c2 : (200 : Int32) ≤ s0
      · obtain ⟨n, h⟩ := h2 c1 c2
        exact ⟨n + 8, ⟨fun q => absurd q c1, fun _ => ⟨fun _ => h, fun q => absurd c2 q⟩⟩⟩
      · by_cases c3 : (0 : Int32) ≤ (M.1 39 s0.toNatClampNeg)
        · obtain ⟨n, h⟩ := h4 c1 c2 c3
          exact ⟨n + 13, ⟨fun q => absurd q c1, fun _ => ⟨fun q => absurd q c2, fun _ => ⟨rfl, ⟨Or.inl ⟨0, 200, Or.inl rfl, rfl, (h3 c1 c2)⟩, ⟨fun _ => h, fun q => absurd c3 q⟩⟩⟩⟩⟩⟩
        · obtain ⟨n, h⟩ := h6 c1 c2 c3
          exact ⟨n + 29, ⟨fun q => absurd q c1, fun _ => ⟨fun q => absurd q c2, fun _ => ⟨rfl, ⟨Or.inl ⟨0, 200, Or.inl rfl, rfl, (h3 c1 c2)⟩, ⟨fun q => absurd q c3, fun _ => ⟨rfl, ⟨rfl, ⟨⟨200, rfl, (h3 c1 c2)⟩, ⟨rfl, ⟨rfl, ⟨⟨120, rfl, (h5 c1 c2 c3)⟩, ⟨rfl, ⟨rfl, h⟩⟩⟩⟩⟩⟩⟩⟩⟩⟩⟩⟩⟩⟩
  · by_cases c1 : s0 < 0
    · obtain ⟨n, h⟩ := h1 c1
      exact ⟨n + 5, ⟨fun _ => h, fun q => absurd c1 q⟩⟩
    · by_cases c2 : (200 : Int32) ≤ s0
      · obtain ⟨n, h⟩ := h2 c1 c2
        exact ⟨n + 8, ⟨fun q => absurd q c1, fun _ => ⟨fun _ => h, fun q => absurd c2 q⟩⟩⟩
      · by_cases c3 : (0 : Int32) ≤ (M.1 39 s0.toNatClampNeg)
        · obtain ⟨n, h⟩ := h4 c1 c2 c3
          exact ⟨n + 13, ⟨fun q => absurd q c1, fun _ => ⟨fun q => absurd q c2, fun _ => ⟨rfl, ⟨Or.inl ⟨0, 200, Or.inl rfl, rfl, (h3 c1 c2)⟩, ⟨fun _ => h, fun q => absurd c3 q⟩⟩⟩⟩⟩⟩
        · obtain ⟨n, h⟩ := h6 c1 c2 c3
          exact ⟨n + 29, ⟨fun q => absurd q c1, fun _ => ⟨fun q => absurd q c2, fun _ => ⟨rfl, ⟨Or.inl ⟨0, 200, Or.inl rfl, rfl, (h3 c1 c2)⟩, ⟨fun q => absurd q c3, fun _ => ⟨rfl, ⟨rfl, ⟨⟨200, rfl, (h3 c1 c2)⟩, ⟨rfl, ⟨rfl, ⟨⟨120, rfl, (h5 c1 c2 c3)⟩, ⟨rfl, ⟨rfl, h⟩⟩⟩⟩⟩⟩⟩⟩⟩⟩⟩⟩⟩⟩
theorem sg_44_92 {x1 : Nat} {x2 : Int32} {x3 : Int32} {d4 : Option Value} {M : px_Mem} {Q : px_Po} (h_x1 : px_isW x1) (h1 : px_T 0 44 23 [some (.ref 38), some (.ref x1), some (.int x2), some (.int (x3 + 1)), d4] [] M Q) : px_T 0 44 92 [some (.ref 38), some (.ref x1), some (.int x2), some (.int x3), d4] [] M Q := by
  rcases h_x1 with rfl | rfl
  · obtain ⟨n, h⟩ := h1
    exact ⟨n + 2, h⟩
  · obtain ⟨n, h⟩ := h1
    exact ⟨n + 2, h⟩
theorem sg_45_0 {x1 : Int32} {M : px_Mem} {Q : px_Po} (h1 : (x1 < 0) → Q (some (.int (-1))) M) (h2 : (¬ (x1 < 0)) → ((200 : Int32) ≤ x1) → Q (some (.int (-1))) M) (h3 : (¬ (x1 < 0)) → (¬ ((200 : Int32) ≤ x1)) → vp_in x1 200) (h4 : (¬ (x1 < 0)) → (¬ ((200 : Int32) ≤ x1)) → Q (some (.int (M.1 39 x1.toNatClampNeg))) M) : px_T 0 45 0 [some (.ref 38), some (.int x1)] [] M Q := by
  by_cases c1 : x1 < 0
  · exact ⟨4, ⟨fun _ => ⟨trivial, h1 c1⟩, fun q => absurd c1 q⟩⟩
  · by_cases c2 : (200 : Int32) ≤ x1
    · exact ⟨7, ⟨fun q => absurd q c1, fun _ => ⟨fun _ => ⟨trivial, h2 c1 c2⟩, fun q => absurd c2 q⟩⟩⟩
    · exact ⟨11, ⟨fun q => absurd q c1, fun _ => ⟨fun q => absurd q c2, fun _ => ⟨rfl, ⟨Or.inl ⟨0, 200, Or.inl rfl, rfl, (h3 c1 c2)⟩, ⟨trivial, h4 c1 c2⟩⟩⟩⟩⟩⟩
theorem sg_46_0 {x1 : Int32} {M : px_Mem} {Q : px_Po} (h1 : (x1 < 0) → Q (some (.int (-1))) M) (h2 : (¬ (x1 < 0)) → ((71 : Int32) ≤ x1) → Q (some (.int (-1))) M) (h3 : (¬ (x1 < 0)) → (¬ ((71 : Int32) ≤ x1)) → vp_in x1 71) (h4 : (¬ (x1 < 0)) → (¬ ((71 : Int32) ≤ x1)) → Q (some (.int (M.1 42 x1.toNatClampNeg))) M) : px_T 0 46 0 [some (.ref 38), some (.int x1)] [] M Q := by
  by_cases c1 : x1 < 0
  · exact ⟨4, ⟨fun _ => ⟨trivial, h1 c1⟩, fun q => absurd c1 q⟩⟩
  · by_cases c2 : (71 : Int32) ≤ x1
    · exact ⟨9, ⟨fun q => absurd q c1, fun _ => ⟨rfl, (Or.inl ⟨0, 71, rfl, (by decide), ⟨fun _ => ⟨trivial, h2 c1 c2⟩, fun q => absurd c2 q⟩⟩)⟩⟩⟩
    · exact ⟨13, ⟨fun q => absurd q c1, fun _ => ⟨rfl, (Or.inl ⟨0, 71, rfl, (by decide), ⟨fun q => absurd q c2, fun _ => ⟨rfl, ⟨Or.inl ⟨0, 71, Or.inl rfl, rfl, (h3 c1 c2)⟩, ⟨trivial, h4 c1 c2⟩⟩⟩⟩⟩)⟩⟩⟩
theorem sg_47_0 {M : px_Mem} {Q : px_Po} (h1 : px_T 0 340 0 [some (.ref 43), some (.int 0), none, none] [] M (fun r M1 => px_T 0 47 8 [some (.ref 38), none, none] (r.toList ++ []) M1 Q)) : px_T 0 47 0 [some (.ref 38), none, none] [] M Q := by
  obtain ⟨n, h⟩ := px_T_cl (k := 47) (pc := 5) (y := 340) (st := [.int 0, .ref 43]) rfl (h1)
  exact ⟨n + 4, ⟨rfl, h⟩⟩
theorem sg_47_8 {d1 : Option Value} {d2 : Option Value} {M : px_Mem} {Q : px_Po} (h1 : px_T 0 47 10 [some (.ref 38), some (.int 0), d2] [] M Q) : px_T 0 47 8 [some (.ref 38), d1, d2] [] M Q := by
  obtain ⟨n, h⟩ := h1
  exact ⟨n + 2, h⟩
theorem sg_47_10 {x1 : Int32} {d2 : Option Value} {M : px_Mem} {Q : px_Po} (h1 : ((M.1 38 8) ≤ x1) → px_T 0 47 43 [some (.ref 38), some (.int 0), some (.int 1)] [] M Q) (h2 : (¬ ((M.1 38 8) ≤ x1)) → vp_in x1 71) (h3 : (¬ ((M.1 38 8) ≤ x1)) → vp_in (M.1 42 x1.toNatClampNeg) 71) (h4 : (¬ ((M.1 38 8) ≤ x1)) → px_T 0 47 10 [some (.ref 38), some (.int (x1 + 1)), d2] [] (px_wI M 43 ((M.1 42 x1.toNatClampNeg).toNatClampNeg) ((M.1 43 ((M.1 42 x1.toNatClampNeg).toNatClampNeg)) + 1)) Q) : px_T 0 47 10 [some (.ref 38), some (.int x1), d2] [] M Q := by
  by_cases c1 : (M.1 38 8) ≤ x1
  · obtain ⟨n, h⟩ := h1 c1
    exact ⟨n + 8, ⟨rfl, ⟨fun _ => h, fun q => absurd c1 q⟩⟩⟩
  · obtain ⟨n, h⟩ := h4 c1
    exact ⟨n + 17, ⟨rfl, ⟨fun q => absurd q c1, fun _ => ⟨rfl, ⟨rfl, ⟨Or.inl ⟨0, 71, Or.inl rfl, rfl, (h2 c1)⟩, ⟨Or.inl ⟨0, 71, Or.inl rfl, rfl, (h3 c1)⟩, ⟨⟨71, rfl, (h3 c1)⟩, h⟩⟩⟩⟩⟩⟩⟩⟩
theorem sg_47_43 {x1 : Int32} {x2 : Int32} {M : px_Mem} {Q : px_Po} (h1 : ((M.1 38 8) ≤ x2) → Q (some (.int x1)) M) (h2 : (¬ ((M.1 38 8) ≤ x2)) → vp_in x2 71) (h3 : (¬ ((M.1 38 8) ≤ x2)) → vp_in x1 71) (h4 : (¬ ((M.1 38 8) ≤ x2)) → ((M.1 43 x2.toNatClampNeg) ≤ (M.1 43 x1.toNatClampNeg)) → px_T 0 47 43 [some (.ref 38), some (.int x1), some (.int (x2 + 1))] [] M Q) (h5 : (¬ ((M.1 38 8) ≤ x2)) → (¬ ((M.1 43 x2.toNatClampNeg) ≤ (M.1 43 x1.toNatClampNeg))) → px_T 0 47 43 [some (.ref 38), some (.int x2), some (.int (x2 + 1))] [] M Q) : px_T 0 47 43 [some (.ref 38), some (.int x1), some (.int x2)] [] M Q := by
  by_cases c1 : (M.1 38 8) ≤ x2
  · exact ⟨6, ⟨rfl, ⟨fun _ => ⟨trivial, h1 c1⟩, fun q => absurd c1 q⟩⟩⟩
  · by_cases c2 : (M.1 43 x2.toNatClampNeg) ≤ (M.1 43 x1.toNatClampNeg)
    · obtain ⟨n, h⟩ := h4 c1 c2
      exact ⟨n + 15, ⟨rfl, ⟨fun q => absurd q c1, fun _ => ⟨rfl, ⟨Or.inl ⟨0, 71, Or.inl rfl, rfl, (h2 c1)⟩, ⟨rfl, ⟨Or.inl ⟨0, 71, Or.inl rfl, rfl, (h3 c1)⟩, ⟨fun _ => h, fun q => absurd c2 q⟩⟩⟩⟩⟩⟩⟩⟩
    · obtain ⟨n, h⟩ := h5 c1 c2
      exact ⟨n + 17, ⟨rfl, ⟨fun q => absurd q c1, fun _ => ⟨rfl, ⟨Or.inl ⟨0, 71, Or.inl rfl, rfl, (h2 c1)⟩, ⟨rfl, ⟨Or.inl ⟨0, 71, Or.inl rfl, rfl, (h3 c1)⟩, ⟨fun q => absurd q c2, fun _ => h⟩⟩⟩⟩⟩⟩⟩⟩
theorem sg_48_0 {M : px_Mem} {Q : px_Po} (h1 : px_T 0 53 0 [some (.ref 4)] [] M (fun r M1 => px_T 0 48 11 [some (.ref 38), none] (r.toList ++ [.int (M.1 38 8)]) M1 Q)) : px_T 0 48 0 [some (.ref 38), none] [] M Q := by
  obtain ⟨n, h⟩ := px_T_cl (k := 48) (pc := 8) (y := 53) (st := [.ref 4, .int (M.1 38 8)]) rfl (h1)
  exact ⟨n + 5, ⟨rfl, ⟨rfl, ⟨rfl, h⟩⟩⟩⟩
theorem sg_48_11 {d1 : Option Value} {s0 : Int32} {s1 : Int32} {M : px_Mem} {Q : px_Po} (h1 : (s0 < s1) → Q none M) (h2 : (¬ (s0 < s1)) → ((70 : Int32) < (M.1 38 8)) → Q none M) (h3 : (¬ (s0 < s1)) → (¬ ((70 : Int32) < (M.1 38 8))) → px_T 0 11 0 [some (.ref 28), some (.int (M.1 38 8))] [] M (fun r M1 => px_T 0 48 35 [some (.ref 38), d1] (r.toList ++ [.ref 38]) M1 Q)) : px_T 0 48 11 [some (.ref 38), d1] [.int s0, .int s1] M Q := by
  by_cases c1 : s0 < s1
  · exact ⟨2, ⟨fun _ => ⟨rfl, h1 c1⟩, fun q => absurd c1 q⟩⟩
  · by_cases c2 : (70 : Int32) < (M.1 38 8)
    · exact ⟨6, ⟨fun q => absurd q c1, fun _ => ⟨rfl, ⟨fun _ => ⟨rfl, h2 c1 c2⟩, fun q => absurd c2 q⟩⟩⟩⟩
    · obtain ⟨n, h⟩ := px_T_cl (k := 48) (pc := 32) (y := 11) (st := [.int (M.1 38 8), .ref 28, .ref 38]) rfl (h3 c1 c2)
      exact ⟨n + 11, ⟨fun q => absurd q c1, fun _ => ⟨rfl, ⟨fun q => absurd q c2, fun _ => ⟨rfl, ⟨rfl, ⟨rfl, h⟩⟩⟩⟩⟩⟩⟩
theorem sg_48_35 {d1 : Option Value} {s0 : Nat} {M : px_Mem} {Q : px_Po} (h_s0 : px_isW s0) (h1 : vp_in (M.1 38 8) 71) (h2 : px_T 0 50 0 [some (.ref 38), some (.ref s0), some (.ref (px_rf 41 ((M.1 38 8).toNatClampNeg))), none] [] M (fun r M1 => px_T 0 48 47 [some (.ref 38), d1] (r.toList ++ []) M1 Q)) : px_T 0 48 35 [some (.ref 38), d1] [.ref s0, .ref 38] M Q := by
  rcases h_s0 with rfl | rfl
  · obtain ⟨n, h⟩ := px_T_cl (k := 48) (pc := 44) (y := 50) (st := [.ref (px_rf 41 ((M.1 38 8).toNatClampNeg)), .ref 29, .ref 38]) rfl (h2)
    exact ⟨n + 6, ⟨rfl, ⟨rfl, ⟨⟨6, 71, Or.inr (Or.inr rfl), rfl, h1⟩, ⟨rfl, h⟩⟩⟩⟩⟩
  · obtain ⟨n, h⟩ := px_T_cl (k := 48) (pc := 44) (y := 50) (st := [.ref (px_rf 41 ((M.1 38 8).toNatClampNeg)), .ref 47, .ref 38]) rfl (h2)
    exact ⟨n + 6, ⟨rfl, ⟨rfl, ⟨⟨6, 71, Or.inr (Or.inr rfl), rfl, h1⟩, ⟨rfl, h⟩⟩⟩⟩⟩
theorem sg_48_47 {d1 : Option Value} {M : px_Mem} {Q : px_Po} (h1 : px_T 0 48 49 [some (.ref 38), some (.int 0)] [] M Q) : px_T 0 48 47 [some (.ref 38), d1] [] M Q := by
  obtain ⟨n, h⟩ := h1
  exact ⟨n + 2, h⟩
theorem sg_48_49 {x1 : Int32} {M : px_Mem} {Q : px_Po} (h1 : ((M.1 38 8) ≤ x1) → vp_in (M.1 38 8) 71) (h2 : ((M.1 38 8) ≤ x1) → px_T 0 48 0 [some (.ref 38), some (.int x1)] [] (px_wI (px_wI M 42 ((M.1 38 8).toNatClampNeg) x1) 38 8 ((M.1 38 8) + 1)) Q) (h3 : (¬ ((M.1 38 8) ≤ x1)) → vp_in x1 71) (h4 : (¬ ((M.1 38 8) ≤ x1)) → ((M.1 42 x1.toNatClampNeg) = x1) → vp_in (M.1 38 8) 71) (h5 : (¬ ((M.1 38 8) ≤ x1)) → ((M.1 42 x1.toNatClampNeg) = x1) → px_T 0 49 0 [some (.ref (px_rf 41 x1.toNatClampNeg)), some (.ref (px_rf 41 ((M.1 38 8).toNatClampNeg))), none] [] M (fun r M1 => px_T 0 48 85 [some (.ref 38), some (.int x1)] (r.toList ++ []) M1 Q)) (h6 : (¬ ((M.1 38 8) ≤ x1)) → (¬ ((M.1 42 x1.toNatClampNeg) = x1)) → px_T 0 48 49 [some (.ref 38), some (.int (x1 + 1))] [] M Q) : px_T 0 48 49 [some (.ref 38), some (.int x1)] [] M Q := by
  by_cases c1 : (M.1 38 8) ≤ x1
  · obtain ⟨n, h⟩ := h2 c1
    exact ⟨n + 17, ⟨rfl, ⟨fun _ => ⟨rfl, ⟨rfl, ⟨⟨71, rfl, (h1 c1)⟩, ⟨rfl, ⟨rfl, h⟩⟩⟩⟩⟩, fun q => absurd c1 q⟩⟩⟩
  · by_cases c2 : (M.1 42 x1.toNatClampNeg) = x1
    · obtain ⟨n, h⟩ := px_T_cl (k := 48) (pc := 82) (y := 49) (st := [.ref (px_rf 41 ((M.1 38 8).toNatClampNeg)), .ref (px_rf 41 x1.toNatClampNeg)]) rfl (h5 c1 c2)
      exact ⟨n + 20, ⟨rfl, ⟨fun q => absurd q c1, fun _ => ⟨rfl, ⟨Or.inl ⟨0, 71, Or.inl rfl, rfl, (h3 c1)⟩, ⟨fun q => absurd c2 q, fun _ => ⟨rfl, ⟨⟨6, 71, Or.inr (Or.inr rfl), rfl, (h3 c1)⟩, ⟨rfl, ⟨rfl, ⟨⟨6, 71, Or.inr (Or.inr rfl), rfl, (h4 c1 c2)⟩, h⟩⟩⟩⟩⟩⟩⟩⟩⟩⟩⟩
    · obtain ⟨n, h⟩ := h6 c1 c2
      exact ⟨n + 12, ⟨rfl, ⟨fun q => absurd q c1, fun _ => ⟨rfl, ⟨Or.inl ⟨0, 71, Or.inl rfl, rfl, (h3 c1)⟩, ⟨fun _ => h, fun q => absurd q c2⟩⟩⟩⟩⟩⟩
theorem sg_48_85 {x1 : Int32} {s0 : Int32} {M : px_Mem} {Q : px_Po} (h1 : (s0 = 0) → px_T 0 48 49 [some (.ref 38), some (.int (x1 + 1))] [] M Q) (h2 : (¬ (s0 = 0)) → vp_in (M.1 38 8) 71) (h3 : (¬ (s0 = 0)) → px_T 0 48 0 [some (.ref 38), some (.int x1)] [] (px_wI (px_wI M 42 ((M.1 38 8).toNatClampNeg) x1) 38 8 ((M.1 38 8) + 1)) Q) : px_T 0 48 85 [some (.ref 38), some (.int x1)] [.int s0] M Q := by
  by_cases c1 : s0 = 0
  · obtain ⟨n, h⟩ := h1 c1
    exact ⟨n + 3, ⟨fun q => absurd c1 q, fun _ => h⟩⟩
  · obtain ⟨n, h⟩ := h3 c1
    exact ⟨n + 14, ⟨fun _ => ⟨rfl, ⟨rfl, ⟨⟨71, rfl, (h2 c1)⟩, ⟨rfl, ⟨rfl, h⟩⟩⟩⟩⟩, fun q => absurd q c1⟩⟩
theorem sg_49_0 {x0 : Nat} {x1 : Nat} {M : px_Mem} {Q : px_Po} (h1 : px_T 0 49 2 [some (.ref x0), some (.ref x1), some (.int 0)] [] M Q) : px_T 0 49 0 [some (.ref x0), some (.ref x1), none] [] M Q := by
  obtain ⟨n, h⟩ := h1
  exact ⟨n + 2, h⟩
theorem sg_49_2 {x0 : Nat} {x1 : Nat} {x2 : Int32} {M : px_Mem} {Q : px_Po} (h1 : ((45 : Int32) ≤ x2) → Q (some (.int 1)) M) (h2 : (¬ ((45 : Int32) ≤ x2)) → px_at 0 1 x0 x2) (h3 : (¬ ((45 : Int32) ≤ x2)) → px_at 0 1 x1 x2) (h4 : (¬ ((45 : Int32) ≤ x2)) → ((lg_cmp (M.2 x0 x2.toNatClampNeg) (M.2 x1 x2.toNatClampNeg)) = 0) → px_T 0 49 2 [some (.ref x0), some (.ref x1), some (.int (x2 + 1))] [] M Q) (h5 : (¬ ((45 : Int32) ≤ x2)) → (¬ ((lg_cmp (M.2 x0 x2.toNatClampNeg) (M.2 x1 x2.toNatClampNeg)) = 0)) → Q (some (.int 0)) M) : px_T 0 49 2 [some (.ref x0), some (.ref x1), some (.int x2)] [] M Q := by
  by_cases c1 : (45 : Int32) ≤ x2
  · exact ⟨5, ⟨fun _ => ⟨Or.inr rfl, h1 c1⟩, fun q => absurd c1 q⟩⟩
  · by_cases c2 : (lg_cmp (M.2 x0 x2.toNatClampNeg) (M.2 x1 x2.toNatClampNeg)) = 0
    · obtain ⟨n, h⟩ := h4 c1 c2
      exact ⟨n + 13, ⟨fun q => absurd q c1, fun _ => ⟨(h2 c1), ⟨(h3 c1), ⟨fun _ => h, fun q => absurd c2 q⟩⟩⟩⟩⟩
    · exact ⟨13, ⟨fun q => absurd q c1, fun _ => ⟨(h2 c1), ⟨(h3 c1), ⟨fun q => absurd q c2, fun _ => ⟨Or.inl rfl, h5 c1 c2⟩⟩⟩⟩⟩⟩
theorem sg_50_0 {x1 : Nat} {x2 : Nat} {M : px_Mem} {Q : px_Po} (h_x1 : px_isW x1) (h1 : px_T 0 44 0 [some (.ref 38), some (.ref x1), none, none, none] [] M (fun r M1 => px_T 0 50 5 [some (.ref 38), some (.ref x1), some (.ref x2), none] (r.toList ++ []) M1 Q)) : px_T 0 50 0 [some (.ref 38), some (.ref x1), some (.ref x2), none] [] M Q := by
  rcases h_x1 with rfl | rfl
  · obtain ⟨n, h⟩ := px_T_cl (k := 50) (pc := 2) (y := 44) (st := [.ref 29, .ref 38]) rfl (h1)
    exact ⟨n + 3, ⟨rfl, h⟩⟩
  · obtain ⟨n, h⟩ := px_T_cl (k := 50) (pc := 2) (y := 44) (st := [.ref 47, .ref 38]) rfl (h1)
    exact ⟨n + 3, ⟨rfl, h⟩⟩
theorem sg_50_5 {x1 : Nat} {x2 : Nat} {d3 : Option Value} {M : px_Mem} {Q : px_Po} (h_x1 : px_isW x1) (h1 : px_T 0 339 0 [some (.ref x2), some (.long 0), none, none, none] [] M (fun r M1 => px_T 0 50 10 [some (.ref 38), some (.ref x1), some (.ref x2), d3] (r.toList ++ []) M1 Q)) : px_T 0 50 5 [some (.ref 38), some (.ref x1), some (.ref x2), d3] [] M Q := by
  rcases h_x1 with rfl | rfl
  · obtain ⟨n, h⟩ := px_T_cl (k := 50) (pc := 7) (y := 339) (st := [.long 0, .ref x2]) rfl (h1)
    exact ⟨n + 3, h⟩
  · obtain ⟨n, h⟩ := px_T_cl (k := 50) (pc := 7) (y := 339) (st := [.long 0, .ref x2]) rfl (h1)
    exact ⟨n + 3, h⟩
theorem sg_50_10 {x1 : Nat} {x2 : Nat} {d3 : Option Value} {M : px_Mem} {Q : px_Po} (h_x1 : px_isW x1) (h1 : px_T 0 50 12 [some (.ref 38), some (.ref x1), some (.ref x2), some (.int 1)] [] M Q) : px_T 0 50 10 [some (.ref 38), some (.ref x1), some (.ref x2), d3] [] M Q := by
  rcases h_x1 with rfl | rfl
  · obtain ⟨n, h⟩ := h1
    exact ⟨n + 2, h⟩
  · obtain ⟨n, h⟩ := h1
    exact ⟨n + 2, h⟩
theorem sg_50_12 {x1 : Nat} {x2 : Nat} {x3 : Int32} {M : px_Mem} {Q : px_Po} (h_x1 : px_isW x1) (h1 : ((15 : Int32) < x3) → px_T 0 50 45 [some (.ref 38), some (.ref x1), some (.ref x2), some (.int 0)] [] M Q) (h2 : (¬ ((15 : Int32) < x3)) → px_T 0 63 0 [some (.ref x1), some (.int x3)] [] M (fun r M1 => px_T 0 50 23 [some (.ref 38), some (.ref x1), some (.ref x2), some (.int x3)] (r.toList ++ []) M1 Q)) : px_T 0 50 12 [some (.ref 38), some (.ref x1), some (.ref x2), some (.int x3)] [] M Q := by
  rcases h_x1 with rfl | rfl
  · by_cases c1 : (15 : Int32) < x3
    · obtain ⟨n, h⟩ := h1 c1
      exact ⟨n + 5, ⟨fun _ => h, fun q => absurd c1 q⟩⟩
    · obtain ⟨n, h⟩ := px_T_cl (k := 50) (pc := 20) (y := 63) (st := [.int x3, .ref 29]) rfl (h2 c1)
      exact ⟨n + 6, ⟨fun q => absurd q c1, fun _ => ⟨rfl, h⟩⟩⟩
  · by_cases c1 : (15 : Int32) < x3
    · obtain ⟨n, h⟩ := h1 c1
      exact ⟨n + 5, ⟨fun _ => h, fun q => absurd c1 q⟩⟩
    · obtain ⟨n, h⟩ := px_T_cl (k := 50) (pc := 20) (y := 63) (st := [.int x3, .ref 47]) rfl (h2 c1)
      exact ⟨n + 6, ⟨fun q => absurd q c1, fun _ => ⟨rfl, h⟩⟩⟩
theorem sg_50_45 {x1 : Nat} {x2 : Nat} {x3 : Int32} {M : px_Mem} {Q : px_Po} (h_x1 : px_isW x1) (h1 : ((M.1 38 4) ≤ x3) → Q none M) (h2 : (¬ ((M.1 38 4) ≤ x3)) → px_at 0 1 x2 (15 + (x3 / 4))) (h3 : (¬ ((M.1 38 4) ≤ x3)) → vp_in x3 120) (h4 : (¬ ((M.1 38 4) ≤ x3)) → px_T 0 52 0 [some (.ref 38), some (.ref x1), some (.int (M.1 40 x3.toNatClampNeg)), none, none, none] [] M (fun r M1 => px_T 0 50 73 [some (.ref 38), some (.ref x1), some (.ref x2), some (.int x3)] (r.toList ++ [.long (M.2 x2 ((15 + (x3 / 4)).toNatClampNeg)), .int (15 + (x3 / 4)), .ref x2]) M1 Q)) : px_T 0 50 45 [some (.ref 38), some (.ref x1), some (.ref x2), some (.int x3)] [] M Q := by
  rcases h_x1 with rfl | rfl
  · by_cases c1 : (M.1 38 4) ≤ x3
    · exact ⟨5, ⟨rfl, ⟨fun _ => ⟨rfl, h1 c1⟩, fun q => absurd c1 q⟩⟩⟩
    · obtain ⟨n, h⟩ := px_T_cl (k := 50) (pc := 70) (y := 52) (st := [.int (M.1 40 x3.toNatClampNeg), .ref 29, .ref 38, .long (M.2 x2 ((15 + (x3 / 4)).toNatClampNeg)), .int (15 + (x3 / 4)), .ref x2]) rfl (h4 c1)
      exact ⟨n + 19, ⟨rfl, ⟨fun q => absurd q c1, fun _ => ⟨(by decide), ⟨(h2 c1), ⟨rfl, ⟨Or.inl ⟨0, 120, Or.inl rfl, rfl, (h3 c1)⟩, ⟨rfl, h⟩⟩⟩⟩⟩⟩⟩⟩
  · by_cases c1 : (M.1 38 4) ≤ x3
    · exact ⟨5, ⟨rfl, ⟨fun _ => ⟨rfl, h1 c1⟩, fun q => absurd c1 q⟩⟩⟩
    · obtain ⟨n, h⟩ := px_T_cl (k := 50) (pc := 70) (y := 52) (st := [.int (M.1 40 x3.toNatClampNeg), .ref 47, .ref 38, .long (M.2 x2 ((15 + (x3 / 4)).toNatClampNeg)), .int (15 + (x3 / 4)), .ref x2]) rfl (h4 c1)
      exact ⟨n + 19, ⟨rfl, ⟨fun q => absurd q c1, fun _ => ⟨(by decide), ⟨(h2 c1), ⟨rfl, ⟨Or.inl ⟨0, 120, Or.inl rfl, rfl, (h3 c1)⟩, ⟨rfl, h⟩⟩⟩⟩⟩⟩⟩⟩
theorem sg_50_23 {x1 : Nat} {x2 : Nat} {x3 : Int32} {s0 : Int32} {M : px_Mem} {Q : px_Po} (h_x1 : px_isW x1) (h1 : (s0 = 0) → px_T 0 50 12 [some (.ref 38), some (.ref x1), some (.ref x2), some (.int (x3 + 1))] [] M Q) (h2 : (¬ (s0 = 0)) → px_T 0 51 0 [some (.ref 38), some (.ref x1), some (.int x3), none, none, none] [] M (fun r M1 => px_T 0 50 36 [some (.ref 38), some (.ref x1), some (.ref x2), some (.int x3)] (r.toList ++ [.int (x3 - 1), .ref x2]) M1 Q)) : px_T 0 50 23 [some (.ref 38), some (.ref x1), some (.ref x2), some (.int x3)] [.int s0] M Q := by
  rcases h_x1 with rfl | rfl
  · by_cases c1 : s0 = 0
    · obtain ⟨n, h⟩ := h1 c1
      exact ⟨n + 3, ⟨fun _ => h, fun q => absurd c1 q⟩⟩
    · obtain ⟨n, h⟩ := px_T_cl (k := 50) (pc := 33) (y := 51) (st := [.int x3, .ref 29, .ref 38, .int (x3 - 1), .ref x2]) rfl (h2 c1)
      exact ⟨n + 9, ⟨fun q => absurd q c1, fun _ => ⟨rfl, h⟩⟩⟩
  · by_cases c1 : s0 = 0
    · obtain ⟨n, h⟩ := h1 c1
      exact ⟨n + 3, ⟨fun _ => h, fun q => absurd c1 q⟩⟩
    · obtain ⟨n, h⟩ := px_T_cl (k := 50) (pc := 33) (y := 51) (st := [.int x3, .ref 47, .ref 38, .int (x3 - 1), .ref x2]) rfl (h2 c1)
      exact ⟨n + 9, ⟨fun q => absurd q c1, fun _ => ⟨rfl, h⟩⟩⟩
theorem sg_50_73 {x1 : Nat} {x2 : Nat} {x3 : Int32} {s0 : Int64} {s1 : Int64} {s2 : Int32} {s3 : Nat} {M : px_Mem} {Q : px_Po} (h_x1 : px_isW x1) (h1 : px_at 0 1 s3 s2) (h2 : px_T 0 50 45 [some (.ref 38), some (.ref x1), some (.ref x2), some (.int (x3 + 1))] [] (px_wL M s3 s2.toNatClampNeg (s1 ||| (s0 <<< ((16 * (x3 - x3 / 4 * 4)).toInt64 &&& 63)))) Q) : px_T 0 50 73 [some (.ref 38), some (.ref x1), some (.ref x2), some (.int x3)] [.long s0, .long s1, .int s2, .ref s3] M Q := by
  rcases h_x1 with rfl | rfl
  · obtain ⟨n, h⟩ := h2
    exact ⟨n + 10, ⟨(by decide), ⟨h1, h⟩⟩⟩
  · obtain ⟨n, h⟩ := h2
    exact ⟨n + 10, ⟨(by decide), ⟨h1, h⟩⟩⟩
theorem sg_50_36 {x1 : Nat} {x2 : Nat} {x3 : Int32} {s0 : Int64} {s1 : Int32} {s2 : Nat} {M : px_Mem} {Q : px_Po} (h_x1 : px_isW x1) (h1 : px_at 0 1 s2 s1) (h2 : px_T 0 50 12 [some (.ref 38), some (.ref x1), some (.ref x2), some (.int (x3 + 1))] [] (px_wL M s2 s1.toNatClampNeg s0) Q) : px_T 0 50 36 [some (.ref 38), some (.ref x1), some (.ref x2), some (.int x3)] [.long s0, .int s1, .ref s2] M Q := by
  rcases h_x1 with rfl | rfl
  · obtain ⟨n, h⟩ := h2
    exact ⟨n + 3, ⟨h1, h⟩⟩
  · obtain ⟨n, h⟩ := h2
    exact ⟨n + 3, ⟨h1, h⟩⟩
theorem sg_51_0 {x1 : Nat} {x2 : Int32} {M : px_Mem} {Q : px_Po} (h_x1 : px_isW x1) (h1 : px_T 0 51 6 [some (.ref 38), some (.ref x1), some (.int x2), some (.long 0), none, some (.int 7)] [] M Q) : px_T 0 51 0 [some (.ref 38), some (.ref x1), some (.int x2), none, none, none] [] M Q := by
  rcases h_x1 with rfl | rfl
  · obtain ⟨n, h⟩ := h1
    exact ⟨n + 4, h⟩
  · obtain ⟨n, h⟩ := h1
    exact ⟨n + 4, h⟩
theorem sg_51_6 {x1 : Nat} {x2 : Int32} {x3 : Int64} {x5 : Int32} {M : px_Mem} {Q : px_Po} (h_x1 : px_isW x1) (h1 : (x5 < 0) → vp_in x2 16) (h2 : (x5 < 0) → Q (some (.long (((x3 <<< ((8 : Int32).toInt64 &&& 63)) ||| (((M.1 (x1 + 2) x2.toNatClampNeg) <<< (4 &&& 31)).toInt64)) ||| ((M.1 (x1 + 1) x2.toNatClampNeg).toInt64)))) M) (h3 : (¬ (x5 < 0)) → px_T 0 68 0 [some (.ref x1), some (.int x2), some (.int x5), none] [] M (fun r M1 => px_T 0 51 23 [some (.ref 38), some (.ref x1), some (.int x2), some (.long x3), none, some (.int x5)] (r.toList ++ [.ref 38, .long (x3 <<< ((7 : Int32).toInt64 &&& 63))]) M1 Q)) : px_T 0 51 6 [some (.ref 38), some (.ref x1), some (.int x2), some (.long x3), none, some (.int x5)] [] M Q := by
  rcases h_x1 with rfl | rfl
  · by_cases c1 : x5 < 0
    · exact ⟨20, ⟨fun _ => ⟨rfl, ⟨Or.inl ⟨0, 16, Or.inl rfl, rfl, (h1 c1)⟩, ⟨rfl, ⟨Or.inl ⟨0, 16, Or.inl rfl, rfl, (h1 c1)⟩, ⟨rfl, h2 c1⟩⟩⟩⟩⟩, fun q => absurd c1 q⟩⟩
    · obtain ⟨n, h⟩ := px_T_cl (k := 51) (pc := 20) (y := 68) (st := [.int x5, .int x2, .ref 29, .ref 38, .long (x3 <<< ((7 : Int32).toInt64 &&& 63))]) rfl (h3 c1)
      exact ⟨n + 10, ⟨fun q => absurd q c1, fun _ => ⟨rfl, h⟩⟩⟩
  · by_cases c1 : x5 < 0
    · exact ⟨20, ⟨fun _ => ⟨rfl, ⟨Or.inl ⟨0, 16, Or.inl rfl, rfl, (h1 c1)⟩, ⟨rfl, ⟨Or.inl ⟨0, 16, Or.inl rfl, rfl, (h1 c1)⟩, ⟨rfl, h2 c1⟩⟩⟩⟩⟩, fun q => absurd c1 q⟩⟩
    · obtain ⟨n, h⟩ := px_T_cl (k := 51) (pc := 20) (y := 68) (st := [.int x5, .int x2, .ref 47, .ref 38, .long (x3 <<< ((7 : Int32).toInt64 &&& 63))]) rfl (h3 c1)
      exact ⟨n + 10, ⟨fun q => absurd q c1, fun _ => ⟨rfl, h⟩⟩⟩
theorem sg_51_23 {x1 : Nat} {x2 : Int32} {d3 : Option Value} {x5 : Int32} {s0 : Int32} {s2 : Int64} {M : px_Mem} {Q : px_Po} (h_x1 : px_isW x1) (h1 : px_T 0 45 0 [some (.ref 38), some (.int s0)] [] M (fun r M1 => px_T 0 51 26 [some (.ref 38), some (.ref x1), some (.int x2), d3, none, some (.int x5)] (r.toList ++ [.long s2]) M1 Q)) : px_T 0 51 23 [some (.ref 38), some (.ref x1), some (.int x2), d3, none, some (.int x5)] [.int s0, .ref 38, .long s2] M Q := by
  rcases h_x1 with rfl | rfl
  · obtain ⟨n, h⟩ := px_T_cl (k := 51) (pc := 23) (y := 45) (st := [.int s0, .ref 38, .long s2]) rfl (h1)
    exact ⟨n + 1, ⟨rfl, h⟩⟩
  · obtain ⟨n, h⟩ := px_T_cl (k := 51) (pc := 23) (y := 45) (st := [.int s0, .ref 38, .long s2]) rfl (h1)
    exact ⟨n + 1, ⟨rfl, h⟩⟩
theorem sg_51_26 {x1 : Nat} {x2 : Int32} {d3 : Option Value} {d4 : Option Value} {x5 : Int32} {s0 : Int32} {s1 : Int64} {M : px_Mem} {Q : px_Po} (h_x1 : px_isW x1) (h1 : px_T 0 51 6 [some (.ref 38), some (.ref x1), some (.int x2), some (.long (s1 ||| ((s0 + 1).toInt64))), none, some (.int (x5 + (Int32.ofInt (-1))))] [] M Q) : px_T 0 51 26 [some (.ref 38), some (.ref x1), some (.int x2), d3, d4, some (.int x5)] [.int s0, .long s1] M Q := by
  rcases h_x1 with rfl | rfl
  · obtain ⟨n, h⟩ := h1
    exact ⟨n + 7, h⟩
  · obtain ⟨n, h⟩ := h1
    exact ⟨n + 7, h⟩
theorem sg_52_0 {x1 : Nat} {x2 : Int32} {M : px_Mem} {Q : px_Po} (h_x1 : px_isW x1) (h1 : vp_in x2 200) (h2 : ((lg_cmp (((M.1 (x1 + 5) x2.toNatClampNeg) + 1).toInt64) 1) = 0) → Q (some (.long (((M.1 (x1 + 5) x2.toNatClampNeg) + 1).toInt64))) M) (h3 : (¬ ((lg_cmp (((M.1 (x1 + 5) x2.toNatClampNeg) + 1).toInt64) 1) = 0)) → px_T 0 72 0 [some (.ref x1), some (.int x2), none] [] M (fun r M1 => px_T 0 52 24 [some (.ref 38), some (.ref x1), some (.int x2), some (.long (((M.1 (x1 + 5) x2.toNatClampNeg) + 1).toInt64)), none, none] (r.toList ++ [.ref 38]) M1 Q)) : px_T 0 52 0 [some (.ref 38), some (.ref x1), some (.int x2), none, none, none] [] M Q := by
  rcases h_x1 with rfl | rfl
  · by_cases c1 : (lg_cmp (((M.1 (29 + 5) x2.toNatClampNeg) + 1).toInt64) 1) = 0
    · exact ⟨14, ⟨rfl, ⟨Or.inl ⟨0, 200, Or.inl rfl, rfl, h1⟩, ⟨fun q => absurd c1 q, fun _ => ⟨rfl, h2 c1⟩⟩⟩⟩⟩
    · obtain ⟨n, h⟩ := px_T_cl (k := 52) (pc := 21) (y := 72) (st := [.int x2, .ref 29, .ref 38]) rfl (h3 c1)
      exact ⟨n + 16, ⟨rfl, ⟨Or.inl ⟨0, 200, Or.inl rfl, rfl, h1⟩, ⟨fun _ => ⟨rfl, h⟩, fun q => absurd q c1⟩⟩⟩⟩
  · by_cases c1 : (lg_cmp (((M.1 (47 + 5) x2.toNatClampNeg) + 1).toInt64) 1) = 0
    · exact ⟨14, ⟨rfl, ⟨Or.inl ⟨0, 200, Or.inl rfl, rfl, h1⟩, ⟨fun q => absurd c1 q, fun _ => ⟨rfl, h2 c1⟩⟩⟩⟩⟩
    · obtain ⟨n, h⟩ := px_T_cl (k := 52) (pc := 21) (y := 72) (st := [.int x2, .ref 47, .ref 38]) rfl (h3 c1)
      exact ⟨n + 16, ⟨rfl, ⟨Or.inl ⟨0, 200, Or.inl rfl, rfl, h1⟩, ⟨fun _ => ⟨rfl, h⟩, fun q => absurd q c1⟩⟩⟩⟩
theorem sg_52_24 {d0 : Option Value} {x1 : Nat} {x2 : Int32} {x3 : Int64} {d5 : Option Value} {s0 : Int32} {M : px_Mem} {Q : px_Po} (h_x1 : px_isW x1) (h1 : px_T 0 45 0 [some (.ref 38), some (.int s0)] [] M (fun r M1 => px_T 0 52 27 [d0, some (.ref x1), some (.int x2), some (.long x3), none, d5] (r.toList ++ []) M1 Q)) : px_T 0 52 24 [d0, some (.ref x1), some (.int x2), some (.long x3), none, d5] [.int s0, .ref 38] M Q := by
  rcases h_x1 with rfl | rfl
  · obtain ⟨n, h⟩ := px_T_cl (k := 52) (pc := 24) (y := 45) (st := [.int s0, .ref 38]) rfl (h1)
    exact ⟨n + 1, ⟨rfl, h⟩⟩
  · obtain ⟨n, h⟩ := px_T_cl (k := 52) (pc := 24) (y := 45) (st := [.int s0, .ref 38]) rfl (h1)
    exact ⟨n + 1, ⟨rfl, h⟩⟩
theorem sg_52_27 {d0 : Option Value} {x1 : Nat} {x2 : Int32} {x3 : Int64} {d5 : Option Value} {s0 : Int32} {M : px_Mem} {Q : px_Po} (h_x1 : px_isW x1) (h1 : px_T 0 70 0 [some (.ref x1), some (.int x2), none] [] M (fun r M1 => px_T 0 52 37 [d0, some (.ref x1), some (.int x2), some (.long x3), none, some (.int (s0 + 1))] (r.toList ++ [.long x3]) M1 Q)) : px_T 0 52 27 [d0, some (.ref x1), some (.int x2), some (.long x3), none, d5] [.int s0] M Q := by
  rcases h_x1 with rfl | rfl
  · obtain ⟨n, h⟩ := px_T_cl (k := 52) (pc := 34) (y := 70) (st := [.int x2, .ref 29, .long x3]) rfl (h1)
    exact ⟨n + 7, ⟨rfl, h⟩⟩
  · obtain ⟨n, h⟩ := px_T_cl (k := 52) (pc := 34) (y := 70) (st := [.int x2, .ref 47, .long x3]) rfl (h1)
    exact ⟨n + 7, ⟨rfl, h⟩⟩
theorem sg_52_37 {d0 : Option Value} {d1 : Option Value} {d2 : Option Value} {d3 : Option Value} {x5 : Int32} {s0 : Int32} {s1 : Int64} {M : px_Mem} {Q : px_Po} (h1 : Q (some (.long ((s1 ||| ((s0 <<< (2 &&& 31)).toInt64)) ||| ((x5 <<< (8 &&& 31)).toInt64)))) M) : px_T 0 52 37 [d0, d1, d2, d3, none, some (.int x5)] [.int s0, .long s1] M Q := by
  exact ⟨10, ⟨rfl, h1⟩⟩
theorem sg_53_0 {x0 : Nat} {M : px_Mem} {Q : px_Po} (h_x0 : px_isS x0) (h1 : Q (some (.int ((M.1 x0 4) + (M.1 x0 5)))) M) : px_T 0 53 0 [some (.ref x0)] [] M Q := by
  rcases h_x0 with rfl | rfl | rfl | rfl | rfl
  · exact ⟨6, ⟨rfl, ⟨rfl, ⟨trivial, h1⟩⟩⟩⟩
  · exact ⟨6, ⟨rfl, ⟨rfl, ⟨trivial, h1⟩⟩⟩⟩
  · exact ⟨6, ⟨rfl, ⟨rfl, ⟨trivial, h1⟩⟩⟩⟩
  · exact ⟨6, ⟨rfl, ⟨rfl, ⟨trivial, h1⟩⟩⟩⟩
  · exact ⟨6, ⟨rfl, ⟨rfl, ⟨trivial, h1⟩⟩⟩⟩
theorem sg_54_0 {x0 : Nat} {x1 : Int32} {M : px_Mem} {Q : px_Po} (h_x0 : px_isS x0) (h1 : (x1 < 0) → Q (some (.int 0)) M) (h2 : (¬ (x1 < 0)) → ((70 : Int32) ≤ x1) → Q (some (.int 0)) M) (h3 : (¬ (x1 < 0)) → (¬ ((70 : Int32) ≤ x1)) → vp_in x1 70) (h4 : (¬ (x1 < 0)) → (¬ ((70 : Int32) ≤ x1)) → Q (some (.int (M.1 (x0 + 1) x1.toNatClampNeg))) M) : px_T 0 54 0 [some (.ref x0), some (.int x1)] [] M Q := by
  rcases h_x0 with rfl | rfl | rfl | rfl | rfl
  · by_cases c1 : x1 < 0
    · exact ⟨4, ⟨fun _ => ⟨trivial, h1 c1⟩, fun q => absurd c1 q⟩⟩
    · by_cases c2 : (70 : Int32) ≤ x1
      · exact ⟨7, ⟨fun q => absurd q c1, fun _ => ⟨fun _ => ⟨trivial, h2 c1 c2⟩, fun q => absurd c2 q⟩⟩⟩
      · exact ⟨11, ⟨fun q => absurd q c1, fun _ => ⟨fun q => absurd q c2, fun _ => ⟨rfl, ⟨Or.inl ⟨0, 70, Or.inl rfl, rfl, (h3 c1 c2)⟩, ⟨trivial, h4 c1 c2⟩⟩⟩⟩⟩⟩
  · by_cases c1 : x1 < 0
    · exact ⟨4, ⟨fun _ => ⟨trivial, h1 c1⟩, fun q => absurd c1 q⟩⟩
    · by_cases c2 : (70 : Int32) ≤ x1
      · exact ⟨7, ⟨fun q => absurd q c1, fun _ => ⟨fun _ => ⟨trivial, h2 c1 c2⟩, fun q => absurd c2 q⟩⟩⟩
      · exact ⟨11, ⟨fun q => absurd q c1, fun _ => ⟨fun q => absurd q c2, fun _ => ⟨rfl, ⟨Or.inl ⟨0, 70, Or.inl rfl, rfl, (h3 c1 c2)⟩, ⟨trivial, h4 c1 c2⟩⟩⟩⟩⟩⟩
  · by_cases c1 : x1 < 0
    · exact ⟨4, ⟨fun _ => ⟨trivial, h1 c1⟩, fun q => absurd c1 q⟩⟩
    · by_cases c2 : (70 : Int32) ≤ x1
      · exact ⟨7, ⟨fun q => absurd q c1, fun _ => ⟨fun _ => ⟨trivial, h2 c1 c2⟩, fun q => absurd c2 q⟩⟩⟩
      · exact ⟨11, ⟨fun q => absurd q c1, fun _ => ⟨fun q => absurd q c2, fun _ => ⟨rfl, ⟨Or.inl ⟨0, 70, Or.inl rfl, rfl, (h3 c1 c2)⟩, ⟨trivial, h4 c1 c2⟩⟩⟩⟩⟩⟩
  · by_cases c1 : x1 < 0
    · exact ⟨4, ⟨fun _ => ⟨trivial, h1 c1⟩, fun q => absurd c1 q⟩⟩
    · by_cases c2 : (70 : Int32) ≤ x1
      · exact ⟨7, ⟨fun q => absurd q c1, fun _ => ⟨fun _ => ⟨trivial, h2 c1 c2⟩, fun q => absurd c2 q⟩⟩⟩
      · exact ⟨11, ⟨fun q => absurd q c1, fun _ => ⟨fun q => absurd q c2, fun _ => ⟨rfl, ⟨Or.inl ⟨0, 70, Or.inl rfl, rfl, (h3 c1 c2)⟩, ⟨trivial, h4 c1 c2⟩⟩⟩⟩⟩⟩
  · by_cases c1 : x1 < 0
    · exact ⟨4, ⟨fun _ => ⟨trivial, h1 c1⟩, fun q => absurd c1 q⟩⟩
    · by_cases c2 : (70 : Int32) ≤ x1
      · exact ⟨7, ⟨fun q => absurd q c1, fun _ => ⟨fun _ => ⟨trivial, h2 c1 c2⟩, fun q => absurd c2 q⟩⟩⟩
      · exact ⟨11, ⟨fun q => absurd q c1, fun _ => ⟨fun q => absurd q c2, fun _ => ⟨rfl, ⟨Or.inl ⟨0, 70, Or.inl rfl, rfl, (h3 c1 c2)⟩, ⟨trivial, h4 c1 c2⟩⟩⟩⟩⟩⟩
theorem sg_55_0 {x0 : Nat} {x1 : Int32} {M : px_Mem} {Q : px_Po} (h_x0 : px_isS x0) (h1 : px_T 0 53 0 [some (.ref x0)] [] M (fun r M1 => px_T 0 55 4 [some (.ref x0), some (.int x1)] (r.toList ++ []) M1 Q)) : px_T 0 55 0 [some (.ref x0), some (.int x1)] [] M Q := by
  rcases h_x0 with rfl | rfl | rfl | rfl | rfl
  · obtain ⟨n, h⟩ := px_T_cl (k := 55) (pc := 1) (y := 53) (st := [.ref 4]) rfl (h1)
    exact ⟨n + 2, ⟨rfl, h⟩⟩
  · obtain ⟨n, h⟩ := px_T_cl (k := 55) (pc := 1) (y := 53) (st := [.ref 6]) rfl (h1)
    exact ⟨n + 2, ⟨rfl, h⟩⟩
  · obtain ⟨n, h⟩ := px_T_cl (k := 55) (pc := 1) (y := 53) (st := [.ref 9]) rfl (h1)
    exact ⟨n + 2, ⟨rfl, h⟩⟩
  · obtain ⟨n, h⟩ := px_T_cl (k := 55) (pc := 1) (y := 53) (st := [.ref 11]) rfl (h1)
    exact ⟨n + 2, ⟨rfl, h⟩⟩
  · obtain ⟨n, h⟩ := px_T_cl (k := 55) (pc := 1) (y := 53) (st := [.ref 13]) rfl (h1)
    exact ⟨n + 2, ⟨rfl, h⟩⟩
theorem sg_55_4 {x0 : Nat} {x1 : Int32} {s0 : Int32} {M : px_Mem} {Q : px_Po} (h_x0 : px_isS x0) (h1 : ((70 : Int32) ≤ s0) → Q none M) (h2 : (¬ ((70 : Int32) ≤ s0)) → px_T 0 53 0 [some (.ref x0)] [] M (fun r M1 => px_T 0 55 17 [some (.ref x0), some (.int x1)] (r.toList ++ [.ref (x0 + 1)]) M1 Q)) : px_T 0 55 4 [some (.ref x0), some (.int x1)] [.int s0] M Q := by
  rcases h_x0 with rfl | rfl | rfl | rfl | rfl
  · by_cases c1 : (70 : Int32) ≤ s0
    · exact ⟨3, ⟨fun _ => ⟨rfl, h1 c1⟩, fun q => absurd c1 q⟩⟩
    · obtain ⟨n, h⟩ := px_T_cl (k := 55) (pc := 14) (y := 53) (st := [.ref 4, .ref (4 + 1)]) rfl (h2 c1)
      exact ⟨n + 6, ⟨fun q => absurd q c1, fun _ => ⟨rfl, ⟨rfl, h⟩⟩⟩⟩
  · by_cases c1 : (70 : Int32) ≤ s0
    · exact ⟨3, ⟨fun _ => ⟨rfl, h1 c1⟩, fun q => absurd c1 q⟩⟩
    · obtain ⟨n, h⟩ := px_T_cl (k := 55) (pc := 14) (y := 53) (st := [.ref 6, .ref (6 + 1)]) rfl (h2 c1)
      exact ⟨n + 6, ⟨fun q => absurd q c1, fun _ => ⟨rfl, ⟨rfl, h⟩⟩⟩⟩
  · by_cases c1 : (70 : Int32) ≤ s0
    · exact ⟨3, ⟨fun _ => ⟨rfl, h1 c1⟩, fun q => absurd c1 q⟩⟩
    · obtain ⟨n, h⟩ := px_T_cl (k := 55) (pc := 14) (y := 53) (st := [.ref 9, .ref (9 + 1)]) rfl (h2 c1)
      exact ⟨n + 6, ⟨fun q => absurd q c1, fun _ => ⟨rfl, ⟨rfl, h⟩⟩⟩⟩
  · by_cases c1 : (70 : Int32) ≤ s0
    · exact ⟨3, ⟨fun _ => ⟨rfl, h1 c1⟩, fun q => absurd c1 q⟩⟩
    · obtain ⟨n, h⟩ := px_T_cl (k := 55) (pc := 14) (y := 53) (st := [.ref 11, .ref (11 + 1)]) rfl (h2 c1)
      exact ⟨n + 6, ⟨fun q => absurd q c1, fun _ => ⟨rfl, ⟨rfl, h⟩⟩⟩⟩
  · by_cases c1 : (70 : Int32) ≤ s0
    · exact ⟨3, ⟨fun _ => ⟨rfl, h1 c1⟩, fun q => absurd c1 q⟩⟩
    · obtain ⟨n, h⟩ := px_T_cl (k := 55) (pc := 14) (y := 53) (st := [.ref 13, .ref (13 + 1)]) rfl (h2 c1)
      exact ⟨n + 6, ⟨fun q => absurd q c1, fun _ => ⟨rfl, ⟨rfl, h⟩⟩⟩⟩
theorem sg_55_17 {d0 : Option Value} {x1 : Int32} {s0 : Int32} {s1 : Nat} {M : px_Mem} {Q : px_Po} (h1 : px_at 0 0 s1 s0) (h2 : Q none (px_wI M s1 s0.toNatClampNeg x1)) : px_T 0 55 17 [d0, some (.int x1)] [.int s0, .ref s1] M Q := by
  exact ⟨3, ⟨h1, ⟨rfl, h2⟩⟩⟩
theorem sg_56_0 {x0 : Nat} {M : px_Mem} {Q : px_Po} (h_x0 : px_isS x0) (h1 : Q none (px_wI (px_wI (px_wI (px_wI (px_wI M x0 1 0) x0 2 0) x0 3 0) x0 4 0) x0 5 0)) : px_T 0 56 0 [some (.ref x0)] [] M Q := by
  rcases h_x0 with rfl | rfl | rfl | rfl | rfl
  · exact ⟨16, ⟨rfl, ⟨rfl, ⟨rfl, ⟨rfl, ⟨rfl, ⟨rfl, h1⟩⟩⟩⟩⟩⟩⟩
  · exact ⟨16, ⟨rfl, ⟨rfl, ⟨rfl, ⟨rfl, ⟨rfl, ⟨rfl, h1⟩⟩⟩⟩⟩⟩⟩
  · exact ⟨16, ⟨rfl, ⟨rfl, ⟨rfl, ⟨rfl, ⟨rfl, ⟨rfl, h1⟩⟩⟩⟩⟩⟩⟩
  · exact ⟨16, ⟨rfl, ⟨rfl, ⟨rfl, ⟨rfl, ⟨rfl, ⟨rfl, h1⟩⟩⟩⟩⟩⟩⟩
  · exact ⟨16, ⟨rfl, ⟨rfl, ⟨rfl, ⟨rfl, ⟨rfl, ⟨rfl, h1⟩⟩⟩⟩⟩⟩⟩
set_option maxRecDepth 20000 in
theorem sg_57_0 {x0 : Nat} {x1 : Nat} {M : px_Mem} {Q : px_Po} (h_x0 : px_isS x0) (h_x1 : px_isS x1) (h1 : Q none (px_wI (px_wI (px_wI (px_wI (px_wI (px_aI M (x0 + 1) (va_cpy (M.1 (x1 + 1)) (M.1 (x0 + 1)) 0 0 70)) x0 1 (M.1 x1 1)) x0 2 ((px_wI (px_aI M (x0 + 1) (va_cpy (M.1 (x1 + 1)) (M.1 (x0 + 1)) 0 0 70)) x0 1 (M.1 x1 1)).1 x1 2)) x0 3 ((px_wI (px_wI (px_aI M (x0 + 1) (va_cpy (M.1 (x1 + 1)) (M.1 (x0 + 1)) 0 0 70)) x0 1 (M.1 x1 1)) x0 2 ((px_wI (px_aI M (x0 + 1) (va_cpy (M.1 (x1 + 1)) (M.1 (x0 + 1)) 0 0 70)) x0 1 (M.1 x1 1)).1 x1 2)).1 x1 3)) x0 4 ((px_wI (px_wI (px_wI (px_aI M (x0 + 1) (va_cpy (M.1 (x1 + 1)) (M.1 (x0 + 1)) 0 0 70)) x0 1 (M.1 x1 1)) x0 2 ((px_wI (px_aI M (x0 + 1) (va_cpy (M.1 (x1 + 1)) (M.1 (x0 + 1)) 0 0 70)) x0 1 (M.1 x1 1)).1 x1 2)) x0 3 ((px_wI (px_wI (px_aI M (x0 + 1) (va_cpy (M.1 (x1 + 1)) (M.1 (x0 + 1)) 0 0 70)) x0 1 (M.1 x1 1)) x0 2 ((px_wI (px_aI M (x0 + 1) (va_cpy (M.1 (x1 + 1)) (M.1 (x0 + 1)) 0 0 70)) x0 1 (M.1 x1 1)).1 x1 2)).1 x1 3)).1 x1 4)) x0 5 ((px_wI (px_wI (px_wI (px_wI (px_aI M (x0 + 1) (va_cpy (M.1 (x1 + 1)) (M.1 (x0 + 1)) 0 0 70)) x0 1 (M.1 x1 1)) x0 2 ((px_wI (px_aI M (x0 + 1) (va_cpy (M.1 (x1 + 1)) (M.1 (x0 + 1)) 0 0 70)) x0 1 (M.1 x1 1)).1 x1 2)) x0 3 ((px_wI (px_wI (px_aI M (x0 + 1) (va_cpy (M.1 (x1 + 1)) (M.1 (x0 + 1)) 0 0 70)) x0 1 (M.1 x1 1)) x0 2 ((px_wI (px_aI M (x0 + 1) (va_cpy (M.1 (x1 + 1)) (M.1 (x0 + 1)) 0 0 70)) x0 1 (M.1 x1 1)).1 x1 2)).1 x1 3)) x0 4 ((px_wI (px_wI (px_wI (px_aI M (x0 + 1) (va_cpy (M.1 (x1 + 1)) (M.1 (x0 + 1)) 0 0 70)) x0 1 (M.1 x1 1)) x0 2 ((px_wI (px_aI M (x0 + 1) (va_cpy (M.1 (x1 + 1)) (M.1 (x0 + 1)) 0 0 70)) x0 1 (M.1 x1 1)).1 x1 2)) x0 3 ((px_wI (px_wI (px_aI M (x0 + 1) (va_cpy (M.1 (x1 + 1)) (M.1 (x0 + 1)) 0 0 70)) x0 1 (M.1 x1 1)) x0 2 ((px_wI (px_aI M (x0 + 1) (va_cpy (M.1 (x1 + 1)) (M.1 (x0 + 1)) 0 0 70)) x0 1 (M.1 x1 1)).1 x1 2)).1 x1 3)).1 x1 4)).1 x1 5))) : px_T 0 57 0 [some (.ref x0), some (.ref x1)] [] M Q := by
  rcases h_x0 with rfl | rfl | rfl | rfl | rfl
  · rcases h_x1 with rfl | rfl | rfl | rfl | rfl
    · exact ⟨29, ⟨rfl, ⟨rfl, ⟨(by decide), (by decide), (by decide), Or.inl ⟨⟨70, 70, rfl, rfl, (by decide), (by decide), (by decide), (by decide), (by decide)⟩, ⟨rfl, ⟨rfl, ⟨rfl, ⟨rfl, ⟨rfl, ⟨rfl, ⟨rfl, ⟨rfl, ⟨rfl, ⟨rfl, ⟨rfl, h1⟩⟩⟩⟩⟩⟩⟩⟩⟩⟩⟩⟩⟩⟩⟩⟩
    · exact ⟨29, ⟨rfl, ⟨rfl, ⟨(by decide), (by decide), (by decide), Or.inl ⟨⟨70, 70, rfl, rfl, (by decide), (by decide), (by decide), (by decide), (by decide)⟩, ⟨rfl, ⟨rfl, ⟨rfl, ⟨rfl, ⟨rfl, ⟨rfl, ⟨rfl, ⟨rfl, ⟨rfl, ⟨rfl, ⟨rfl, h1⟩⟩⟩⟩⟩⟩⟩⟩⟩⟩⟩⟩⟩⟩⟩⟩
    · exact ⟨29, ⟨rfl, ⟨rfl, ⟨(by decide), (by decide), (by decide), Or.inl ⟨⟨70, 70, rfl, rfl, (by decide), (by decide), (by decide), (by decide), (by decide)⟩, ⟨rfl, ⟨rfl, ⟨rfl, ⟨rfl, ⟨rfl, ⟨rfl, ⟨rfl, ⟨rfl, ⟨rfl, ⟨rfl, ⟨rfl, h1⟩⟩⟩⟩⟩⟩⟩⟩⟩⟩⟩⟩⟩⟩⟩⟩
    · exact ⟨29, ⟨rfl, ⟨rfl, ⟨(by decide), (by decide), (by decide), Or.inl ⟨⟨70, 70, rfl, rfl, (by decide), (by decide), (by decide), (by decide), (by decide)⟩, ⟨rfl, ⟨rfl, ⟨rfl, ⟨rfl, ⟨rfl, ⟨rfl, ⟨rfl, ⟨rfl, ⟨rfl, ⟨rfl, ⟨rfl, h1⟩⟩⟩⟩⟩⟩⟩⟩⟩⟩⟩⟩⟩⟩⟩⟩
    · exact ⟨29, ⟨rfl, ⟨rfl, ⟨(by decide), (by decide), (by decide), Or.inl ⟨⟨70, 70, rfl, rfl, (by decide), (by decide), (by decide), (by decide), (by decide)⟩, ⟨rfl, ⟨rfl, ⟨rfl, ⟨rfl, ⟨rfl, ⟨rfl, ⟨rfl, ⟨rfl, ⟨rfl, ⟨rfl, ⟨rfl, h1⟩⟩⟩⟩⟩⟩⟩⟩⟩⟩⟩⟩⟩⟩⟩⟩
  · rcases h_x1 with rfl | rfl | rfl | rfl | rfl
    · exact ⟨29, ⟨rfl, ⟨rfl, ⟨(by decide), (by decide), (by decide), Or.inl ⟨⟨70, 70, rfl, rfl, (by decide), (by decide), (by decide), (by decide), (by decide)⟩, ⟨rfl, ⟨rfl, ⟨rfl, ⟨rfl, ⟨rfl, ⟨rfl, ⟨rfl, ⟨rfl, ⟨rfl, ⟨rfl, ⟨rfl, h1⟩⟩⟩⟩⟩⟩⟩⟩⟩⟩⟩⟩⟩⟩⟩⟩
    · exact ⟨29, ⟨rfl, ⟨rfl, ⟨(by decide), (by decide), (by decide), Or.inl ⟨⟨70, 70, rfl, rfl, (by decide), (by decide), (by decide), (by decide), (by decide)⟩, ⟨rfl, ⟨rfl, ⟨rfl, ⟨rfl, ⟨rfl, ⟨rfl, ⟨rfl, ⟨rfl, ⟨rfl, ⟨rfl, ⟨rfl, h1⟩⟩⟩⟩⟩⟩⟩⟩⟩⟩⟩⟩⟩⟩⟩⟩
    · exact ⟨29, ⟨rfl, ⟨rfl, ⟨(by decide), (by decide), (by decide), Or.inl ⟨⟨70, 70, rfl, rfl, (by decide), (by decide), (by decide), (by decide), (by decide)⟩, ⟨rfl, ⟨rfl, ⟨rfl, ⟨rfl, ⟨rfl, ⟨rfl, ⟨rfl, ⟨rfl, ⟨rfl, ⟨rfl, ⟨rfl, h1⟩⟩⟩⟩⟩⟩⟩⟩⟩⟩⟩⟩⟩⟩⟩⟩
    · exact ⟨29, ⟨rfl, ⟨rfl, ⟨(by decide), (by decide), (by decide), Or.inl ⟨⟨70, 70, rfl, rfl, (by decide), (by decide), (by decide), (by decide), (by decide)⟩, ⟨rfl, ⟨rfl, ⟨rfl, ⟨rfl, ⟨rfl, ⟨rfl, ⟨rfl, ⟨rfl, ⟨rfl, ⟨rfl, ⟨rfl, h1⟩⟩⟩⟩⟩⟩⟩⟩⟩⟩⟩⟩⟩⟩⟩⟩
    · exact ⟨29, ⟨rfl, ⟨rfl, ⟨(by decide), (by decide), (by decide), Or.inl ⟨⟨70, 70, rfl, rfl, (by decide), (by decide), (by decide), (by decide), (by decide)⟩, ⟨rfl, ⟨rfl, ⟨rfl, ⟨rfl, ⟨rfl, ⟨rfl, ⟨rfl, ⟨rfl, ⟨rfl, ⟨rfl, ⟨rfl, h1⟩⟩⟩⟩⟩⟩⟩⟩⟩⟩⟩⟩⟩⟩⟩⟩
  · rcases h_x1 with rfl | rfl | rfl | rfl | rfl
    · exact ⟨29, ⟨rfl, ⟨rfl, ⟨(by decide), (by decide), (by decide), Or.inl ⟨⟨70, 70, rfl, rfl, (by decide), (by decide), (by decide), (by decide), (by decide)⟩, ⟨rfl, ⟨rfl, ⟨rfl, ⟨rfl, ⟨rfl, ⟨rfl, ⟨rfl, ⟨rfl, ⟨rfl, ⟨rfl, ⟨rfl, h1⟩⟩⟩⟩⟩⟩⟩⟩⟩⟩⟩⟩⟩⟩⟩⟩
    · exact ⟨29, ⟨rfl, ⟨rfl, ⟨(by decide), (by decide), (by decide), Or.inl ⟨⟨70, 70, rfl, rfl, (by decide), (by decide), (by decide), (by decide), (by decide)⟩, ⟨rfl, ⟨rfl, ⟨rfl, ⟨rfl, ⟨rfl, ⟨rfl, ⟨rfl, ⟨rfl, ⟨rfl, ⟨rfl, ⟨rfl, h1⟩⟩⟩⟩⟩⟩⟩⟩⟩⟩⟩⟩⟩⟩⟩⟩
    · exact ⟨29, ⟨rfl, ⟨rfl, ⟨(by decide), (by decide), (by decide), Or.inl ⟨⟨70, 70, rfl, rfl, (by decide), (by decide), (by decide), (by decide), (by decide)⟩, ⟨rfl, ⟨rfl, ⟨rfl, ⟨rfl, ⟨rfl, ⟨rfl, ⟨rfl, ⟨rfl, ⟨rfl, ⟨rfl, ⟨rfl, h1⟩⟩⟩⟩⟩⟩⟩⟩⟩⟩⟩⟩⟩⟩⟩⟩
    · exact ⟨29, ⟨rfl, ⟨rfl, ⟨(by decide), (by decide), (by decide), Or.inl ⟨⟨70, 70, rfl, rfl, (by decide), (by decide), (by decide), (by decide), (by decide)⟩, ⟨rfl, ⟨rfl, ⟨rfl, ⟨rfl, ⟨rfl, ⟨rfl, ⟨rfl, ⟨rfl, ⟨rfl, ⟨rfl, ⟨rfl, h1⟩⟩⟩⟩⟩⟩⟩⟩⟩⟩⟩⟩⟩⟩⟩⟩
    · exact ⟨29, ⟨rfl, ⟨rfl, ⟨(by decide), (by decide), (by decide), Or.inl ⟨⟨70, 70, rfl, rfl, (by decide), (by decide), (by decide), (by decide), (by decide)⟩, ⟨rfl, ⟨rfl, ⟨rfl, ⟨rfl, ⟨rfl, ⟨rfl, ⟨rfl, ⟨rfl, ⟨rfl, ⟨rfl, ⟨rfl, h1⟩⟩⟩⟩⟩⟩⟩⟩⟩⟩⟩⟩⟩⟩⟩⟩
  · rcases h_x1 with rfl | rfl | rfl | rfl | rfl
    · exact ⟨29, ⟨rfl, ⟨rfl, ⟨(by decide), (by decide), (by decide), Or.inl ⟨⟨70, 70, rfl, rfl, (by decide), (by decide), (by decide), (by decide), (by decide)⟩, ⟨rfl, ⟨rfl, ⟨rfl, ⟨rfl, ⟨rfl, ⟨rfl, ⟨rfl, ⟨rfl, ⟨rfl, ⟨rfl, ⟨rfl, h1⟩⟩⟩⟩⟩⟩⟩⟩⟩⟩⟩⟩⟩⟩⟩⟩
    · exact ⟨29, ⟨rfl, ⟨rfl, ⟨(by decide), (by decide), (by decide), Or.inl ⟨⟨70, 70, rfl, rfl, (by decide), (by decide), (by decide), (by decide), (by decide)⟩, ⟨rfl, ⟨rfl, ⟨rfl, ⟨rfl, ⟨rfl, ⟨rfl, ⟨rfl, ⟨rfl, ⟨rfl, ⟨rfl, ⟨rfl, h1⟩⟩⟩⟩⟩⟩⟩⟩⟩⟩⟩⟩⟩⟩⟩⟩
    · exact ⟨29, ⟨rfl, ⟨rfl, ⟨(by decide), (by decide), (by decide), Or.inl ⟨⟨70, 70, rfl, rfl, (by decide), (by decide), (by decide), (by decide), (by decide)⟩, ⟨rfl, ⟨rfl, ⟨rfl, ⟨rfl, ⟨rfl, ⟨rfl, ⟨rfl, ⟨rfl, ⟨rfl, ⟨rfl, ⟨rfl, h1⟩⟩⟩⟩⟩⟩⟩⟩⟩⟩⟩⟩⟩⟩⟩⟩
    · exact ⟨29, ⟨rfl, ⟨rfl, ⟨(by decide), (by decide), (by decide), Or.inl ⟨⟨70, 70, rfl, rfl, (by decide), (by decide), (by decide), (by decide), (by decide)⟩, ⟨rfl, ⟨rfl, ⟨rfl, ⟨rfl, ⟨rfl, ⟨rfl, ⟨rfl, ⟨rfl, ⟨rfl, ⟨rfl, ⟨rfl, h1⟩⟩⟩⟩⟩⟩⟩⟩⟩⟩⟩⟩⟩⟩⟩⟩
    · exact ⟨29, ⟨rfl, ⟨rfl, ⟨(by decide), (by decide), (by decide), Or.inl ⟨⟨70, 70, rfl, rfl, (by decide), (by decide), (by decide), (by decide), (by decide)⟩, ⟨rfl, ⟨rfl, ⟨rfl, ⟨rfl, ⟨rfl, ⟨rfl, ⟨rfl, ⟨rfl, ⟨rfl, ⟨rfl, ⟨rfl, h1⟩⟩⟩⟩⟩⟩⟩⟩⟩⟩⟩⟩⟩⟩⟩⟩
  · rcases h_x1 with rfl | rfl | rfl | rfl | rfl
    · exact ⟨29, ⟨rfl, ⟨rfl, ⟨(by decide), (by decide), (by decide), Or.inl ⟨⟨70, 70, rfl, rfl, (by decide), (by decide), (by decide), (by decide), (by decide)⟩, ⟨rfl, ⟨rfl, ⟨rfl, ⟨rfl, ⟨rfl, ⟨rfl, ⟨rfl, ⟨rfl, ⟨rfl, ⟨rfl, ⟨rfl, h1⟩⟩⟩⟩⟩⟩⟩⟩⟩⟩⟩⟩⟩⟩⟩⟩
    · exact ⟨29, ⟨rfl, ⟨rfl, ⟨(by decide), (by decide), (by decide), Or.inl ⟨⟨70, 70, rfl, rfl, (by decide), (by decide), (by decide), (by decide), (by decide)⟩, ⟨rfl, ⟨rfl, ⟨rfl, ⟨rfl, ⟨rfl, ⟨rfl, ⟨rfl, ⟨rfl, ⟨rfl, ⟨rfl, ⟨rfl, h1⟩⟩⟩⟩⟩⟩⟩⟩⟩⟩⟩⟩⟩⟩⟩⟩
    · exact ⟨29, ⟨rfl, ⟨rfl, ⟨(by decide), (by decide), (by decide), Or.inl ⟨⟨70, 70, rfl, rfl, (by decide), (by decide), (by decide), (by decide), (by decide)⟩, ⟨rfl, ⟨rfl, ⟨rfl, ⟨rfl, ⟨rfl, ⟨rfl, ⟨rfl, ⟨rfl, ⟨rfl, ⟨rfl, ⟨rfl, h1⟩⟩⟩⟩⟩⟩⟩⟩⟩⟩⟩⟩⟩⟩⟩⟩
    · exact ⟨29, ⟨rfl, ⟨rfl, ⟨(by decide), (by decide), (by decide), Or.inl ⟨⟨70, 70, rfl, rfl, (by decide), (by decide), (by decide), (by decide), (by decide)⟩, ⟨rfl, ⟨rfl, ⟨rfl, ⟨rfl, ⟨rfl, ⟨rfl, ⟨rfl, ⟨rfl, ⟨rfl, ⟨rfl, ⟨rfl, h1⟩⟩⟩⟩⟩⟩⟩⟩⟩⟩⟩⟩⟩⟩⟩⟩
    · exact ⟨29, ⟨rfl, ⟨rfl, ⟨(by decide), (by decide), (by decide), Or.inl ⟨⟨70, 70, rfl, rfl, (by decide), (by decide), (by decide), (by decide), (by decide)⟩, ⟨rfl, ⟨rfl, ⟨rfl, ⟨rfl, ⟨rfl, ⟨rfl, ⟨rfl, ⟨rfl, ⟨rfl, ⟨rfl, ⟨rfl, h1⟩⟩⟩⟩⟩⟩⟩⟩⟩⟩⟩⟩⟩⟩⟩⟩
theorem sg_58_0 {x1 : Int32} {M : px_Mem} {Q : px_Po} (h1 : px_T 0 58 3 [some (.ref 1), some (.int x1), some (.int 24)] [] M Q) : px_T 0 58 0 [some (.ref 1), some (.int x1), none] [] M Q := by
  obtain ⟨n, h⟩ := h1
  exact ⟨n + 2, h⟩
