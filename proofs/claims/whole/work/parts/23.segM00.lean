theorem sg_175_0 {x0 : Int64} {x2 : Int64} {x4 : Int64} {M : px_Mem} {Q : px_Po} (h1 : ((lg_cmp x0 x2) < 0) → Q (some (.int 0)) M) (h2 : (¬ ((lg_cmp x0 x2) < 0)) → ((0 : Int32) < (lg_cmp x0 x4)) → Q (some (.int 0)) M) (h3 : (¬ ((lg_cmp x0 x2) < 0)) → (¬ ((0 : Int32) < (lg_cmp x0 x4))) → Q (some (.int 1)) M) : px_T 0 175 0 [some (.long x0), none, some (.long x2), none, some (.long x4), none] [] M Q := by
  by_cases c1 : (lg_cmp x0 x2) < 0
  · exact ⟨6, ⟨fun _ => ⟨Or.inl rfl, h1 c1⟩, fun q => absurd c1 q⟩⟩
  · by_cases c2 : (0 : Int32) < (lg_cmp x0 x4)
    · exact ⟨10, ⟨fun q => absurd q c1, fun _ => ⟨fun _ => ⟨Or.inl rfl, h2 c1 c2⟩, fun q => absurd c2 q⟩⟩⟩
    · exact ⟨11, ⟨fun q => absurd q c1, fun _ => ⟨fun q => absurd q c2, fun _ => ⟨Or.inr rfl, h3 c1 c2⟩⟩⟩⟩
theorem sg_176_0 {x0 : Int32} {M : px_Mem} {Q : px_Po} (h1 : px_T 0 176 4 [some (.int x0), some (.int 0), some (.int 0)] [] M Q) : px_T 0 176 0 [some (.int x0), none, none] [] M Q := by
  obtain ⟨n, h⟩ := h1
  exact ⟨n + 4, h⟩
theorem sg_176_4 {x0 : Int32} {x1 : Int32} {x2 : Int32} {M : px_Mem} {Q : px_Po} (h1 : ((16 : Int32) ≤ x2) → Q (some (.int x1)) M) (h2 : (¬ ((16 : Int32) ≤ x2)) → px_T 0 176 4 [some (.int x0), some (.int (x1 + ((x0 >>> (x2 &&& 31)) &&& 1))), some (.int (x2 + 1))] [] M Q) : px_T 0 176 4 [some (.int x0), some (.int x1), some (.int x2)] [] M Q := by
  by_cases c1 : (16 : Int32) ≤ x2
  · exact ⟨5, ⟨fun _ => ⟨trivial, h1 c1⟩, fun q => absurd c1 q⟩⟩
  · obtain ⟨n, h⟩ := h2 c1
    exact ⟨n + 13, ⟨fun q => absurd q c1, fun _ => h⟩⟩
theorem sg_177_0 {x0 : Int32} {x1 : Int32} {M : px_Mem} {Q : px_Po} (h1 : Q (some (.int ((x0 >>> (x1 &&& 31)) &&& 1))) M) : px_T 0 177 0 [some (.int x0), some (.int x1)] [] M Q := by
  exact ⟨6, ⟨trivial, h1⟩⟩
theorem sg_178_0 {x1 : Int32} {M : px_Mem} {Q : px_Po} (h1 : px_T 0 175 0 [some (.long x1.toInt64), none, some (.long 0), none, some (.long 2), none] [] M (fun r M1 => px_T 0 178 9 [some (.ref 56), some (.int x1), none] (r.toList ++ []) M1 Q)) : px_T 0 178 0 [some (.ref 56), some (.int x1), none] [] M Q := by
  obtain ⟨n, h⟩ := px_T_cl (k := 178) (pc := 6) (y := 175) (st := [.long 2, .long 0, .long x1.toInt64]) rfl (h1)
  exact ⟨n + 5, h⟩
theorem sg_178_9 {x1 : Int32} {d2 : Option Value} {s0 : Int32} {M : px_Mem} {Q : px_Po} (h1 : (s0 = 0) → Q (some (.int (-2))) M) (h2 : (¬ (s0 = 0)) → px_T 0 178 17 [some (.ref 56), some (.int x1), some (.int 0)] [] M Q) : px_T 0 178 9 [some (.ref 56), some (.int x1), d2] [.int s0] M Q := by
  by_cases c1 : s0 = 0
  · exact ⟨3, ⟨fun q => absurd c1 q, fun _ => ⟨trivial, h1 c1⟩⟩⟩
  · obtain ⟨n, h⟩ := h2 c1
    exact ⟨n + 3, ⟨fun _ => h, fun q => absurd q c1⟩⟩
theorem sg_178_17 {x1 : Int32} {x2 : Int32} {M : px_Mem} {Q : px_Po} (h1 : ((285 : Int32) ≤ x2) → vp_in x1 3) (h2 : ((285 : Int32) ≤ x2) → Q (some (.int 0)) (px_wI M 59 x1.toNatClampNeg (vp_nar .boolean 1))) (h3 : (¬ ((285 : Int32) ≤ x2)) → vp_in x2 285) (h4 : (¬ ((285 : Int32) ≤ x2)) → vp_in ((285 * x1) + x2) 855) (h5 : (¬ ((285 : Int32) ≤ x2)) → px_T 0 178 17 [some (.ref 56), some (.int x1), some (.int (x2 + 1))] [] (px_wI M 58 (((285 * x1) + x2).toNatClampNeg) (M.1 57 x2.toNatClampNeg)) Q) : px_T 0 178 17 [some (.ref 56), some (.int x1), some (.int x2)] [] M Q := by
  by_cases c1 : (285 : Int32) ≤ x2
  · exact ⟨10, ⟨fun _ => ⟨rfl, (Or.inr ⟨⟨3, rfl, (h1 c1)⟩, ⟨trivial, h2 c1⟩⟩)⟩, fun q => absurd c1 q⟩⟩
  · obtain ⟨n, h⟩ := h5 c1
    exact ⟨n + 17, ⟨fun q => absurd q c1, fun _ => ⟨rfl, ⟨rfl, ⟨Or.inl ⟨0, 285, Or.inl rfl, rfl, (h3 c1)⟩, ⟨⟨855, rfl, (h4 c1)⟩, h⟩⟩⟩⟩⟩⟩
theorem sg_179_0 {x1 : Int32} {M : px_Mem} {Q : px_Po} (h1 : px_T 0 175 0 [some (.long x1.toInt64), none, some (.long 0), none, some (.long 2), none] [] M (fun r M1 => px_T 0 179 9 [some (.ref 56), some (.int x1), none] (r.toList ++ []) M1 Q)) : px_T 0 179 0 [some (.ref 56), some (.int x1), none] [] M Q := by
  obtain ⟨n, h⟩ := px_T_cl (k := 179) (pc := 6) (y := 175) (st := [.long 2, .long 0, .long x1.toInt64]) rfl (h1)
  exact ⟨n + 5, h⟩
theorem sg_179_9 {x1 : Int32} {d2 : Option Value} {s0 : Int32} {M : px_Mem} {Q : px_Po} (h1 : (s0 = 0) → Q (some (.int (-2))) M) (h2 : (¬ (s0 = 0)) → vp_in x1 3) (h3 : (¬ (s0 = 0)) → ((M.1 59 x1.toNatClampNeg) = 0) → Q (some (.int (-6))) M) (h4 : (¬ (s0 = 0)) → (¬ ((M.1 59 x1.toNatClampNeg) = 0)) → px_T 0 179 29 [some (.ref 56), some (.int x1), some (.int 0)] [] M Q) : px_T 0 179 9 [some (.ref 56), some (.int x1), d2] [.int s0] M Q := by
  by_cases c1 : s0 = 0
  · exact ⟨3, ⟨fun q => absurd c1 q, fun _ => ⟨trivial, h1 c1⟩⟩⟩
  · by_cases c2 : (M.1 59 x1.toNatClampNeg) = 0
    · exact ⟨8, ⟨fun _ => ⟨rfl, ⟨⟨3, 3, Or.inr (Or.inl rfl), rfl, (h2 c1)⟩, ⟨fun q => absurd c2 q, fun _ => ⟨trivial, h3 c1 c2⟩⟩⟩⟩, fun q => absurd q c1⟩⟩
    · obtain ⟨n, h⟩ := h4 c1 c2
      exact ⟨n + 8, ⟨fun _ => ⟨rfl, ⟨⟨3, 3, Or.inr (Or.inl rfl), rfl, (h2 c1)⟩, ⟨fun _ => h, fun q => absurd q c2⟩⟩⟩, fun q => absurd q c1⟩⟩
theorem sg_179_29 {x1 : Int32} {x2 : Int32} {M : px_Mem} {Q : px_Po} (h1 : ((285 : Int32) ≤ x2) → Q (some (.int 0)) M) (h2 : (¬ ((285 : Int32) ≤ x2)) → vp_in ((285 * x1) + x2) 855) (h3 : (¬ ((285 : Int32) ≤ x2)) → vp_in x2 285) (h4 : (¬ ((285 : Int32) ≤ x2)) → px_T 0 179 29 [some (.ref 56), some (.int x1), some (.int (x2 + 1))] [] (px_wI M 57 x2.toNatClampNeg (M.1 58 (((285 * x1) + x2).toNatClampNeg))) Q) : px_T 0 179 29 [some (.ref 56), some (.int x1), some (.int x2)] [] M Q := by
  by_cases c1 : (285 : Int32) ≤ x2
  · exact ⟨5, ⟨fun _ => ⟨trivial, h1 c1⟩, fun q => absurd c1 q⟩⟩
  · obtain ⟨n, h⟩ := h4 c1
    exact ⟨n + 17, ⟨fun q => absurd q c1, fun _ => ⟨rfl, ⟨rfl, ⟨Or.inl ⟨0, 855, Or.inl rfl, rfl, (h2 c1)⟩, ⟨⟨285, rfl, (h3 c1)⟩, h⟩⟩⟩⟩⟩⟩
theorem sg_180_0 {M : px_Mem} {Q : px_Po} (h1 : ((M.1 57 4) ≤ 0) → Q (some (.int 0)) M) (h2 : (¬ ((M.1 57 4) ≤ 0)) → Q (some (.int 1)) M) : px_T 0 180 0 [some (.ref 56)] [] M Q := by
  by_cases c1 : (M.1 57 4) ≤ 0
  · exact ⟨7, ⟨rfl, ⟨Or.inl ⟨0, 285, Or.inl rfl, rfl, (vp_in_nI (n := 4) (by decide) (by decide))⟩, ⟨fun _ => ⟨Or.inl rfl, h1 c1⟩, fun q => absurd c1 q⟩⟩⟩⟩
  · exact ⟨8, ⟨rfl, ⟨Or.inl ⟨0, 285, Or.inl rfl, rfl, (vp_in_nI (n := 4) (by decide) (by decide))⟩, ⟨fun q => absurd q c1, fun _ => ⟨Or.inr rfl, h2 c1⟩⟩⟩⟩⟩
theorem sg_181_0 {M : px_Mem} {Q : px_Po} (h1 : Q (some (.int ((M.1 57 2) + (M.1 57 3)))) M) : px_T 0 181 0 [some (.ref 56)] [] M Q := by
  exact ⟨10, ⟨rfl, ⟨Or.inl ⟨0, 285, Or.inl rfl, rfl, (vp_in_nI (n := 2) (by decide) (by decide))⟩, ⟨rfl, ⟨Or.inl ⟨0, 285, Or.inl rfl, rfl, (vp_in_nI (n := 3) (by decide) (by decide))⟩, ⟨trivial, h1⟩⟩⟩⟩⟩⟩
theorem sg_182_0 {x1 : Int32} {M : px_Mem} {Q : px_Po} (h1 : px_T 0 181 0 [some (.ref 56)] [] M (fun r M1 => px_T 0 182 7 [some (.ref 56), some (.int x1)] (r.toList ++ [.long 0, .long x1.toInt64]) M1 Q)) : px_T 0 182 0 [some (.ref 56), some (.int x1)] [] M Q := by
  obtain ⟨n, h⟩ := px_T_cl (k := 182) (pc := 4) (y := 181) (st := [.ref 56, .long 0, .long x1.toInt64]) rfl (h1)
  exact ⟨n + 5, ⟨rfl, h⟩⟩
theorem sg_182_7 {d0 : Option Value} {d1 : Option Value} {s0 : Int32} {s1 : Int64} {s2 : Int64} {M : px_Mem} {Q : px_Po} (h1 : px_T 0 175 0 [some (.long s2), none, some (.long s1), none, some (.long ((s0 - 1).toInt64)), none] [] M (fun r M1 => px_T 0 182 13 [d0, d1] (r.toList ++ []) M1 Q)) : px_T 0 182 7 [d0, d1] [.int s0, .long s1, .long s2] M Q := by
  obtain ⟨n, h⟩ := px_T_cl (k := 182) (pc := 10) (y := 175) (st := [.long ((s0 - 1).toInt64), .long s1, .long s2]) rfl (h1)
  exact ⟨n + 4, h⟩
theorem sg_182_13 {d0 : Option Value} {d1 : Option Value} {s0 : Int32} {M : px_Mem} {Q : px_Po} (h1 : (s0 = 0 ∨ s0 = 1)) (h2 : Q (some (.int s0)) M) : px_T 0 182 13 [d0, d1] [.int s0] M Q := by
  exact ⟨1, ⟨h1, h2⟩⟩
theorem sg_183_0 {x1 : Int64} {M : px_Mem} {Q : px_Po} (h1 : px_T 0 180 0 [some (.ref 56)] [] M (fun r M1 => px_T 0 183 4 [some (.ref 56), some (.long x1), none] (r.toList ++ []) M1 Q)) : px_T 0 183 0 [some (.ref 56), some (.long x1), none] [] M Q := by
  obtain ⟨n, h⟩ := px_T_cl (k := 183) (pc := 1) (y := 180) (st := [.ref 56]) rfl (h1)
  exact ⟨n + 2, ⟨rfl, h⟩⟩
theorem sg_183_4 {x1 : Int64} {s0 : Int32} {M : px_Mem} {Q : px_Po} (h1 : (s0 = 0) → Q (some (.int 0)) M) (h2 : (¬ (s0 = 0)) → px_T 0 181 0 [some (.ref 56)] [] M (fun r M1 => px_T 0 183 13 [some (.ref 56), some (.long x1), none] (r.toList ++ [.long 0, .long x1]) M1 Q)) : px_T 0 183 4 [some (.ref 56), some (.long x1), none] [.int s0] M Q := by
  by_cases c1 : s0 = 0
  · exact ⟨3, ⟨fun _ => ⟨Or.inl rfl, h1 c1⟩, fun q => absurd c1 q⟩⟩
  · obtain ⟨n, h⟩ := px_T_cl (k := 183) (pc := 10) (y := 181) (st := [.ref 56, .long 0, .long x1]) rfl (h2 c1)
    exact ⟨n + 5, ⟨fun q => absurd q c1, fun _ => ⟨rfl, h⟩⟩⟩
theorem sg_183_13 {d0 : Option Value} {d1 : Option Value} {s0 : Int32} {s1 : Int64} {s2 : Int64} {M : px_Mem} {Q : px_Po} (h1 : px_T 0 175 0 [some (.long s2), none, some (.long s1), none, some (.long s0.toInt64), none] [] M (fun r M1 => px_T 0 183 17 [d0, d1, none] (r.toList ++ []) M1 Q)) : px_T 0 183 13 [d0, d1, none] [.int s0, .long s1, .long s2] M Q := by
  obtain ⟨n, h⟩ := px_T_cl (k := 183) (pc := 14) (y := 175) (st := [.long s0.toInt64, .long s1, .long s2]) rfl (h1)
  exact ⟨n + 2, h⟩
theorem sg_183_17 {d0 : Option Value} {d1 : Option Value} {d2 : Option Value} {s0 : Int32} {M : px_Mem} {Q : px_Po} (h1 : (s0 = 0) → Q (some (.int 0)) M) (h2 : (¬ (s0 = 0)) → Q (some (.int 1)) M) : px_T 0 183 17 [d0, d1, d2] [.int s0] M Q := by
  by_cases c1 : s0 = 0
  · exact ⟨3, ⟨fun _ => ⟨Or.inl rfl, h1 c1⟩, fun q => absurd c1 q⟩⟩
  · exact ⟨4, ⟨fun q => absurd q c1, fun _ => ⟨Or.inr rfl, h2 c1⟩⟩⟩
theorem sg_184_0 {x0 : Int64} {M : px_Mem} {Q : px_Po} (h1 : px_T 0 175 0 [some (.long x0), none, some (.long 1), none, some (.long 15), none] [] M (fun r M1 => px_T 0 184 8 [some (.long x0), none] (r.toList ++ []) M1 Q)) : px_T 0 184 0 [some (.long x0), none] [] M Q := by
  obtain ⟨n, h⟩ := px_T_cl (k := 184) (pc := 5) (y := 175) (st := [.long 15, .long 1, .long x0]) rfl (h1)
  exact ⟨n + 4, h⟩
theorem sg_184_8 {d0 : Option Value} {s0 : Int32} {M : px_Mem} {Q : px_Po} (h1 : (s0 = 0 ∨ s0 = 1)) (h2 : Q (some (.int s0)) M) : px_T 0 184 8 [d0, none] [.int s0] M Q := by
  exact ⟨1, ⟨h1, h2⟩⟩
theorem sg_185_0 {x0 : Int32} {M : px_Mem} {Q : px_Po} (h1 : px_T 0 175 0 [some (.long x0.toInt64), none, some (.long 0), none, some (.long 7), none] [] M (fun r M1 => px_T 0 185 9 [some (.int x0)] (r.toList ++ []) M1 Q)) : px_T 0 185 0 [some (.int x0)] [] M Q := by
  obtain ⟨n, h⟩ := px_T_cl (k := 185) (pc := 6) (y := 175) (st := [.long 7, .long 0, .long x0.toInt64]) rfl (h1)
  exact ⟨n + 5, h⟩
theorem sg_185_9 {d0 : Option Value} {s0 : Int32} {M : px_Mem} {Q : px_Po} (h1 : (s0 = 0 ∨ s0 = 1)) (h2 : Q (some (.int s0)) M) : px_T 0 185 9 [d0] [.int s0] M Q := by
  exact ⟨1, ⟨h1, h2⟩⟩
theorem sg_186_0 {x0 : Int32} {M : px_Mem} {Q : px_Po} (h1 : px_T 0 175 0 [some (.long x0.toInt64), none, some (.long 0), none, some (.long 199), none] [] M (fun r M1 => px_T 0 186 9 [some (.int x0)] (r.toList ++ []) M1 Q)) : px_T 0 186 0 [some (.int x0)] [] M Q := by
  obtain ⟨n, h⟩ := px_T_cl (k := 186) (pc := 6) (y := 175) (st := [.long 199, .long 0, .long x0.toInt64]) rfl (h1)
  exact ⟨n + 5, h⟩
theorem sg_186_9 {d0 : Option Value} {s0 : Int32} {M : px_Mem} {Q : px_Po} (h1 : (s0 = 0 ∨ s0 = 1)) (h2 : Q (some (.int s0)) M) : px_T 0 186 9 [d0] [.int s0] M Q := by
  exact ⟨1, ⟨h1, h2⟩⟩
theorem sg_187_0 {x1 : Int32} {x2 : Int32} {M : px_Mem} {Q : px_Po} (h1 : vp_in ((5 + (4 * x1)) + x2) 285) (h2 : Q (some (.int (M.1 57 (((5 + (4 * x1)) + x2).toNatClampNeg)))) M) : px_T 0 187 0 [some (.ref 56), some (.int x1), some (.int x2)] [] M Q := by
  exact ⟨11, ⟨rfl, ⟨Or.inl ⟨0, 285, Or.inl rfl, rfl, h1⟩, ⟨trivial, h2⟩⟩⟩⟩
theorem sg_188_0 {x0 : Int32} {x1 : Int32} {M : px_Mem} {Q : px_Po} (h1 : (x1 = 1) → (x0 = 1) → Q (some (.int (-1))) M) (h2 : (x1 = 1) → (¬ (x0 = 1)) → (x0 = 2) → Q (some (.int (-1))) M) (h3 : (x1 = 1) → (¬ (x0 = 1)) → (¬ (x0 = 2)) → (x0 = 0) → Q (some (.int 15)) M) (h4 : (x1 = 1) → (¬ (x0 = 1)) → (¬ (x0 = 2)) → (¬ (x0 = 0)) → Q (some (.int 7)) M) (h5 : (¬ (x1 = 1)) → (x0 = 4) → Q (some (.int 7)) M) (h6 : (¬ (x1 = 1)) → (¬ (x0 = 4)) → (x0 = 5) → Q (some (.int 7)) M) (h7 : (¬ (x1 = 1)) → (¬ (x0 = 4)) → (¬ (x0 = 5)) → (x0 = 7) → Q (some (.int 30)) M) (h8 : (¬ (x1 = 1)) → (¬ (x0 = 4)) → (¬ (x0 = 5)) → (¬ (x0 = 7)) → (x0 = 8) → Q (some (.int 30)) M) (h9 : (¬ (x1 = 1)) → (¬ (x0 = 4)) → (¬ (x0 = 5)) → (¬ (x0 = 7)) → (¬ (x0 = 8)) → Q (some (.int (-1))) M) : px_T 0 188 0 [some (.int x0), some (.int x1)] [] M Q := by
  by_cases c1 : x1 = 1
  · by_cases c2 : x0 = 1
    · exact ⟨9, ⟨fun q => absurd c1 q, fun _ => ⟨fun _ => ⟨trivial, h1 c1 c2⟩, fun q => absurd c2 q⟩⟩⟩
    · by_cases c3 : x0 = 2
      · exact ⟨12, ⟨fun q => absurd c1 q, fun _ => ⟨fun q => absurd q c2, fun _ => ⟨fun q => absurd c3 q, fun _ => ⟨trivial, h2 c1 c2 c3⟩⟩⟩⟩⟩
      · by_cases c4 : x0 = 0
        · exact ⟨14, ⟨fun q => absurd c1 q, fun _ => ⟨fun q => absurd q c2, fun _ => ⟨fun _ => ⟨fun q => absurd c4 q, fun _ => ⟨trivial, h3 c1 c2 c3 c4⟩⟩, fun q => absurd q c3⟩⟩⟩⟩
        · exact ⟨13, ⟨fun q => absurd c1 q, fun _ => ⟨fun q => absurd q c2, fun _ => ⟨fun _ => ⟨fun _ => ⟨trivial, h4 c1 c2 c3 c4⟩, fun q => absurd q c4⟩, fun q => absurd q c3⟩⟩⟩⟩
  · by_cases c5 : x0 = 4
    · exact ⟨8, ⟨fun _ => ⟨fun _ => ⟨trivial, h5 c1 c5⟩, fun q => absurd c5 q⟩, fun q => absurd q c1⟩⟩
    · by_cases c6 : x0 = 5
      · exact ⟨11, ⟨fun _ => ⟨fun q => absurd q c5, fun _ => ⟨fun q => absurd c6 q, fun _ => ⟨trivial, h6 c1 c5 c6⟩⟩⟩, fun q => absurd q c1⟩⟩
      · by_cases c7 : x0 = 7
        · exact ⟨15, ⟨fun _ => ⟨fun q => absurd q c5, fun _ => ⟨fun _ => ⟨fun _ => ⟨trivial, h7 c1 c5 c6 c7⟩, fun q => absurd c7 q⟩, fun q => absurd q c6⟩⟩, fun q => absurd q c1⟩⟩
        · by_cases c8 : x0 = 8
          · exact ⟨18, ⟨fun _ => ⟨fun q => absurd q c5, fun _ => ⟨fun _ => ⟨fun q => absurd q c7, fun _ => ⟨fun q => absurd c8 q, fun _ => ⟨trivial, h8 c1 c5 c6 c7 c8⟩⟩⟩, fun q => absurd q c6⟩⟩, fun q => absurd q c1⟩⟩
          · exact ⟨17, ⟨fun _ => ⟨fun q => absurd q c5, fun _ => ⟨fun _ => ⟨fun q => absurd q c7, fun _ => ⟨fun _ => ⟨trivial, h9 c1 c5 c6 c7 c8⟩, fun q => absurd q c8⟩⟩, fun q => absurd q c6⟩⟩, fun q => absurd q c1⟩⟩
theorem sg_189_0 {x0 : Int32} {x1 : Int32} {M : px_Mem} {Q : px_Po} (h1 : (x1 = 1) → (x0 = 0) → Q (some (.int 1)) M) (h2 : (x1 = 1) → (¬ (x0 = 0)) → Q (some (.int 0)) M) (h3 : (¬ (x1 = 1)) → (x0 = 7) → Q (some (.int 1)) M) (h4 : (¬ (x1 = 1)) → (¬ (x0 = 7)) → (x0 = 8) → Q (some (.int 1)) M) (h5 : (¬ (x1 = 1)) → (¬ (x0 = 7)) → (¬ (x0 = 8)) → Q (some (.int 0)) M) : px_T 0 189 0 [some (.int x0), some (.int x1)] [] M Q := by
  by_cases c1 : x1 = 1
  · by_cases c2 : x0 = 0
    · exact ⟨8, ⟨fun q => absurd c1 q, fun _ => ⟨fun q => absurd c2 q, fun _ => ⟨trivial, h1 c1 c2⟩⟩⟩⟩
    · exact ⟨8, ⟨fun q => absurd c1 q, fun _ => ⟨fun _ => ⟨trivial, h2 c1 c2⟩, fun q => absurd q c2⟩⟩⟩
  · by_cases c3 : x0 = 7
    · exact ⟨9, ⟨fun _ => ⟨fun _ => ⟨trivial, h3 c1 c3⟩, fun q => absurd c3 q⟩, fun q => absurd q c1⟩⟩
    · by_cases c4 : x0 = 8
      · exact ⟨12, ⟨fun _ => ⟨fun q => absurd q c3, fun _ => ⟨fun q => absurd c4 q, fun _ => ⟨trivial, h4 c1 c3 c4⟩⟩⟩, fun q => absurd q c1⟩⟩
      · exact ⟨11, ⟨fun _ => ⟨fun q => absurd q c3, fun _ => ⟨fun _ => ⟨trivial, h5 c1 c3 c4⟩, fun q => absurd q c4⟩⟩, fun q => absurd q c1⟩⟩
theorem sg_190_0 {x1 : Int32} {x2 : Int32} {x3 : Int32} {x4 : Int32} {x5 : Int32} {M : px_Mem} {Q : px_Po} (h1 : (((M.1 56 5) + 20) ≤ 900) → px_T 0 190 44 [some (.ref 56), some (.int x1), some (.int x2), some (.int x3), some (.int x4), some (.int x5), none] [] (px_wI (px_wI (px_wI (px_wI M 61 0 x1) 61 1 x2) 61 2 x3) 61 3 x4) Q) (h2 : (¬ (((M.1 56 5) + 20) ≤ 900)) → Q (some (.int (-1))) M) : px_T 0 190 0 [some (.ref 56), some (.int x1), some (.int x2), some (.int x3), some (.int x4), some (.int x5), none] [] M Q := by
  by_cases c1 : ((M.1 56 5) + 20) ≤ 900
  · obtain ⟨n, h⟩ := h1 c1
    exact ⟨n + 26, ⟨rfl, ⟨fun _ => ⟨rfl, ⟨⟨5, rfl, (vp_in_nI (n := 0) (by decide) (by decide))⟩, ⟨rfl, ⟨⟨5, rfl, (vp_in_nI (n := 1) (by decide) (by decide))⟩, ⟨rfl, ⟨⟨5, rfl, (vp_in_nI (n := 2) (by decide) (by decide))⟩, ⟨rfl, ⟨⟨5, rfl, (vp_in_nI (n := 3) (by decide) (by decide))⟩, h⟩⟩⟩⟩⟩⟩⟩⟩, fun q => absurd c1 q⟩⟩⟩
  · exact ⟨8, ⟨rfl, ⟨fun q => absurd q c1, fun _ => ⟨trivial, h2 c1⟩⟩⟩⟩
theorem sg_190_44 {d1 : Option Value} {d2 : Option Value} {d3 : Option Value} {d4 : Option Value} {x5 : Int32} {d6 : Option Value} {M : px_Mem} {Q : px_Po} (h1 : px_T 0 190 55 [some (.ref 56), d1, d2, d3, d4, some (.int x5), some (.int 0)] [] (px_wI M 61 4 x5) Q) : px_T 0 190 44 [some (.ref 56), d1, d2, d3, d4, some (.int x5), d6] [] M Q := by
  obtain ⟨n, h⟩ := h1
  exact ⟨n + 7, ⟨rfl, ⟨⟨5, rfl, (vp_in_nI (n := 4) (by decide) (by decide))⟩, h⟩⟩⟩
theorem sg_190_55 {d1 : Option Value} {d2 : Option Value} {d3 : Option Value} {d4 : Option Value} {d5 : Option Value} {x6 : Int32} {M : px_Mem} {Q : px_Po} (h1 : ((20 : Int32) ≤ x6) → Q (some (.int ((M.1 56 5) + 20))) (px_wI M 56 5 ((M.1 56 5) + 20))) (h2 : (¬ ((20 : Int32) ≤ x6)) → vp_in (x6 / 4) 5) (h3 : (¬ ((20 : Int32) ≤ x6)) → vp_in ((M.1 56 5) + x6) 900) (h4 : (¬ ((20 : Int32) ≤ x6)) → px_T 0 190 95 [some (.ref 56), d1, d2, d3, d4, d5, some (.int x6)] [] (px_wI M 60 (((M.1 56 5) + x6).toNatClampNeg) (vp_nar .byte (((M.1 61 ((x6 / 4).toNatClampNeg)) >>> ((24 - (8 * (x6 - x6 / 4 * 4))) &&& 31)).toInt8.toInt32))) Q) : px_T 0 190 55 [some (.ref 56), d1, d2, d3, d4, d5, some (.int x6)] [] M Q := by
  by_cases c1 : (20 : Int32) ≤ x6
  · exact ⟨12, ⟨fun _ => ⟨rfl, ⟨rfl, ⟨rfl, ⟨trivial, h1 c1⟩⟩⟩⟩, fun q => absurd c1 q⟩⟩
  · obtain ⟨n, h⟩ := h4 c1
    exact ⟨n + 25, ⟨fun q => absurd q c1, fun _ => ⟨rfl, ⟨rfl, ⟨rfl, ⟨(by decide), ⟨Or.inl ⟨0, 5, Or.inl rfl, rfl, (h2 c1)⟩, ⟨(by decide), (Or.inl ⟨⟨900, rfl, (h3 c1)⟩, h⟩)⟩⟩⟩⟩⟩⟩⟩⟩
theorem sg_190_95 {d1 : Option Value} {d2 : Option Value} {d3 : Option Value} {d4 : Option Value} {d5 : Option Value} {x6 : Int32} {M : px_Mem} {Q : px_Po} (h1 : px_T 0 190 55 [some (.ref 56), d1, d2, d3, d4, d5, some (.int (x6 + 1))] [] M Q) : px_T 0 190 95 [some (.ref 56), d1, d2, d3, d4, d5, some (.int x6)] [] M Q := by
  obtain ⟨n, h⟩ := h1
  exact ⟨n + 2, h⟩
theorem sg_191_0 {x1 : Int32} {M : px_Mem} {Q : px_Po} (h1 : px_T 0 175 0 [some (.long x1.toInt64), none, some (.long 0), none, some (.long ((M.1 56 5).toInt64)), none] [] M (fun r M1 => px_T 0 191 11 [some (.ref 56), some (.int x1)] (r.toList ++ []) M1 Q)) : px_T 0 191 0 [some (.ref 56), some (.int x1)] [] M Q := by
  obtain ⟨n, h⟩ := px_T_cl (k := 191) (pc := 8) (y := 175) (st := [.long ((M.1 56 5).toInt64), .long 0, .long x1.toInt64]) rfl (h1)
  exact ⟨n + 7, ⟨rfl, h⟩⟩
theorem sg_191_11 {x1 : Int32} {s0 : Int32} {M : px_Mem} {Q : px_Po} (h1 : (s0 = 0) → Q (some (.int (-1))) M) (h2 : (¬ (s0 = 0)) → Q (some (.int x1)) (px_wI M 56 5 x1)) : px_T 0 191 11 [some (.ref 56), some (.int x1)] [.int s0] M Q := by
  by_cases c1 : s0 = 0
  · exact ⟨3, ⟨fun q => absurd c1 q, fun _ => ⟨trivial, h1 c1⟩⟩⟩
  · exact ⟨6, ⟨fun _ => ⟨rfl, ⟨trivial, h2 c1⟩⟩, fun q => absurd q c1⟩⟩
theorem sg_192_0 {x1 : Int32} {M : px_Mem} {Q : px_Po} (h1 : ((M.1 56 7) ≤ x1) → Q (some (.int (-1))) M) (h2 : (¬ ((M.1 56 7) ≤ x1)) → vp_in x1 900) (h3 : (¬ ((M.1 56 7) ≤ x1)) → Q (some (.int ((M.1 60 x1.toNatClampNeg) &&& 255))) M) : px_T 0 192 0 [some (.ref 56), some (.int x1)] [] M Q := by
  by_cases c1 : (M.1 56 7) ≤ x1
  · exact ⟨6, ⟨rfl, ⟨fun _ => ⟨trivial, h1 c1⟩, fun q => absurd c1 q⟩⟩⟩
  · exact ⟨12, ⟨rfl, ⟨fun q => absurd q c1, fun _ => ⟨rfl, ⟨⟨2, 900, Or.inl rfl, rfl, (h2 c1)⟩, ⟨trivial, h3 c1⟩⟩⟩⟩⟩⟩
theorem sg_193_0 {M : px_Mem} {Q : px_Po} (h1 : px_T 0 192 0 [some (.ref 56), some (.int (M.1 56 8))] [] M (fun r M1 => px_T 0 193 8 [some (.ref 56), none] (r.toList ++ []) M1 Q)) : px_T 0 193 0 [some (.ref 56), none] [] M Q := by
  obtain ⟨n, h⟩ := px_T_cl (k := 193) (pc := 5) (y := 192) (st := [.int (M.1 56 8), .ref 56]) rfl (h1)
  exact ⟨n + 4, ⟨rfl, ⟨rfl, h⟩⟩⟩
theorem sg_193_8 {d1 : Option Value} {s0 : Int32} {M : px_Mem} {Q : px_Po} (h1 : (s0 = 32) → px_T 0 193 0 [some (.ref 56), d1] [] (px_wI M 56 8 ((M.1 56 8) + 1)) Q) (h2 : (¬ (s0 = 32)) → px_T 0 192 0 [some (.ref 56), some (.int (M.1 56 8))] [] M (fun r M1 => px_T 0 193 21 [some (.ref 56), d1] (r.toList ++ []) M1 Q)) : px_T 0 193 8 [some (.ref 56), d1] [.int s0] M Q := by
  by_cases c1 : s0 = 32
  · obtain ⟨n, h⟩ := h1 c1
    exact ⟨n + 9, ⟨fun _ => ⟨rfl, ⟨rfl, h⟩⟩, fun q => absurd c1 q⟩⟩
  · obtain ⟨n, h⟩ := px_T_cl (k := 193) (pc := 18) (y := 192) (st := [.int (M.1 56 8), .ref 56]) rfl (h2 c1)
    exact ⟨n + 6, ⟨fun q => absurd q c1, fun _ => ⟨rfl, ⟨rfl, h⟩⟩⟩⟩
theorem sg_193_21 {d1 : Option Value} {s0 : Int32} {M : px_Mem} {Q : px_Po} (h1 : (s0 = 10) → px_T 0 193 0 [some (.ref 56), d1] [] (px_wI M 56 8 ((M.1 56 8) + 1)) Q) (h2 : (¬ (s0 = 10)) → px_T 0 192 0 [some (.ref 56), some (.int (M.1 56 8))] [] (px_wI M 56 9 (M.1 56 8)) (fun r M1 => px_T 0 193 55 [some (.ref 56), d1] (r.toList ++ []) M1 Q)) : px_T 0 193 21 [some (.ref 56), d1] [.int s0] M Q := by
  by_cases c1 : s0 = 10
  · obtain ⟨n, h⟩ := h1 c1
    exact ⟨n + 9, ⟨fun q => absurd c1 q, fun _ => ⟨rfl, ⟨rfl, h⟩⟩⟩⟩
  · obtain ⟨n, h⟩ := px_T_cl (k := 193) (pc := 52) (y := 192) (st := [.int (M.1 56 8), .ref 56]) rfl (h2 c1)
    exact ⟨n + 10, ⟨fun _ => ⟨rfl, ⟨rfl, ⟨rfl, ⟨rfl, h⟩⟩⟩⟩, fun q => absurd q c1⟩⟩
theorem sg_193_55 {d1 : Option Value} {s0 : Int32} {M : px_Mem} {Q : px_Po} (h1 : (s0 = (-1)) → Q none (px_wI M 56 10 0)) (h2 : (¬ (s0 = (-1))) → px_T 0 175 0 [some (.long s0.toInt64), none, some (.long 97), none, some (.long 122), none] [] M (fun r M1 => px_T 0 193 80 [some (.ref 56), some (.int s0)] (r.toList ++ []) M1 Q)) : px_T 0 193 55 [some (.ref 56), d1] [.int s0] M Q := by
  by_cases c1 : s0 = (-1)
  · exact ⟨9, ⟨fun q => absurd c1 q, fun _ => ⟨rfl, ⟨rfl, h1 c1⟩⟩⟩⟩
  · obtain ⟨n, h⟩ := px_T_cl (k := 193) (pc := 77) (y := 175) (st := [.long 122, .long 97, .long s0.toInt64]) rfl (h2 c1)
    exact ⟨n + 9, ⟨fun _ => h, fun q => absurd q c1⟩⟩
theorem sg_193_80 {x1 : Int32} {s0 : Int32} {M : px_Mem} {Q : px_Po} (h1 : (s0 = 0) → px_T 0 175 0 [some (.long x1.toInt64), none, some (.long 48), none, some (.long 57), none] [] M (fun r M1 => px_T 0 193 136 [some (.ref 56), some (.int x1)] (r.toList ++ []) M1 Q)) (h2 : (¬ (s0 = 0)) → px_T 0 193 83 [some (.ref 56), some (.int x1)] [] M Q) : px_T 0 193 80 [some (.ref 56), some (.int x1)] [.int s0] M Q := by
  by_cases c1 : s0 = 0
  · obtain ⟨n, h⟩ := px_T_cl (k := 193) (pc := 133) (y := 175) (st := [.long 57, .long 48, .long x1.toInt64]) rfl (h1 c1)
    exact ⟨n + 6, ⟨fun _ => h, fun q => absurd c1 q⟩⟩
  · obtain ⟨n, h⟩ := h2 c1
    exact ⟨n + 1, ⟨fun q => absurd q c1, fun _ => h⟩⟩
theorem sg_193_136 {x1 : Int32} {s0 : Int32} {M : px_Mem} {Q : px_Po} (h1 : (s0 = 0) → (x1 = 59) → Q none (px_wI (px_wI M 56 10 3) 56 8 ((M.1 56 8) + 1))) (h2 : (s0 = 0) → (¬ (x1 = 59)) → Q none (px_wI (px_wI M 56 10 4) 56 8 ((M.1 56 8) + 1))) (h3 : (¬ (s0 = 0)) → px_T 0 193 144 [some (.ref 56), some (.int x1)] [] (px_wI M 56 11 0) Q) : px_T 0 193 136 [some (.ref 56), some (.int x1)] [.int s0] M Q := by
  by_cases c1 : s0 = 0
  · by_cases c2 : x1 = 59
    · exact ⟨15, ⟨fun _ => ⟨fun q => absurd c2 q, fun _ => ⟨rfl, ⟨rfl, ⟨rfl, ⟨rfl, h1 c1 c2⟩⟩⟩⟩⟩, fun q => absurd c1 q⟩⟩
    · exact ⟨14, ⟨fun _ => ⟨fun _ => ⟨rfl, ⟨rfl, ⟨rfl, ⟨rfl, h2 c1 c2⟩⟩⟩⟩, fun q => absurd q c2⟩, fun q => absurd c1 q⟩⟩
  · obtain ⟨n, h⟩ := h3 c1
    exact ⟨n + 4, ⟨fun q => absurd q c1, fun _ => ⟨rfl, h⟩⟩⟩
theorem sg_193_83 {d1 : Option Value} {M : px_Mem} {Q : px_Po} (h1 : px_T 0 192 0 [some (.ref 56), some (.int (M.1 56 8))] [] M (fun r M1 => px_T 0 193 91 [some (.ref 56), d1] (r.toList ++ []) M1 Q)) : px_T 0 193 83 [some (.ref 56), d1] [] M Q := by
  obtain ⟨n, h⟩ := px_T_cl (k := 193) (pc := 88) (y := 192) (st := [.int (M.1 56 8), .ref 56]) rfl (h1)
  exact ⟨n + 4, ⟨rfl, ⟨rfl, h⟩⟩⟩
theorem sg_193_144 {d1 : Option Value} {M : px_Mem} {Q : px_Po} (h1 : px_T 0 192 0 [some (.ref 56), some (.int (M.1 56 8))] [] M (fun r M1 => px_T 0 193 152 [some (.ref 56), d1] (r.toList ++ []) M1 Q)) : px_T 0 193 144 [some (.ref 56), d1] [] M Q := by
  obtain ⟨n, h⟩ := px_T_cl (k := 193) (pc := 149) (y := 192) (st := [.int (M.1 56 8), .ref 56]) rfl (h1)
  exact ⟨n + 4, ⟨rfl, ⟨rfl, h⟩⟩⟩
theorem sg_193_91 {d1 : Option Value} {s0 : Int32} {M : px_Mem} {Q : px_Po} (h1 : px_T 0 175 0 [some (.long s0.toInt64), none, some (.long 97), none, some (.long 122), none] [] M (fun r M1 => px_T 0 193 101 [some (.ref 56), d1] (r.toList ++ []) M1 Q)) : px_T 0 193 91 [some (.ref 56), d1] [.int s0] M Q := by
  obtain ⟨n, h⟩ := px_T_cl (k := 193) (pc := 98) (y := 175) (st := [.long 122, .long 97, .long s0.toInt64]) rfl (h1)
  exact ⟨n + 4, h⟩
theorem sg_193_152 {d1 : Option Value} {s0 : Int32} {M : px_Mem} {Q : px_Po} (h1 : px_T 0 175 0 [some (.long s0.toInt64), none, some (.long 48), none, some (.long 57), none] [] M (fun r M1 => px_T 0 193 162 [some (.ref 56), d1] (r.toList ++ []) M1 Q)) : px_T 0 193 152 [some (.ref 56), d1] [.int s0] M Q := by
  obtain ⟨n, h⟩ := px_T_cl (k := 193) (pc := 159) (y := 175) (st := [.long 57, .long 48, .long s0.toInt64]) rfl (h1)
  exact ⟨n + 4, h⟩
theorem sg_193_101 {d1 : Option Value} {s0 : Int32} {M : px_Mem} {Q : px_Po} (h1 : (s0 = 0) → Q none (px_wI M 56 10 1)) (h2 : (¬ (s0 = 0)) → px_T 0 193 83 [some (.ref 56), d1] [] (px_wI M 56 8 ((M.1 56 8) + 1)) Q) : px_T 0 193 101 [some (.ref 56), d1] [.int s0] M Q := by
  by_cases c1 : s0 = 0
  · exact ⟨6, ⟨fun _ => ⟨rfl, ⟨rfl, h1 c1⟩⟩, fun q => absurd c1 q⟩⟩
  · obtain ⟨n, h⟩ := h2 c1
    exact ⟨n + 8, ⟨fun q => absurd q c1, fun _ => ⟨rfl, ⟨rfl, h⟩⟩⟩⟩
theorem sg_193_162 {d1 : Option Value} {s0 : Int32} {M : px_Mem} {Q : px_Po} (h1 : (s0 = 0) → Q none (px_wI M 56 10 2)) (h2 : (¬ (s0 = 0)) → px_T 0 192 0 [some (.ref 56), some (.int (M.1 56 8))] [] M (fun r M1 => px_T 0 193 183 [some (.ref 56), d1] (r.toList ++ [.int (10 * (M.1 56 11)), .int 99999, .ref 56]) M1 Q)) : px_T 0 193 162 [some (.ref 56), d1] [.int s0] M Q := by
  by_cases c1 : s0 = 0
  · exact ⟨6, ⟨fun _ => ⟨rfl, ⟨rfl, h1 c1⟩⟩, fun q => absurd c1 q⟩⟩
  · obtain ⟨n, h⟩ := px_T_cl (k := 193) (pc := 180) (y := 192) (st := [.int (M.1 56 8), .ref 56, .int (10 * (M.1 56 11)), .int 99999, .ref 56]) rfl (h2 c1)
    exact ⟨n + 11, ⟨fun q => absurd q c1, fun _ => ⟨rfl, ⟨rfl, ⟨rfl, h⟩⟩⟩⟩⟩
theorem sg_193_183 {d1 : Option Value} {s0 : Int32} {s1 : Int32} {s2 : Int32} {M : px_Mem} {Q : px_Po} (h1 : px_T 0 193 144 [some (.ref 56), d1] [] (px_wI (px_wI M 56 11 (if ((s1 + s0) - 48) < s2 then (s1 + s0) - 48 else s2)) 56 8 ((M.1 56 8) + 1)) Q) : px_T 0 193 183 [some (.ref 56), d1] [.int s0, .int s1, .int s2, .ref 56] M Q := by
  obtain ⟨n, h⟩ := h1
  exact ⟨n + 12, ⟨(Nat.le_of_ble_eq_true rfl), (Nat.le_of_ble_eq_true rfl), (Nat.le_of_ble_eq_true rfl), ⟨rfl, ⟨rfl, ⟨rfl, h⟩⟩⟩⟩⟩
theorem sg_194_0 {M : px_Mem} {Q : px_Po} (h1 : ((M.1 56 12) = 0) → Q (some (.int 1)) M) (h2 : (¬ ((M.1 56 12) = 0)) → Q (some (.int 0)) M) : px_T 0 194 0 [some (.ref 56)] [] M Q := by
  by_cases c1 : (M.1 56 12) = 0
  · exact ⟨6, ⟨rfl, ⟨fun q => absurd c1 q, fun _ => ⟨Or.inr rfl, h1 c1⟩⟩⟩⟩
  · exact ⟨5, ⟨rfl, ⟨fun _ => ⟨Or.inl rfl, h2 c1⟩, fun q => absurd q c1⟩⟩⟩
theorem sg_195_0 {x1 : Int32} {M : px_Mem} {Q : px_Po} (h1 : px_T 0 194 0 [some (.ref 56)] [] M (fun r M1 => px_T 0 195 4 [some (.ref 56), some (.int x1)] (r.toList ++ []) M1 Q)) : px_T 0 195 0 [some (.ref 56), some (.int x1)] [] M Q := by
  obtain ⟨n, h⟩ := px_T_cl (k := 195) (pc := 1) (y := 194) (st := [.ref 56]) rfl (h1)
  exact ⟨n + 2, ⟨rfl, h⟩⟩
theorem sg_195_4 {x1 : Int32} {s0 : Int32} {M : px_Mem} {Q : px_Po} (h1 : (s0 = 0) → Q none M) (h2 : (¬ (s0 = 0)) → Q none (px_wI (px_wI M 56 12 x1) 56 13 (M.1 56 9))) : px_T 0 195 4 [some (.ref 56), some (.int x1)] [.int s0] M Q := by
  by_cases c1 : s0 = 0
  · exact ⟨2, ⟨fun q => absurd c1 q, fun _ => ⟨rfl, h1 c1⟩⟩⟩
  · exact ⟨9, ⟨fun _ => ⟨rfl, ⟨rfl, ⟨rfl, ⟨rfl, h2 c1⟩⟩⟩⟩, fun q => absurd q c1⟩⟩
theorem sg_196_0 {x1 : Nat} {M : px_Mem} {Q : px_Po} (h1 : px_T 0 194 0 [some (.ref 56)] [] M (fun r M1 => px_T 0 196 4 [some (.ref 56), some (.ref x1), none, none] (r.toList ++ []) M1 Q)) : px_T 0 196 0 [some (.ref 56), some (.ref x1), none, none] [] M Q := by
  obtain ⟨n, h⟩ := px_T_cl (k := 196) (pc := 1) (y := 194) (st := [.ref 56]) rfl (h1)
  exact ⟨n + 2, ⟨rfl, h⟩⟩
theorem sg_196_4 {x1 : Nat} {d2 : Option Value} {d3 : Option Value} {s0 : Int32} {M : px_Mem} {Q : px_Po} (h1 : (s0 = 0) → px_T 0 196 39 [some (.ref 56), some (.ref x1), some (.int 0), some (.int 0)] [] M Q) (h2 : (¬ (s0 = 0)) → ((M.1 56 10) = 1) → px_T 0 333 0 [some (.ref x1)] [] M (fun r M1 => px_T 0 196 28 [some (.ref 56), some (.ref x1), d2, d3] (r.toList ++ [.int ((M.1 56 8) - (M.1 56 9))]) M1 Q)) (h3 : (¬ (s0 = 0)) → ((M.1 56 10) = 1) → px_sh 0 x1 = some (.inl 12)) (h4 : (¬ (s0 = 0)) → (¬ ((M.1 56 10) = 1)) → px_T 0 196 39 [some (.ref 56), some (.ref x1), some (.int 0), some (.int 0)] [] M Q) : px_T 0 196 4 [some (.ref 56), some (.ref x1), d2, d3] [.int s0] M Q := by
  by_cases c1 : s0 = 0
  · obtain ⟨n, h⟩ := h1 c1
    exact ⟨n + 5, ⟨fun _ => h, fun q => absurd c1 q⟩⟩
  · by_cases c2 : (M.1 56 10) = 1
    · obtain ⟨n, h⟩ := px_T_cl (k := 196) (pc := 25) (y := 333) (st := [.ref x1, .int ((M.1 56 8) - (M.1 56 9))]) rfl (h2 c1 c2)
      exact ⟨n + 12, ⟨fun q => absurd q c1, fun _ => ⟨rfl, ⟨fun q => absurd c2 q, fun _ => ⟨rfl, ⟨rfl, ⟨(h3 c1 c2), h⟩⟩⟩⟩⟩⟩⟩
    · obtain ⟨n, h⟩ := h4 c1 c2
      exact ⟨n + 9, ⟨fun q => absurd q c1, fun _ => ⟨rfl, ⟨fun _ => h, fun q => absurd q c2⟩⟩⟩⟩
theorem sg_196_39 {x1 : Nat} {x2 : Int32} {x3 : Int32} {M : px_Mem} {Q : px_Po} (h1 : px_T 0 333 0 [some (.ref x1)] [] M (fun r M1 => px_T 0 196 44 [some (.ref 56), some (.ref x1), some (.int x2), some (.int x3)] (r.toList ++ [.int x3]) M1 Q)) (h2 : px_sh 0 x1 = some (.inl 12)) : px_T 0 196 39 [some (.ref 56), some (.ref x1), some (.int x2), some (.int x3)] [] M Q := by
  obtain ⟨n, h⟩ := px_T_cl (k := 196) (pc := 41) (y := 333) (st := [.ref x1, .int x3]) rfl (h1)
  exact ⟨n + 3, ⟨h2, h⟩⟩
theorem sg_196_28 {x1 : Nat} {d2 : Option Value} {d3 : Option Value} {s0 : Int32} {s1 : Int32} {M : px_Mem} {Q : px_Po} (h1 : (s1 = s0) → px_T 0 196 39 [some (.ref 56), some (.ref x1), some (.int 1), some (.int 0)] [] M Q) (h2 : (¬ (s1 = s0)) → px_T 0 196 39 [some (.ref 56), some (.ref x1), some (.int 0), some (.int 0)] [] M Q) : px_T 0 196 28 [some (.ref 56), some (.ref x1), d2, d3] [.int s0, .int s1] M Q := by
  by_cases c1 : s1 = s0
  · obtain ⟨n, h⟩ := h1 c1
    exact ⟨n + 6, ⟨fun q => absurd c1 q, fun _ => h⟩⟩
  · obtain ⟨n, h⟩ := h2 c1
    exact ⟨n + 5, ⟨fun _ => h, fun q => absurd q c1⟩⟩
theorem sg_196_44 {x1 : Nat} {x2 : Int32} {x3 : Int32} {s0 : Int32} {s1 : Int32} {M : px_Mem} {Q : px_Po} (h1 : (s0 ≤ s1) → (x2 = 0 ∨ x2 = 1)) (h2 : (s0 ≤ s1) → Q (some (.int x2)) M) (h3 : (¬ (s0 ≤ s1)) → (x2 = 0) → (x2 = 0 ∨ x2 = 1)) (h4 : (¬ (s0 ≤ s1)) → (x2 = 0) → Q (some (.int x2)) M) (h5 : (¬ (s0 ≤ s1)) → (¬ (x2 = 0)) → vp_in ((M.1 56 9) + x3) 900) (h6 : (¬ (s0 ≤ s1)) → (¬ (x2 = 0)) → px_T 0 334 0 [some (.ref x1), some (.int x3)] [] M (fun r M1 => px_T 0 196 67 [some (.ref 56), some (.ref x1), some (.int x2), some (.int x3)] (r.toList ++ [.int (M.1 60 (((M.1 56 9) + x3).toNatClampNeg))]) M1 Q)) (h7 : (¬ (s0 ≤ s1)) → (¬ (x2 = 0)) → px_sh 0 x1 = some (.inl 12)) : px_T 0 196 44 [some (.ref 56), some (.ref x1), some (.int x2), some (.int x3)] [.int s0, .int s1] M Q := by
  by_cases c1 : s0 ≤ s1
  · exact ⟨3, ⟨fun _ => ⟨(h1 c1), h2 c1⟩, fun q => absurd c1 q⟩⟩
  · by_cases c2 : x2 = 0
    · exact ⟨5, ⟨fun q => absurd q c1, fun _ => ⟨fun _ => ⟨(h3 c1 c2), h4 c1 c2⟩, fun q => absurd c2 q⟩⟩⟩
    · obtain ⟨n, h⟩ := px_T_cl (k := 196) (pc := 64) (y := 334) (st := [.int x3, .ref x1, .int (M.1 60 (((M.1 56 9) + x3).toNatClampNeg))]) rfl (h6 c1 c2)
      exact ⟨n + 13, ⟨fun q => absurd q c1, fun _ => ⟨fun q => absurd q c2, fun _ => ⟨rfl, ⟨rfl, ⟨⟨2, 900, Or.inl rfl, rfl, (h5 c1 c2)⟩, ⟨(h7 c1 c2), h⟩⟩⟩⟩⟩⟩⟩
theorem sg_196_67 {x1 : Nat} {d2 : Option Value} {x3 : Int32} {s0 : Int32} {s1 : Int32} {M : px_Mem} {Q : px_Po} (h1 : (s1 = s0) → px_T 0 196 39 [some (.ref 56), some (.ref x1), some (.int 1), some (.int (x3 + 1))] [] M Q) (h2 : (¬ (s1 = s0)) → px_T 0 196 39 [some (.ref 56), some (.ref x1), some (.int 0), some (.int (x3 + 1))] [] M Q) : px_T 0 196 67 [some (.ref 56), some (.ref x1), d2, some (.int x3)] [.int s0, .int s1] M Q := by
  by_cases c1 : s1 = s0
  · obtain ⟨n, h⟩ := h1 c1
    exact ⟨n + 6, ⟨fun q => absurd c1 q, fun _ => h⟩⟩
  · obtain ⟨n, h⟩ := h2 c1
    exact ⟨n + 5, ⟨fun _ => h, fun q => absurd q c1⟩⟩
theorem sg_197_0 {x1 : Nat} {M : px_Mem} {Q : px_Po} (h1 : px_T 0 196 0 [some (.ref 56), some (.ref x1), none, none] [] M (fun r M1 => px_T 0 197 5 [some (.ref 56), some (.ref x1), none] (r.toList ++ []) M1 Q)) : px_T 0 197 0 [some (.ref 56), some (.ref x1), none] [] M Q := by
  obtain ⟨n, h⟩ := px_T_cl (k := 197) (pc := 2) (y := 196) (st := [.ref x1, .ref 56]) rfl (h1)
  exact ⟨n + 3, ⟨rfl, h⟩⟩
theorem sg_197_5 {d1 : Option Value} {d2 : Option Value} {s0 : Int32} {M : px_Mem} {Q : px_Po} (h1 : (s0 = 0) → (s0 = 0 ∨ s0 = 1)) (h2 : (s0 = 0) → Q (some (.int s0)) M) (h3 : (¬ (s0 = 0)) → px_T 0 193 0 [some (.ref 56), none] [] M (fun r M1 => px_T 0 197 14 [some (.ref 56), d1, some (.int s0)] (r.toList ++ []) M1 Q)) : px_T 0 197 5 [some (.ref 56), d1, d2] [.int s0] M Q := by
  by_cases c1 : s0 = 0
  · exact ⟨5, ⟨fun _ => ⟨(h1 c1), h2 c1⟩, fun q => absurd c1 q⟩⟩
  · obtain ⟨n, h⟩ := px_T_cl (k := 197) (pc := 11) (y := 193) (st := [.ref 56]) rfl (h3 c1)
    exact ⟨n + 5, ⟨fun q => absurd q c1, fun _ => ⟨rfl, h⟩⟩⟩
theorem sg_197_14 {d0 : Option Value} {d1 : Option Value} {x2 : Int32} {M : px_Mem} {Q : px_Po} (h1 : (x2 = 0 ∨ x2 = 1)) (h2 : Q (some (.int x2)) M) : px_T 0 197 14 [d0, d1, some (.int x2)] [] M Q := by
  exact ⟨2, ⟨h1, h2⟩⟩
theorem sg_198_0 {x1 : Nat} {M : px_Mem} {Q : px_Po} (h1 : px_T 0 197 0 [some (.ref 56), some (.ref x1), none] [] M (fun r M1 => px_T 0 198 5 [some (.ref 56), some (.ref x1)] (r.toList ++ []) M1 Q)) : px_T 0 198 0 [some (.ref 56), some (.ref x1)] [] M Q := by
  obtain ⟨n, h⟩ := px_T_cl (k := 198) (pc := 2) (y := 197) (st := [.ref x1, .ref 56]) rfl (h1)
  exact ⟨n + 3, ⟨rfl, h⟩⟩
theorem sg_198_5 {d1 : Option Value} {s0 : Int32} {M : px_Mem} {Q : px_Po} (h1 : (s0 = 0) → px_T 0 195 0 [some (.ref 56), some (.int 1)] [] M (fun r M1 => px_T 0 198 13 [some (.ref 56), d1] (r.toList ++ []) M1 Q)) (h2 : (¬ (s0 = 0)) → Q none M) : px_T 0 198 5 [some (.ref 56), d1] [.int s0] M Q := by
  by_cases c1 : s0 = 0
  · obtain ⟨n, h⟩ := px_T_cl (k := 198) (pc := 10) (y := 195) (st := [.int 1, .ref 56]) rfl (h1 c1)
    exact ⟨n + 4, ⟨fun q => absurd c1 q, fun _ => ⟨rfl, h⟩⟩⟩
  · exact ⟨2, ⟨fun _ => ⟨rfl, h2 c1⟩, fun q => absurd q c1⟩⟩
theorem sg_198_13 {d0 : Option Value} {d1 : Option Value} {M : px_Mem} {Q : px_Po} (h1 : Q none M) : px_T 0 198 13 [d0, d1] [] M Q := by
  exact ⟨1, ⟨rfl, h1⟩⟩
theorem sg_199_0 {x1 : Int32} {x2 : Int32} {M : px_Mem} {Q : px_Po} (h1 : px_T 0 194 0 [some (.ref 56)] [] M (fun r M1 => px_T 0 199 4 [some (.ref 56), some (.int x1), some (.int x2), none] (r.toList ++ []) M1 Q)) : px_T 0 199 0 [some (.ref 56), some (.int x1), some (.int x2), none] [] M Q := by
  obtain ⟨n, h⟩ := px_T_cl (k := 199) (pc := 1) (y := 194) (st := [.ref 56]) rfl (h1)
  exact ⟨n + 2, ⟨rfl, h⟩⟩
theorem sg_199_4 {x1 : Int32} {x2 : Int32} {d3 : Option Value} {s0 : Int32} {M : px_Mem} {Q : px_Po} (h1 : (s0 = 0) → px_T 0 194 0 [some (.ref 56)] [] M (fun r M1 => px_T 0 199 24 [some (.ref 56), some (.int x1), some (.int x2), d3] (r.toList ++ []) M1 Q)) (h2 : (¬ (s0 = 0)) → ((M.1 56 10) = 2) → px_T 0 194 0 [some (.ref 56)] [] M (fun r M1 => px_T 0 199 24 [some (.ref 56), some (.int x1), some (.int x2), d3] (r.toList ++ []) M1 Q)) (h3 : (¬ (s0 = 0)) → (¬ ((M.1 56 10) = 2)) → px_T 0 195 0 [some (.ref 56), some (.int 1)] [] M (fun r M1 => px_T 0 199 20 [some (.ref 56), some (.int x1), some (.int x2), d3] (r.toList ++ []) M1 Q)) : px_T 0 199 4 [some (.ref 56), some (.int x1), some (.int x2), d3] [.int s0] M Q := by
  by_cases c1 : s0 = 0
  · obtain ⟨n, h⟩ := px_T_cl (k := 199) (pc := 21) (y := 194) (st := [.ref 56]) rfl (h1 c1)
    exact ⟨n + 3, ⟨fun _ => ⟨rfl, h⟩, fun q => absurd c1 q⟩⟩
  · by_cases c2 : (M.1 56 10) = 2
    · obtain ⟨n, h⟩ := px_T_cl (k := 199) (pc := 21) (y := 194) (st := [.ref 56]) rfl (h2 c1 c2)
      exact ⟨n + 7, ⟨fun q => absurd q c1, fun _ => ⟨rfl, ⟨fun _ => ⟨rfl, h⟩, fun q => absurd c2 q⟩⟩⟩⟩
    · obtain ⟨n, h⟩ := px_T_cl (k := 199) (pc := 17) (y := 195) (st := [.int 1, .ref 56]) rfl (h3 c1 c2)
      exact ⟨n + 8, ⟨fun q => absurd q c1, fun _ => ⟨rfl, ⟨fun q => absurd q c2, fun _ => ⟨rfl, h⟩⟩⟩⟩⟩
theorem sg_199_24 {x1 : Int32} {x2 : Int32} {d3 : Option Value} {s0 : Int32} {M : px_Mem} {Q : px_Po} (h1 : (s0 = 0) → px_T 0 194 0 [some (.ref 56)] [] M (fun r M1 => px_T 0 199 51 [some (.ref 56), some (.int x1), some (.int x2), d3] (r.toList ++ []) M1 Q)) (h2 : (¬ (s0 = 0)) → px_T 0 175 0 [some (.long ((M.1 56 11).toInt64)), none, some (.long x1.toInt64), none, some (.long x2.toInt64), none] [] M (fun r M1 => px_T 0 199 39 [some (.ref 56), some (.int x1), some (.int x2), d3] (r.toList ++ []) M1 Q)) : px_T 0 199 24 [some (.ref 56), some (.int x1), some (.int x2), d3] [.int s0] M Q := by
  by_cases c1 : s0 = 0
  · obtain ⟨n, h⟩ := px_T_cl (k := 199) (pc := 48) (y := 194) (st := [.ref 56]) rfl (h1 c1)
    exact ⟨n + 3, ⟨fun _ => ⟨rfl, h⟩, fun q => absurd c1 q⟩⟩
  · obtain ⟨n, h⟩ := px_T_cl (k := 199) (pc := 36) (y := 175) (st := [.long x2.toInt64, .long x1.toInt64, .long ((M.1 56 11).toInt64)]) rfl (h2 c1)
    exact ⟨n + 9, ⟨fun q => absurd q c1, fun _ => ⟨rfl, h⟩⟩⟩
theorem sg_199_20 {x1 : Int32} {x2 : Int32} {d3 : Option Value} {M : px_Mem} {Q : px_Po} (h1 : px_T 0 194 0 [some (.ref 56)] [] M (fun r M1 => px_T 0 199 24 [some (.ref 56), some (.int x1), some (.int x2), d3] (r.toList ++ []) M1 Q)) : px_T 0 199 20 [some (.ref 56), some (.int x1), some (.int x2), d3] [] M Q := by
  obtain ⟨n, h⟩ := px_T_cl (k := 199) (pc := 21) (y := 194) (st := [.ref 56]) rfl (h1)
  exact ⟨n + 2, ⟨rfl, h⟩⟩
theorem sg_199_51 {d1 : Option Value} {d2 : Option Value} {d3 : Option Value} {s0 : Int32} {M : px_Mem} {Q : px_Po} (h1 : (s0 = 0) → Q (some (.int 0)) M) (h2 : (¬ (s0 = 0)) → px_T 0 193 0 [some (.ref 56), none] [] M (fun r M1 => px_T 0 199 65 [some (.ref 56), d1, d2, some (.int (M.1 56 11))] (r.toList ++ []) M1 Q)) : px_T 0 199 51 [some (.ref 56), d1, d2, d3] [.int s0] M Q := by
  by_cases c1 : s0 = 0
  · exact ⟨3, ⟨fun q => absurd c1 q, fun _ => ⟨trivial, h1 c1⟩⟩⟩
  · obtain ⟨n, h⟩ := px_T_cl (k := 199) (pc := 62) (y := 193) (st := [.ref 56]) rfl (h2 c1)
    exact ⟨n + 6, ⟨fun _ => ⟨rfl, ⟨rfl, h⟩⟩, fun q => absurd q c1⟩⟩
theorem sg_199_39 {d1 : Option Value} {d2 : Option Value} {d3 : Option Value} {s0 : Int32} {M : px_Mem} {Q : px_Po} (h1 : (s0 = 0) → px_T 0 195 0 [some (.ref 56), some (.int 2)] [] M (fun r M1 => px_T 0 199 47 [some (.ref 56), d1, d2, d3] (r.toList ++ []) M1 Q)) (h2 : (¬ (s0 = 0)) → px_T 0 194 0 [some (.ref 56)] [] M (fun r M1 => px_T 0 199 51 [some (.ref 56), d1, d2, d3] (r.toList ++ []) M1 Q)) : px_T 0 199 39 [some (.ref 56), d1, d2, d3] [.int s0] M Q := by
  by_cases c1 : s0 = 0
  · obtain ⟨n, h⟩ := px_T_cl (k := 199) (pc := 44) (y := 195) (st := [.int 2, .ref 56]) rfl (h1 c1)
    exact ⟨n + 4, ⟨fun q => absurd c1 q, fun _ => ⟨rfl, h⟩⟩⟩
  · obtain ⟨n, h⟩ := px_T_cl (k := 199) (pc := 48) (y := 194) (st := [.ref 56]) rfl (h2 c1)
    exact ⟨n + 3, ⟨fun _ => ⟨rfl, h⟩, fun q => absurd q c1⟩⟩
theorem sg_199_65 {d0 : Option Value} {d1 : Option Value} {d2 : Option Value} {x3 : Int32} {M : px_Mem} {Q : px_Po} (h1 : Q (some (.int x3)) M) : px_T 0 199 65 [d0, d1, d2, some (.int x3)] [] M Q := by
  exact ⟨2, ⟨trivial, h1⟩⟩
theorem sg_199_47 {d1 : Option Value} {d2 : Option Value} {d3 : Option Value} {M : px_Mem} {Q : px_Po} (h1 : px_T 0 194 0 [some (.ref 56)] [] M (fun r M1 => px_T 0 199 51 [some (.ref 56), d1, d2, d3] (r.toList ++ []) M1 Q)) : px_T 0 199 47 [some (.ref 56), d1, d2, d3] [] M Q := by
  obtain ⟨n, h⟩ := px_T_cl (k := 199) (pc := 48) (y := 194) (st := [.ref 56]) rfl (h1)
  exact ⟨n + 2, ⟨rfl, h⟩⟩
theorem sg_200_0 {x1 : Nat} {x2 : Int32} {x3 : Int32} {M : px_Mem} {Q : px_Po} (h1 : px_T 0 198 0 [some (.ref 56), some (.ref x1)] [] M (fun r M1 => px_T 0 200 5 [some (.ref 56), some (.ref x1), some (.int x2), some (.int x3)] (r.toList ++ []) M1 Q)) : px_T 0 200 0 [some (.ref 56), some (.ref x1), some (.int x2), some (.int x3)] [] M Q := by
  obtain ⟨n, h⟩ := px_T_cl (k := 200) (pc := 2) (y := 198) (st := [.ref x1, .ref 56]) rfl (h1)
  exact ⟨n + 3, ⟨rfl, h⟩⟩
theorem sg_200_5 {d1 : Option Value} {x2 : Int32} {x3 : Int32} {M : px_Mem} {Q : px_Po} (h1 : px_T 0 199 0 [some (.ref 56), some (.int x2), some (.int x3), none] [] M (fun r M1 => px_T 0 200 11 [some (.ref 56), d1, some (.int x2), some (.int x3)] (r.toList ++ []) M1 Q)) : px_T 0 200 5 [some (.ref 56), d1, some (.int x2), some (.int x3)] [] M Q := by
  obtain ⟨n, h⟩ := px_T_cl (k := 200) (pc := 8) (y := 199) (st := [.int x3, .int x2, .ref 56]) rfl (h1)
  exact ⟨n + 4, ⟨rfl, h⟩⟩
theorem sg_200_11 {d0 : Option Value} {d1 : Option Value} {d2 : Option Value} {d3 : Option Value} {s0 : Int32} {M : px_Mem} {Q : px_Po} (h1 : Q (some (.int s0)) M) : px_T 0 200 11 [d0, d1, d2, d3] [.int s0] M Q := by
  exact ⟨1, ⟨trivial, h1⟩⟩
theorem sg_201_0 {x1 : Int32} {M : px_Mem} {Q : px_Po} (h1 : (x1 = 0) → Q (some (.int (M.1 56 12))) M) (h2 : (¬ (x1 = 0)) → (x1 = 1) → Q (some (.int (M.1 56 13))) M) (h3 : (¬ (x1 = 0)) → (¬ (x1 = 1)) → Q (some (.int (-1))) M) : px_T 0 201 0 [some (.ref 56), some (.int x1)] [] M Q := by
  by_cases c1 : x1 = 0
  · exact ⟨6, ⟨fun q => absurd c1 q, fun _ => ⟨rfl, ⟨trivial, h1 c1⟩⟩⟩⟩
  · by_cases c2 : x1 = 1
    · exact ⟨9, ⟨fun _ => ⟨fun q => absurd c2 q, fun _ => ⟨rfl, ⟨trivial, h2 c1 c2⟩⟩⟩, fun q => absurd q c1⟩⟩
    · exact ⟨7, ⟨fun _ => ⟨fun _ => ⟨trivial, h3 c1 c2⟩, fun q => absurd q c2⟩, fun q => absurd q c1⟩⟩
theorem sg_202_0 {M : px_Mem} {Q : px_Po} (h1 : px_T 0 196 0 [some (.ref 56), some (.ref 1100), none, none] [] M (fun r M1 => px_T 0 202 6 [some (.ref 56)] (r.toList ++ []) M1 Q)) : px_T 0 202 0 [some (.ref 56)] [] M Q := by
  obtain ⟨n, h⟩ := px_T_cl (k := 202) (pc := 3) (y := 196) (st := [.ref 1100, .ref 56]) rfl (h1)
  exact ⟨n + 3, ⟨rfl, ⟨rfl, h⟩⟩⟩
theorem sg_202_6 {s0 : Int32} {M : px_Mem} {Q : px_Po} (h1 : (s0 = 0) → px_T 0 196 0 [some (.ref 56), some (.ref 1101), none, none] [] M (fun r M1 => px_T 0 202 17 [some (.ref 56)] (r.toList ++ []) M1 Q)) (h2 : (¬ (s0 = 0)) → Q (some (.int 0)) M) : px_T 0 202 6 [some (.ref 56)] [.int s0] M Q := by
  by_cases c1 : s0 = 0
  · obtain ⟨n, h⟩ := px_T_cl (k := 202) (pc := 14) (y := 196) (st := [.ref 1101, .ref 56]) rfl (h1 c1)
    exact ⟨n + 4, ⟨fun _ => ⟨rfl, ⟨rfl, h⟩⟩, fun q => absurd c1 q⟩⟩
  · exact ⟨3, ⟨fun q => absurd q c1, fun _ => ⟨trivial, h2 c1⟩⟩⟩
theorem sg_202_17 {s0 : Int32} {M : px_Mem} {Q : px_Po} (h1 : (s0 = 0) → px_T 0 196 0 [some (.ref 56), some (.ref 1102), none, none] [] M (fun r M1 => px_T 0 202 28 [some (.ref 56)] (r.toList ++ []) M1 Q)) (h2 : (¬ (s0 = 0)) → Q (some (.int 1)) M) : px_T 0 202 17 [some (.ref 56)] [.int s0] M Q := by
  by_cases c1 : s0 = 0
  · obtain ⟨n, h⟩ := px_T_cl (k := 202) (pc := 25) (y := 196) (st := [.ref 1102, .ref 56]) rfl (h1 c1)
    exact ⟨n + 4, ⟨fun _ => ⟨rfl, ⟨rfl, h⟩⟩, fun q => absurd c1 q⟩⟩
  · exact ⟨3, ⟨fun q => absurd q c1, fun _ => ⟨trivial, h2 c1⟩⟩⟩
theorem sg_202_28 {s0 : Int32} {M : px_Mem} {Q : px_Po} (h1 : (s0 = 0) → px_T 0 196 0 [some (.ref 56), some (.ref 1103), none, none] [] M (fun r M1 => px_T 0 202 39 [some (.ref 56)] (r.toList ++ []) M1 Q)) (h2 : (¬ (s0 = 0)) → Q (some (.int 2)) M) : px_T 0 202 28 [some (.ref 56)] [.int s0] M Q := by
  by_cases c1 : s0 = 0
  · obtain ⟨n, h⟩ := px_T_cl (k := 202) (pc := 36) (y := 196) (st := [.ref 1103, .ref 56]) rfl (h1 c1)
    exact ⟨n + 4, ⟨fun _ => ⟨rfl, ⟨rfl, h⟩⟩, fun q => absurd c1 q⟩⟩
  · exact ⟨3, ⟨fun q => absurd q c1, fun _ => ⟨trivial, h2 c1⟩⟩⟩
theorem sg_202_39 {s0 : Int32} {M : px_Mem} {Q : px_Po} (h1 : (s0 = 0) → px_T 0 196 0 [some (.ref 56), some (.ref 1104), none, none] [] M (fun r M1 => px_T 0 202 50 [some (.ref 56)] (r.toList ++ []) M1 Q)) (h2 : (¬ (s0 = 0)) → Q (some (.int 3)) M) : px_T 0 202 39 [some (.ref 56)] [.int s0] M Q := by
  by_cases c1 : s0 = 0
  · obtain ⟨n, h⟩ := px_T_cl (k := 202) (pc := 47) (y := 196) (st := [.ref 1104, .ref 56]) rfl (h1 c1)
    exact ⟨n + 4, ⟨fun _ => ⟨rfl, ⟨rfl, h⟩⟩, fun q => absurd c1 q⟩⟩
  · exact ⟨3, ⟨fun q => absurd q c1, fun _ => ⟨trivial, h2 c1⟩⟩⟩
theorem sg_202_50 {s0 : Int32} {M : px_Mem} {Q : px_Po} (h1 : (s0 = 0) → px_T 0 196 0 [some (.ref 56), some (.ref 1105), none, none] [] M (fun r M1 => px_T 0 202 61 [some (.ref 56)] (r.toList ++ []) M1 Q)) (h2 : (¬ (s0 = 0)) → Q (some (.int 4)) M) : px_T 0 202 50 [some (.ref 56)] [.int s0] M Q := by
  by_cases c1 : s0 = 0
  · obtain ⟨n, h⟩ := px_T_cl (k := 202) (pc := 58) (y := 196) (st := [.ref 1105, .ref 56]) rfl (h1 c1)
    exact ⟨n + 4, ⟨fun _ => ⟨rfl, ⟨rfl, h⟩⟩, fun q => absurd c1 q⟩⟩
  · exact ⟨3, ⟨fun q => absurd q c1, fun _ => ⟨trivial, h2 c1⟩⟩⟩
theorem sg_202_61 {s0 : Int32} {M : px_Mem} {Q : px_Po} (h1 : (s0 = 0) → px_T 0 196 0 [some (.ref 56), some (.ref 1106), none, none] [] M (fun r M1 => px_T 0 202 72 [some (.ref 56)] (r.toList ++ []) M1 Q)) (h2 : (¬ (s0 = 0)) → Q (some (.int 5)) M) : px_T 0 202 61 [some (.ref 56)] [.int s0] M Q := by
  by_cases c1 : s0 = 0
  · obtain ⟨n, h⟩ := px_T_cl (k := 202) (pc := 69) (y := 196) (st := [.ref 1106, .ref 56]) rfl (h1 c1)
    exact ⟨n + 4, ⟨fun _ => ⟨rfl, ⟨rfl, h⟩⟩, fun q => absurd c1 q⟩⟩
  · exact ⟨3, ⟨fun q => absurd q c1, fun _ => ⟨trivial, h2 c1⟩⟩⟩
theorem sg_202_72 {s0 : Int32} {M : px_Mem} {Q : px_Po} (h1 : (s0 = 0) → px_T 0 196 0 [some (.ref 56), some (.ref 1107), none, none] [] M (fun r M1 => px_T 0 202 84 [some (.ref 56)] (r.toList ++ []) M1 Q)) (h2 : (¬ (s0 = 0)) → Q (some (.int 6)) M) : px_T 0 202 72 [some (.ref 56)] [.int s0] M Q := by
  by_cases c1 : s0 = 0
  · obtain ⟨n, h⟩ := px_T_cl (k := 202) (pc := 81) (y := 196) (st := [.ref 1107, .ref 56]) rfl (h1 c1)
    exact ⟨n + 4, ⟨fun _ => ⟨rfl, ⟨rfl, h⟩⟩, fun q => absurd c1 q⟩⟩
  · exact ⟨3, ⟨fun q => absurd q c1, fun _ => ⟨trivial, h2 c1⟩⟩⟩
theorem sg_202_84 {s0 : Int32} {M : px_Mem} {Q : px_Po} (h1 : (s0 = 0) → px_T 0 196 0 [some (.ref 56), some (.ref 1108), none, none] [] M (fun r M1 => px_T 0 202 96 [some (.ref 56)] (r.toList ++ []) M1 Q)) (h2 : (¬ (s0 = 0)) → Q (some (.int 7)) M) : px_T 0 202 84 [some (.ref 56)] [.int s0] M Q := by
  by_cases c1 : s0 = 0
  · obtain ⟨n, h⟩ := px_T_cl (k := 202) (pc := 93) (y := 196) (st := [.ref 1108, .ref 56]) rfl (h1 c1)
    exact ⟨n + 4, ⟨fun _ => ⟨rfl, ⟨rfl, h⟩⟩, fun q => absurd c1 q⟩⟩
  · exact ⟨3, ⟨fun q => absurd q c1, fun _ => ⟨trivial, h2 c1⟩⟩⟩
theorem sg_202_96 {s0 : Int32} {M : px_Mem} {Q : px_Po} (h1 : (s0 = 0) → px_T 0 196 0 [some (.ref 56), some (.ref 1109), none, none] [] M (fun r M1 => px_T 0 202 108 [some (.ref 56)] (r.toList ++ []) M1 Q)) (h2 : (¬ (s0 = 0)) → Q (some (.int 8)) M) : px_T 0 202 96 [some (.ref 56)] [.int s0] M Q := by
  by_cases c1 : s0 = 0
  · obtain ⟨n, h⟩ := px_T_cl (k := 202) (pc := 105) (y := 196) (st := [.ref 1109, .ref 56]) rfl (h1 c1)
    exact ⟨n + 4, ⟨fun _ => ⟨rfl, ⟨rfl, h⟩⟩, fun q => absurd c1 q⟩⟩
  · exact ⟨3, ⟨fun q => absurd q c1, fun _ => ⟨trivial, h2 c1⟩⟩⟩
theorem sg_202_108 {d0 : Option Value} {s0 : Int32} {M : px_Mem} {Q : px_Po} (h1 : (s0 = 0) → Q (some (.int (-1))) M) (h2 : (¬ (s0 = 0)) → Q (some (.int 9)) M) : px_T 0 202 108 [d0] [.int s0] M Q := by
  by_cases c1 : s0 = 0
  · exact ⟨3, ⟨fun _ => ⟨trivial, h1 c1⟩, fun q => absurd c1 q⟩⟩
  · exact ⟨4, ⟨fun q => absurd q c1, fun _ => ⟨trivial, h2 c1⟩⟩⟩
theorem sg_203_0 {M : px_Mem} {Q : px_Po} (h1 : px_T 0 198 0 [some (.ref 56), some (.ref 1111)] [] M (fun r M1 => px_T 0 203 6 [some (.ref 56)] (r.toList ++ []) M1 Q)) : px_T 0 203 0 [some (.ref 56)] [] M Q := by
  obtain ⟨n, h⟩ := px_T_cl (k := 203) (pc := 3) (y := 198) (st := [.ref 1111, .ref 56]) rfl (h1)
  exact ⟨n + 3, ⟨rfl, ⟨rfl, h⟩⟩⟩
theorem sg_203_6 {M : px_Mem} {Q : px_Po} (h1 : px_T 0 200 0 [some (.ref 56), some (.ref 1112), some (.int 0), some (.int 3)] [] M (fun r M1 => px_T 0 203 19 [some (.ref 56)] (r.toList ++ [.int 0, .ref 62]) M1 Q)) : px_T 0 203 6 [some (.ref 56)] [] M Q := by
  obtain ⟨n, h⟩ := px_T_cl (k := 203) (pc := 16) (y := 200) (st := [.int 3, .int 0, .ref 1112, .ref 56, .int 0, .ref 62]) rfl (h1)
  exact ⟨n + 8, ⟨rfl, ⟨rfl, ⟨rfl, h⟩⟩⟩⟩
theorem sg_203_19 {s0 : Int32} {s1 : Int32} {M : px_Mem} {Q : px_Po} (h1 : vp_in s1 285) (h2 : px_T 0 200 0 [some (.ref 56), some (.ref 1113), some (.int 0), some (.int 10)] [] (px_wI M 62 s1.toNatClampNeg s0) (fun r M1 => px_T 0 203 34 [some (.ref 56)] (r.toList ++ [.int 1, .ref 62]) M1 Q)) : px_T 0 203 19 [some (.ref 56)] [.int s0, .int s1, .ref 62] M Q := by
  obtain ⟨n, h⟩ := px_T_cl (k := 203) (pc := 31) (y := 200) (st := [.int 10, .int 0, .ref 1113, .ref 56, .int 1, .ref 62]) rfl (h2)
  exact ⟨n + 9, ⟨⟨285, rfl, h1⟩, ⟨rfl, ⟨rfl, ⟨rfl, h⟩⟩⟩⟩⟩
theorem sg_203_34 {d0 : Option Value} {s0 : Int32} {s1 : Int32} {M : px_Mem} {Q : px_Po} (h1 : vp_in s1 285) (h2 : Q none (px_wI M 62 s1.toNatClampNeg s0)) : px_T 0 203 34 [d0] [.int s0, .int s1, .ref 62] M Q := by
  exact ⟨2, ⟨⟨285, rfl, h1⟩, ⟨rfl, h2⟩⟩⟩
theorem sg_204_0 {M : px_Mem} {Q : px_Po} (h1 : px_T 0 202 0 [some (.ref 56)] [] M (fun r M1 => px_T 0 204 4 [some (.ref 56), none, none, none] (r.toList ++ []) M1 Q)) : px_T 0 204 0 [some (.ref 56), none, none, none] [] M Q := by
  obtain ⟨n, h⟩ := px_T_cl (k := 204) (pc := 1) (y := 202) (st := [.ref 56]) rfl (h1)
  exact ⟨n + 2, ⟨rfl, h⟩⟩
theorem sg_204_4 {d1 : Option Value} {d2 : Option Value} {d3 : Option Value} {s0 : Int32} {M : px_Mem} {Q : px_Po} (h1 : (s0 = (-1)) → px_T 0 195 0 [some (.ref 56), some (.int 1)] [] M (fun r M1 => px_T 0 204 15 [some (.ref 56), some (.int s0), d2, d3] (r.toList ++ []) M1 Q)) (h2 : (¬ (s0 = (-1))) → ((M.1 62 2) = 40) → px_T 0 195 0 [some (.ref 56), some (.int 3)] [] M (fun r M1 => px_T 0 204 31 [some (.ref 56), some (.int s0), d2, d3] (r.toList ++ []) M1 Q)) (h3 : (¬ (s0 = (-1))) → (¬ ((M.1 62 2) = 40)) → px_T 0 194 0 [some (.ref 56)] [] M (fun r M1 => px_T 0 204 35 [some (.ref 56), some (.int s0), d2, d3] (r.toList ++ []) M1 Q)) : px_T 0 204 4 [some (.ref 56), d1, d2, d3] [.int s0] M Q := by
  by_cases c1 : s0 = (-1)
  · obtain ⟨n, h⟩ := px_T_cl (k := 204) (pc := 12) (y := 195) (st := [.int 1, .ref 56]) rfl (h1 c1)
    exact ⟨n + 7, ⟨fun q => absurd c1 q, fun _ => ⟨rfl, h⟩⟩⟩
  · by_cases c2 : (M.1 62 2) = 40
    · obtain ⟨n, h⟩ := px_T_cl (k := 204) (pc := 28) (y := 195) (st := [.int 3, .ref 56]) rfl (h2 c1 c2)
      exact ⟨n + 13, ⟨fun _ => ⟨rfl, ⟨Or.inl ⟨0, 285, Or.inl rfl, rfl, (vp_in_nI (n := 2) (by decide) (by decide))⟩, ⟨fun q => absurd c2 q, fun _ => ⟨rfl, h⟩⟩⟩⟩, fun q => absurd q c1⟩⟩
    · obtain ⟨n, h⟩ := px_T_cl (k := 204) (pc := 32) (y := 194) (st := [.ref 56]) rfl (h3 c1 c2)
      exact ⟨n + 12, ⟨fun _ => ⟨rfl, ⟨Or.inl ⟨0, 285, Or.inl rfl, rfl, (vp_in_nI (n := 2) (by decide) (by decide))⟩, ⟨fun _ => ⟨rfl, h⟩, fun q => absurd q c2⟩⟩⟩, fun q => absurd q c1⟩⟩
theorem sg_204_15 {x1 : Int32} {d2 : Option Value} {d3 : Option Value} {M : px_Mem} {Q : px_Po} (h1 : ((M.1 62 2) = 40) → px_T 0 195 0 [some (.ref 56), some (.int 3)] [] M (fun r M1 => px_T 0 204 31 [some (.ref 56), some (.int x1), d2, d3] (r.toList ++ []) M1 Q)) (h2 : (¬ ((M.1 62 2) = 40)) → px_T 0 194 0 [some (.ref 56)] [] M (fun r M1 => px_T 0 204 35 [some (.ref 56), some (.int x1), d2, d3] (r.toList ++ []) M1 Q)) : px_T 0 204 15 [some (.ref 56), some (.int x1), d2, d3] [] M Q := by
  by_cases c1 : (M.1 62 2) = 40
  · obtain ⟨n, h⟩ := px_T_cl (k := 204) (pc := 28) (y := 195) (st := [.int 3, .ref 56]) rfl (h1 c1)
    exact ⟨n + 9, ⟨rfl, ⟨Or.inl ⟨0, 285, Or.inl rfl, rfl, (vp_in_nI (n := 2) (by decide) (by decide))⟩, ⟨fun q => absurd c1 q, fun _ => ⟨rfl, h⟩⟩⟩⟩⟩
  · obtain ⟨n, h⟩ := px_T_cl (k := 204) (pc := 32) (y := 194) (st := [.ref 56]) rfl (h2 c1)
    exact ⟨n + 8, ⟨rfl, ⟨Or.inl ⟨0, 285, Or.inl rfl, rfl, (vp_in_nI (n := 2) (by decide) (by decide))⟩, ⟨fun _ => ⟨rfl, h⟩, fun q => absurd q c1⟩⟩⟩⟩
theorem sg_204_31 {x1 : Int32} {d2 : Option Value} {d3 : Option Value} {M : px_Mem} {Q : px_Po} (h1 : px_T 0 194 0 [some (.ref 56)] [] M (fun r M1 => px_T 0 204 35 [some (.ref 56), some (.int x1), d2, d3] (r.toList ++ []) M1 Q)) : px_T 0 204 31 [some (.ref 56), some (.int x1), d2, d3] [] M Q := by
  obtain ⟨n, h⟩ := px_T_cl (k := 204) (pc := 32) (y := 194) (st := [.ref 56]) rfl (h1)
  exact ⟨n + 2, ⟨rfl, h⟩⟩
theorem sg_204_35 {x1 : Int32} {d2 : Option Value} {d3 : Option Value} {s0 : Int32} {M : px_Mem} {Q : px_Po} (h1 : (s0 = 0) → Q none M) (h2 : (¬ (s0 = 0)) → px_T 0 193 0 [some (.ref 56), none] [] M (fun r M1 => px_T 0 204 43 [some (.ref 56), some (.int x1), d2, d3] (r.toList ++ []) M1 Q)) : px_T 0 204 35 [some (.ref 56), some (.int x1), d2, d3] [.int s0] M Q := by
  by_cases c1 : s0 = 0
  · exact ⟨2, ⟨fun q => absurd c1 q, fun _ => ⟨rfl, h1 c1⟩⟩⟩
  · obtain ⟨n, h⟩ := px_T_cl (k := 204) (pc := 40) (y := 193) (st := [.ref 56]) rfl (h2 c1)
    exact ⟨n + 3, ⟨fun _ => ⟨rfl, h⟩, fun q => absurd q c1⟩⟩
theorem sg_204_43 {x1 : Int32} {d2 : Option Value} {d3 : Option Value} {M : px_Mem} {Q : px_Po} (h1 : vp_in (5 + (4 * (M.1 62 2))) 285) (h2 : px_T 0 199 0 [some (.ref 56), some (.int 1), some (.int 15), none] [] (px_wI M 62 ((5 + (4 * (M.1 62 2))).toNatClampNeg) x1) (fun r M1 => px_T 0 204 75 [some (.ref 56), some (.int x1), some (.int (5 + (4 * (M.1 62 2)))), d3] (r.toList ++ [.int ((5 + (4 * (M.1 62 2))) + 1), .ref 62]) M1 Q)) : px_T 0 204 43 [some (.ref 56), some (.int x1), d2, d3] [] M Q := by
  obtain ⟨n, h⟩ := px_T_cl (k := 204) (pc := 72) (y := 199) (st := [.int 15, .int 1, .ref 56, .int ((5 + (4 * (M.1 62 2))) + 1), .ref 62]) rfl (h2)
  exact ⟨n + 23, ⟨rfl, ⟨Or.inl ⟨0, 285, Or.inl rfl, rfl, (vp_in_nI (n := 2) (by decide) (by decide))⟩, ⟨rfl, ⟨⟨285, rfl, h1⟩, ⟨rfl, ⟨rfl, h⟩⟩⟩⟩⟩⟩⟩
theorem sg_204_75 {x1 : Int32} {x2 : Int32} {d3 : Option Value} {s0 : Int32} {s1 : Int32} {M : px_Mem} {Q : px_Po} (h1 : vp_in s1 285) (h2 : px_T 0 204 78 [some (.ref 56), some (.int x1), some (.int x2), some (.int 1)] [] (px_wI M 62 s1.toNatClampNeg s0) Q) : px_T 0 204 75 [some (.ref 56), some (.int x1), some (.int x2), d3] [.int s0, .int s1, .ref 62] M Q := by
  obtain ⟨n, h⟩ := h2
  exact ⟨n + 3, ⟨⟨285, rfl, h1⟩, h⟩⟩
theorem sg_204_78 {x1 : Int32} {x2 : Int32} {x3 : Int32} {M : px_Mem} {Q : px_Po} (h1 : ((3 : Int32) ≤ x3) → Q none (px_wI M 62 2 ((M.1 62 2) + 1))) (h2 : (¬ ((3 : Int32) ≤ x3)) → px_T 0 188 0 [some (.int x1), some (.int x3)] [] M (fun r M1 => px_T 0 204 88 [some (.ref 56), some (.int x1), some (.int x2), some (.int x3)] (r.toList ++ []) M1 Q)) : px_T 0 204 78 [some (.ref 56), some (.int x1), some (.int x2), some (.int x3)] [] M Q := by
  by_cases c1 : (3 : Int32) ≤ x3
  · exact ⟨12, ⟨fun _ => ⟨rfl, ⟨Or.inl ⟨0, 285, Or.inl rfl, rfl, (vp_in_nI (n := 2) (by decide) (by decide))⟩, ⟨⟨285, rfl, (vp_in_nI (n := 2) (by decide) (by decide))⟩, ⟨rfl, h1 c1⟩⟩⟩⟩, fun q => absurd c1 q⟩⟩
  · obtain ⟨n, h⟩ := px_T_cl (k := 204) (pc := 85) (y := 188) (st := [.int x3, .int x1]) rfl (h2 c1)
    exact ⟨n + 6, ⟨fun q => absurd q c1, fun _ => h⟩⟩
theorem sg_204_88 {x1 : Int32} {x2 : Int32} {x3 : Int32} {s0 : Int32} {M : px_Mem} {Q : px_Po} (h1 : (s0 = (-1)) → px_T 0 204 78 [some (.ref 56), some (.int x1), some (.int x2), some (.int (x3 + 1))] [] M Q) (h2 : (¬ (s0 = (-1))) → px_T 0 189 0 [some (.int x1), some (.int x3)] [] M (fun r M1 => px_T 0 204 107 [some (.ref 56), some (.int x1), some (.int x2), some (.int x3)] (r.toList ++ [.ref 56, .int ((x2 + 1) + x3), .ref 62]) M1 Q)) : px_T 0 204 88 [some (.ref 56), some (.int x1), some (.int x2), some (.int x3)] [.int s0] M Q := by
  by_cases c1 : s0 = (-1)
  · obtain ⟨n, h⟩ := h1 c1
    exact ⟨n + 4, ⟨fun _ => h, fun q => absurd c1 q⟩⟩
  · obtain ⟨n, h⟩ := px_T_cl (k := 204) (pc := 104) (y := 189) (st := [.int x3, .int x1, .ref 56, .int ((x2 + 1) + x3), .ref 62]) rfl (h2 c1)
    exact ⟨n + 13, ⟨fun q => absurd q c1, fun _ => ⟨rfl, h⟩⟩⟩
theorem sg_204_107 {x1 : Int32} {x2 : Int32} {x3 : Int32} {s0 : Int32} {s2 : Int32} {M : px_Mem} {Q : px_Po} (h1 : px_T 0 188 0 [some (.int x1), some (.int x3)] [] M (fun r M1 => px_T 0 204 112 [some (.ref 56), some (.int x1), some (.int x2), some (.int x3)] (r.toList ++ [.int s0, .ref 56, .int s2, .ref 62]) M1 Q)) : px_T 0 204 107 [some (.ref 56), some (.int x1), some (.int x2), some (.int x3)] [.int s0, .ref 56, .int s2, .ref 62] M Q := by
  obtain ⟨n, h⟩ := px_T_cl (k := 204) (pc := 109) (y := 188) (st := [.int x3, .int x1, .int s0, .ref 56, .int s2, .ref 62]) rfl (h1)
  exact ⟨n + 3, h⟩
theorem sg_204_112 {x1 : Int32} {x2 : Int32} {x3 : Int32} {s0 : Int32} {s1 : Int32} {s3 : Int32} {M : px_Mem} {Q : px_Po} (h1 : px_T 0 199 0 [some (.ref 56), some (.int s1), some (.int s0), none] [] M (fun r M1 => px_T 0 204 115 [some (.ref 56), some (.int x1), some (.int x2), some (.int x3)] (r.toList ++ [.int s3, .ref 62]) M1 Q)) : px_T 0 204 112 [some (.ref 56), some (.int x1), some (.int x2), some (.int x3)] [.int s0, .int s1, .ref 56, .int s3, .ref 62] M Q := by
  obtain ⟨n, h⟩ := px_T_cl (k := 204) (pc := 112) (y := 199) (st := [.int s0, .int s1, .ref 56, .int s3, .ref 62]) rfl (h1)
  exact ⟨n + 1, ⟨rfl, h⟩⟩
theorem sg_204_115 {x1 : Int32} {x2 : Int32} {x3 : Int32} {s0 : Int32} {s1 : Int32} {M : px_Mem} {Q : px_Po} (h1 : vp_in s1 285) (h2 : px_T 0 204 78 [some (.ref 56), some (.int x1), some (.int x2), some (.int (x3 + 1))] [] (px_wI M 62 s1.toNatClampNeg s0) Q) : px_T 0 204 115 [some (.ref 56), some (.int x1), some (.int x2), some (.int x3)] [.int s0, .int s1, .ref 62] M Q := by
  obtain ⟨n, h⟩ := h2
  exact ⟨n + 3, ⟨⟨285, rfl, h1⟩, h⟩⟩
theorem sg_205_0 {M : px_Mem} {Q : px_Po} (h1 : ((M.1 62 4) = 0) → px_T 0 203 0 [some (.ref 56)] [] M (fun r M1 => px_T 0 205 13 [some (.ref 56)] (r.toList ++ []) M1 Q)) (h2 : (¬ ((M.1 62 4) = 0)) → px_T 0 204 0 [some (.ref 56), none, none, none] [] M (fun r M1 => px_T 0 205 20 [some (.ref 56)] (r.toList ++ []) M1 Q)) : px_T 0 205 0 [some (.ref 56)] [] M Q := by
  by_cases c1 : (M.1 62 4) = 0
  · obtain ⟨n, h⟩ := px_T_cl (k := 205) (pc := 10) (y := 203) (st := [.ref 56]) rfl (h1 c1)
    exact ⟨n + 7, ⟨rfl, ⟨Or.inl ⟨0, 285, Or.inl rfl, rfl, (vp_in_nI (n := 4) (by decide) (by decide))⟩, ⟨fun q => absurd c1 q, fun _ => ⟨rfl, h⟩⟩⟩⟩⟩
  · obtain ⟨n, h⟩ := px_T_cl (k := 205) (pc := 17) (y := 204) (st := [.ref 56]) rfl (h2 c1)
    exact ⟨n + 7, ⟨rfl, ⟨Or.inl ⟨0, 285, Or.inl rfl, rfl, (vp_in_nI (n := 4) (by decide) (by decide))⟩, ⟨fun _ => ⟨rfl, h⟩, fun q => absurd q c1⟩⟩⟩⟩
theorem sg_205_13 {M : px_Mem} {Q : px_Po} (h1 : px_T 0 194 0 [some (.ref 56)] [] M (fun r M1 => px_T 0 205 24 [some (.ref 56)] (r.toList ++ []) M1 Q)) : px_T 0 205 13 [some (.ref 56)] [] M Q := by
  obtain ⟨n, h⟩ := px_T_cl (k := 205) (pc := 21) (y := 194) (st := [.ref 56]) rfl (h1)
  exact ⟨n + 3, ⟨rfl, h⟩⟩
theorem sg_205_20 {M : px_Mem} {Q : px_Po} (h1 : px_T 0 194 0 [some (.ref 56)] [] M (fun r M1 => px_T 0 205 24 [some (.ref 56)] (r.toList ++ []) M1 Q)) : px_T 0 205 20 [some (.ref 56)] [] M Q := by
  obtain ⟨n, h⟩ := px_T_cl (k := 205) (pc := 21) (y := 194) (st := [.ref 56]) rfl (h1)
  exact ⟨n + 2, ⟨rfl, h⟩⟩
theorem sg_205_24 {s0 : Int32} {M : px_Mem} {Q : px_Po} (h1 : (s0 = 0) → px_T 0 194 0 [some (.ref 56)] [] M (fun r M1 => px_T 0 205 44 [some (.ref 56)] (r.toList ++ []) M1 Q)) (h2 : (¬ (s0 = 0)) → ((M.1 56 10) = 3) → px_T 0 194 0 [some (.ref 56)] [] M (fun r M1 => px_T 0 205 44 [some (.ref 56)] (r.toList ++ []) M1 Q)) (h3 : (¬ (s0 = 0)) → (¬ ((M.1 56 10) = 3)) → px_T 0 195 0 [some (.ref 56), some (.int 1)] [] M (fun r M1 => px_T 0 205 40 [some (.ref 56)] (r.toList ++ []) M1 Q)) : px_T 0 205 24 [some (.ref 56)] [.int s0] M Q := by
  by_cases c1 : s0 = 0
  · obtain ⟨n, h⟩ := px_T_cl (k := 205) (pc := 41) (y := 194) (st := [.ref 56]) rfl (h1 c1)
    exact ⟨n + 3, ⟨fun _ => ⟨rfl, h⟩, fun q => absurd c1 q⟩⟩
  · by_cases c2 : (M.1 56 10) = 3
    · obtain ⟨n, h⟩ := px_T_cl (k := 205) (pc := 41) (y := 194) (st := [.ref 56]) rfl (h2 c1 c2)
      exact ⟨n + 7, ⟨fun q => absurd q c1, fun _ => ⟨rfl, ⟨fun _ => ⟨rfl, h⟩, fun q => absurd c2 q⟩⟩⟩⟩
    · obtain ⟨n, h⟩ := px_T_cl (k := 205) (pc := 37) (y := 195) (st := [.int 1, .ref 56]) rfl (h3 c1 c2)
      exact ⟨n + 8, ⟨fun q => absurd q c1, fun _ => ⟨rfl, ⟨fun q => absurd q c2, fun _ => ⟨rfl, h⟩⟩⟩⟩⟩
