theorem sg_205_44 {s0 : Int32} {M : px_Mem} {Q : px_Po} (h1 : (s0 = 0) → Q none (px_wI M 62 4 ((M.1 62 4) + 1))) (h2 : (¬ (s0 = 0)) → px_T 0 193 0 [some (.ref 56), none] [] M (fun r M1 => px_T 0 205 51 [some (.ref 56)] (r.toList ++ []) M1 Q)) : px_T 0 205 44 [some (.ref 56)] [.int s0] M Q := by
  by_cases c1 : s0 = 0
  · exact ⟨10, ⟨fun _ => ⟨rfl, ⟨Or.inl ⟨0, 285, Or.inl rfl, rfl, (vp_in_nI (n := 4) (by decide) (by decide))⟩, ⟨⟨285, rfl, (vp_in_nI (n := 4) (by decide) (by decide))⟩, ⟨rfl, h1 c1⟩⟩⟩⟩, fun q => absurd c1 q⟩⟩
  · obtain ⟨n, h⟩ := px_T_cl (k := 205) (pc := 48) (y := 193) (st := [.ref 56]) rfl (h2 c1)
    exact ⟨n + 3, ⟨fun q => absurd q c1, fun _ => ⟨rfl, h⟩⟩⟩
theorem sg_205_40 {M : px_Mem} {Q : px_Po} (h1 : px_T 0 194 0 [some (.ref 56)] [] M (fun r M1 => px_T 0 205 44 [some (.ref 56)] (r.toList ++ []) M1 Q)) : px_T 0 205 40 [some (.ref 56)] [] M Q := by
  obtain ⟨n, h⟩ := px_T_cl (k := 205) (pc := 41) (y := 194) (st := [.ref 56]) rfl (h1)
  exact ⟨n + 2, ⟨rfl, h⟩⟩
theorem sg_205_51 {M : px_Mem} {Q : px_Po} (h1 : Q none (px_wI M 62 4 ((M.1 62 4) + 1))) : px_T 0 205 51 [some (.ref 56)] [] M Q := by
  exact ⟨9, ⟨rfl, ⟨Or.inl ⟨0, 285, Or.inl rfl, rfl, (vp_in_nI (n := 4) (by decide) (by decide))⟩, ⟨⟨285, rfl, (vp_in_nI (n := 4) (by decide) (by decide))⟩, ⟨rfl, h1⟩⟩⟩⟩⟩
theorem sg_206_0 {M : px_Mem} {Q : px_Po} (h1 : px_T 0 206 30 [some (.ref 56), some (.int 0)] [] (px_wI (px_wI (px_wI (px_wI (px_wI M 56 7 (M.1 56 5)) 56 5 0) 56 8 0) 56 12 0) 56 13 (-1)) Q) : px_T 0 206 0 [some (.ref 56), none] [] M Q := by
  obtain ⟨n, h⟩ := h1
  exact ⟨n + 18, ⟨rfl, ⟨rfl, ⟨rfl, ⟨rfl, ⟨rfl, ⟨rfl, h⟩⟩⟩⟩⟩⟩⟩
theorem sg_206_30 {x1 : Int32} {M : px_Mem} {Q : px_Po} (h1 : ((285 : Int32) ≤ x1) → px_T 0 193 0 [some (.ref 56), none] [] M (fun r M1 => px_T 0 206 54 [some (.ref 56), some (.int x1)] (r.toList ++ []) M1 Q)) (h2 : (¬ ((285 : Int32) ≤ x1)) → vp_in x1 285) (h3 : (¬ ((285 : Int32) ≤ x1)) → px_T 0 206 30 [some (.ref 56), some (.int (x1 + 1))] [] (px_wI M 62 x1.toNatClampNeg 0) Q) : px_T 0 206 30 [some (.ref 56), some (.int x1)] [] M Q := by
  by_cases c1 : (285 : Int32) ≤ x1
  · obtain ⟨n, h⟩ := px_T_cl (k := 206) (pc := 51) (y := 193) (st := [.ref 56]) rfl (h1 c1)
    exact ⟨n + 5, ⟨fun _ => ⟨rfl, h⟩, fun q => absurd c1 q⟩⟩
  · obtain ⟨n, h⟩ := h3 c1
    exact ⟨n + 10, ⟨fun q => absurd q c1, fun _ => ⟨rfl, ⟨⟨285, rfl, (h2 c1)⟩, h⟩⟩⟩⟩
theorem sg_206_54 {d1 : Option Value} {M : px_Mem} {Q : px_Po} (h1 : px_T 0 194 0 [some (.ref 56)] [] M (fun r M1 => px_T 0 206 58 [some (.ref 56), d1] (r.toList ++ []) M1 Q)) : px_T 0 206 54 [some (.ref 56), d1] [] M Q := by
  obtain ⟨n, h⟩ := px_T_cl (k := 206) (pc := 55) (y := 194) (st := [.ref 56]) rfl (h1)
  exact ⟨n + 2, ⟨rfl, h⟩⟩
theorem sg_206_58 {d1 : Option Value} {s0 : Int32} {M : px_Mem} {Q : px_Po} (h1 : (s0 = 0) → px_T 0 194 0 [some (.ref 56)] [] M (fun r M1 => px_T 0 206 79 [some (.ref 56), d1] (r.toList ++ []) M1 Q)) (h2 : (¬ (s0 = 0)) → ((M.1 56 10) = 0) → px_T 0 194 0 [some (.ref 56)] [] M (fun r M1 => px_T 0 206 79 [some (.ref 56), d1] (r.toList ++ []) M1 Q)) (h3 : (¬ (s0 = 0)) → (¬ ((M.1 56 10) = 0)) → px_T 0 205 0 [some (.ref 56)] [] M (fun r M1 => px_T 0 206 72 [some (.ref 56), d1] (r.toList ++ []) M1 Q)) : px_T 0 206 58 [some (.ref 56), d1] [.int s0] M Q := by
  by_cases c1 : s0 = 0
  · obtain ⟨n, h⟩ := px_T_cl (k := 206) (pc := 76) (y := 194) (st := [.ref 56]) rfl (h1 c1)
    exact ⟨n + 3, ⟨fun _ => ⟨rfl, h⟩, fun q => absurd c1 q⟩⟩
  · by_cases c2 : (M.1 56 10) = 0
    · obtain ⟨n, h⟩ := px_T_cl (k := 206) (pc := 76) (y := 194) (st := [.ref 56]) rfl (h2 c1 c2)
      exact ⟨n + 6, ⟨fun q => absurd q c1, fun _ => ⟨rfl, ⟨fun _ => ⟨rfl, h⟩, fun q => absurd c2 q⟩⟩⟩⟩
    · obtain ⟨n, h⟩ := px_T_cl (k := 206) (pc := 69) (y := 205) (st := [.ref 56]) rfl (h3 c1 c2)
      exact ⟨n + 6, ⟨fun q => absurd q c1, fun _ => ⟨rfl, ⟨fun q => absurd q c2, fun _ => ⟨rfl, h⟩⟩⟩⟩⟩
theorem sg_206_79 {d1 : Option Value} {s0 : Int32} {M : px_Mem} {Q : px_Po} (h1 : (s0 = 0) → Q (some (.int (-4))) M) (h2 : (¬ (s0 = 0)) → px_T 0 206 87 [some (.ref 56), some (.int 0)] [] M Q) : px_T 0 206 79 [some (.ref 56), d1] [.int s0] M Q := by
  by_cases c1 : s0 = 0
  · exact ⟨3, ⟨fun q => absurd c1 q, fun _ => ⟨trivial, h1 c1⟩⟩⟩
  · obtain ⟨n, h⟩ := h2 c1
    exact ⟨n + 3, ⟨fun _ => h, fun q => absurd q c1⟩⟩
theorem sg_206_72 {d1 : Option Value} {M : px_Mem} {Q : px_Po} (h1 : px_T 0 206 54 [some (.ref 56), d1] [] M Q) : px_T 0 206 72 [some (.ref 56), d1] [] M Q := by
  obtain ⟨n, h⟩ := h1
  exact ⟨n + 1, h⟩
theorem sg_206_87 {x1 : Int32} {M : px_Mem} {Q : px_Po} (h1 : ((285 : Int32) ≤ x1) → Q (some (.int (M.1 57 4))) M) (h2 : (¬ ((285 : Int32) ≤ x1)) → vp_in x1 285) (h3 : (¬ ((285 : Int32) ≤ x1)) → px_T 0 206 87 [some (.ref 56), some (.int (x1 + 1))] [] (px_wI M 57 x1.toNatClampNeg (M.1 62 x1.toNatClampNeg)) Q) : px_T 0 206 87 [some (.ref 56), some (.int x1)] [] M Q := by
  by_cases c1 : (285 : Int32) ≤ x1
  · exact ⟨8, ⟨fun _ => ⟨rfl, ⟨Or.inl ⟨0, 285, Or.inl rfl, rfl, (vp_in_nI (n := 4) (by decide) (by decide))⟩, ⟨trivial, h1 c1⟩⟩⟩, fun q => absurd c1 q⟩⟩
  · obtain ⟨n, h⟩ := h3 c1
    exact ⟨n + 13, ⟨fun q => absurd q c1, fun _ => ⟨rfl, ⟨rfl, ⟨Or.inl ⟨0, 285, Or.inl rfl, rfl, (h2 c1)⟩, ⟨⟨285, rfl, (h2 c1)⟩, h⟩⟩⟩⟩⟩⟩
theorem sg_207_0 {x1 : Int32} {x2 : Int32} {M : px_Mem} {Q : px_Po} (h1 : px_T 0 182 0 [some (.ref 56), some (.int x1)] [] M (fun r M1 => px_T 0 207 5 [some (.ref 56), some (.int x1), some (.int x2)] (r.toList ++ []) M1 Q)) : px_T 0 207 0 [some (.ref 56), some (.int x1), some (.int x2)] [] M Q := by
  obtain ⟨n, h⟩ := px_T_cl (k := 207) (pc := 2) (y := 182) (st := [.int x1, .ref 56]) rfl (h1)
  exact ⟨n + 3, ⟨rfl, h⟩⟩
theorem sg_207_5 {x1 : Int32} {x2 : Int32} {s0 : Int32} {M : px_Mem} {Q : px_Po} (h1 : (s0 = 0) → Q (some (.int (-2))) M) (h2 : (¬ (s0 = 0)) → px_T 0 175 0 [some (.long x2.toInt64), none, some (.long 0), none, some (.long 3), none] [] M (fun r M1 => px_T 0 207 17 [some (.ref 56), some (.int x1), some (.int x2)] (r.toList ++ []) M1 Q)) : px_T 0 207 5 [some (.ref 56), some (.int x1), some (.int x2)] [.int s0] M Q := by
  by_cases c1 : s0 = 0
  · exact ⟨3, ⟨fun _ => ⟨trivial, h1 c1⟩, fun q => absurd c1 q⟩⟩
  · obtain ⟨n, h⟩ := px_T_cl (k := 207) (pc := 14) (y := 175) (st := [.long 3, .long 0, .long x2.toInt64]) rfl (h2 c1)
    exact ⟨n + 6, ⟨fun q => absurd q c1, fun _ => h⟩⟩
theorem sg_207_17 {x1 : Int32} {x2 : Int32} {s0 : Int32} {M : px_Mem} {Q : px_Po} (h1 : (s0 = 0) → Q (some (.int (-2))) M) (h2 : (¬ (s0 = 0)) → (x2 ≤ 1) → px_T 0 187 0 [some (.ref 56), some (.int x1), some (.int x2)] [] M (fun r M1 => px_T 0 207 54 [some (.ref 56), some (.int x1), some (.int x2)] (r.toList ++ []) M1 Q)) (h3 : (¬ (s0 = 0)) → (¬ (x2 ≤ 1)) → px_T 0 187 0 [some (.ref 56), some (.int x1), some (.int 0)] [] M (fun r M1 => px_T 0 207 34 [some (.ref 56), some (.int x1), some (.int x2)] (r.toList ++ []) M1 Q)) : px_T 0 207 17 [some (.ref 56), some (.int x1), some (.int x2)] [.int s0] M Q := by
  by_cases c1 : s0 = 0
  · exact ⟨3, ⟨fun q => absurd c1 q, fun _ => ⟨trivial, h1 c1⟩⟩⟩
  · by_cases c2 : x2 ≤ 1
    · obtain ⟨n, h⟩ := px_T_cl (k := 207) (pc := 51) (y := 187) (st := [.int x2, .int x1, .ref 56]) rfl (h2 c1 c2)
      exact ⟨n + 8, ⟨fun _ => ⟨fun _ => ⟨rfl, h⟩, fun q => absurd c2 q⟩, fun q => absurd q c1⟩⟩
    · obtain ⟨n, h⟩ := px_T_cl (k := 207) (pc := 31) (y := 187) (st := [.int 0, .int x1, .ref 56]) rfl (h3 c1 c2)
      exact ⟨n + 8, ⟨fun _ => ⟨fun q => absurd q c2, fun _ => ⟨rfl, h⟩⟩, fun q => absurd q c1⟩⟩
theorem sg_207_54 {d0 : Option Value} {d1 : Option Value} {d2 : Option Value} {s0 : Int32} {M : px_Mem} {Q : px_Po} (h1 : Q (some (.int s0)) M) : px_T 0 207 54 [d0, d1, d2] [.int s0] M Q := by
  exact ⟨1, ⟨trivial, h1⟩⟩
theorem sg_207_34 {x1 : Int32} {x2 : Int32} {s0 : Int32} {M : px_Mem} {Q : px_Po} (h1 : px_T 0 188 0 [some (.int s0), some (.int (x2 - 1))] [] M (fun r M1 => px_T 0 207 40 [some (.ref 56), some (.int x1), some (.int x2)] (r.toList ++ []) M1 Q)) : px_T 0 207 34 [some (.ref 56), some (.int x1), some (.int x2)] [.int s0] M Q := by
  obtain ⟨n, h⟩ := px_T_cl (k := 207) (pc := 37) (y := 188) (st := [.int (x2 - 1), .int s0]) rfl (h1)
  exact ⟨n + 4, h⟩
theorem sg_207_40 {x1 : Int32} {x2 : Int32} {s0 : Int32} {M : px_Mem} {Q : px_Po} (h1 : (s0 = (-1)) → Q (some (.int (-1))) M) (h2 : (¬ (s0 = (-1))) → px_T 0 187 0 [some (.ref 56), some (.int x1), some (.int x2)] [] M (fun r M1 => px_T 0 207 54 [some (.ref 56), some (.int x1), some (.int x2)] (r.toList ++ []) M1 Q)) : px_T 0 207 40 [some (.ref 56), some (.int x1), some (.int x2)] [.int s0] M Q := by
  by_cases c1 : s0 = (-1)
  · exact ⟨5, ⟨fun q => absurd c1 q, fun _ => ⟨trivial, h1 c1⟩⟩⟩
  · obtain ⟨n, h⟩ := px_T_cl (k := 207) (pc := 51) (y := 187) (st := [.int x2, .int x1, .ref 56]) rfl (h2 c1)
    exact ⟨n + 6, ⟨fun _ => ⟨rfl, h⟩, fun q => absurd q c1⟩⟩
theorem sg_208_0 {x1 : Int32} {x2 : Int32} {x3 : Int32} {x4 : Int32} {M : px_Mem} {Q : px_Po} (h1 : vp_in (M.1 56 20) 72) (h2 : px_T 0 208 41 [some (.ref 56), some (.int x1), some (.int x2), some (.int x3), some (.int x4)] [] (px_wI (px_wI (px_wI (px_wI M 63 ((M.1 56 20).toNatClampNeg) x1) 64 ((M.1 56 20).toNatClampNeg) x2) 65 ((M.1 56 20).toNatClampNeg) x3) 66 ((M.1 56 20).toNatClampNeg) x4) Q) : px_T 0 208 0 [some (.ref 56), some (.int x1), some (.int x2), some (.int x3), some (.int x4)] [] M Q := by
  obtain ⟨n, h⟩ := h2
  exact ⟨n + 24, ⟨rfl, ⟨rfl, ⟨⟨72, rfl, h1⟩, ⟨rfl, ⟨rfl, ⟨⟨72, rfl, h1⟩, ⟨rfl, ⟨rfl, ⟨⟨72, rfl, h1⟩, ⟨rfl, ⟨rfl, ⟨⟨72, rfl, h1⟩, h⟩⟩⟩⟩⟩⟩⟩⟩⟩⟩⟩⟩⟩
theorem sg_208_41 {d1 : Option Value} {d2 : Option Value} {d3 : Option Value} {d4 : Option Value} {M : px_Mem} {Q : px_Po} (h1 : vp_in (M.1 56 20) 72) (h2 : Q none (px_wI (px_wI M 67 ((M.1 56 20).toNatClampNeg) (vp_nar .boolean 0)) 56 20 ((M.1 56 20) + 1))) : px_T 0 208 41 [some (.ref 56), d1, d2, d3, d4] [] M Q := by
  exact ⟨13, ⟨rfl, ⟨rfl, (Or.inr ⟨⟨72, rfl, h1⟩, ⟨rfl, ⟨rfl, ⟨rfl, h2⟩⟩⟩⟩)⟩⟩⟩
theorem sg_209_0 {M : px_Mem} {Q : px_Po} (h1 : px_T 0 209 17 [some (.ref 56), some (.int 0)] [] (px_wI (px_wI M 56 21 (M.1 57 0)) 56 20 0) Q) : px_T 0 209 0 [some (.ref 56), none] [] M Q := by
  obtain ⟨n, h⟩ := h1
  exact ⟨n + 11, ⟨rfl, ⟨Or.inl ⟨0, 285, Or.inl rfl, rfl, (vp_in_nI (n := 0) (by decide) (by decide))⟩, ⟨rfl, ⟨rfl, h⟩⟩⟩⟩⟩
theorem sg_209_17 {x1 : Int32} {M : px_Mem} {Q : px_Po} (h1 : px_T 0 181 0 [some (.ref 56)] [] M (fun r M1 => px_T 0 209 22 [some (.ref 56), some (.int x1)] (r.toList ++ [.int x1]) M1 Q)) : px_T 0 209 17 [some (.ref 56), some (.int x1)] [] M Q := by
  obtain ⟨n, h⟩ := px_T_cl (k := 209) (pc := 19) (y := 181) (st := [.ref 56, .int x1]) rfl (h1)
  exact ⟨n + 3, ⟨rfl, h⟩⟩
theorem sg_209_22 {x1 : Int32} {s0 : Int32} {s1 : Int32} {M : px_Mem} {Q : px_Po} (h1 : (s0 ≤ s1) → Q none M) (h2 : (¬ (s0 ≤ s1)) → px_T 0 187 0 [some (.ref 56), some (.int x1), some (.int 0)] [] M (fun r M1 => px_T 0 209 32 [some (.ref 56), some (.int x1)] (r.toList ++ [.ref 56]) M1 Q)) : px_T 0 209 22 [some (.ref 56), some (.int x1)] [.int s0, .int s1] M Q := by
  by_cases c1 : s0 ≤ s1
  · exact ⟨2, ⟨fun _ => ⟨rfl, h1 c1⟩, fun q => absurd c1 q⟩⟩
  · obtain ⟨n, h⟩ := px_T_cl (k := 209) (pc := 29) (y := 187) (st := [.int 0, .int x1, .ref 56, .ref 56]) rfl (h2 c1)
    exact ⟨n + 6, ⟨fun q => absurd q c1, fun _ => ⟨rfl, h⟩⟩⟩
theorem sg_209_32 {x1 : Int32} {s0 : Int32} {M : px_Mem} {Q : px_Po} (h1 : px_T 0 187 0 [some (.ref 56), some (.int x1), some (.int 1)] [] M (fun r M1 => px_T 0 209 38 [some (.ref 56), some (.int x1)] (r.toList ++ [.int s0, .ref 56]) M1 Q)) : px_T 0 209 32 [some (.ref 56), some (.int x1)] [.int s0, .ref 56] M Q := by
  obtain ⟨n, h⟩ := px_T_cl (k := 209) (pc := 35) (y := 187) (st := [.int 1, .int x1, .ref 56, .int s0, .ref 56]) rfl (h1)
  exact ⟨n + 4, ⟨rfl, h⟩⟩
theorem sg_209_38 {x1 : Int32} {s0 : Int32} {s1 : Int32} {M : px_Mem} {Q : px_Po} (h1 : px_T 0 187 0 [some (.ref 56), some (.int x1), some (.int 2)] [] M (fun r M1 => px_T 0 209 44 [some (.ref 56), some (.int x1)] (r.toList ++ [.int s0, .int s1, .ref 56]) M1 Q)) : px_T 0 209 38 [some (.ref 56), some (.int x1)] [.int s0, .int s1, .ref 56] M Q := by
  obtain ⟨n, h⟩ := px_T_cl (k := 209) (pc := 41) (y := 187) (st := [.int 2, .int x1, .ref 56, .int s0, .int s1, .ref 56]) rfl (h1)
  exact ⟨n + 4, ⟨rfl, h⟩⟩
theorem sg_209_44 {x1 : Int32} {s0 : Int32} {s1 : Int32} {s2 : Int32} {M : px_Mem} {Q : px_Po} (h1 : px_T 0 187 0 [some (.ref 56), some (.int x1), some (.int 3)] [] M (fun r M1 => px_T 0 209 50 [some (.ref 56), some (.int x1)] (r.toList ++ [.int s0, .int s1, .int s2, .ref 56]) M1 Q)) : px_T 0 209 44 [some (.ref 56), some (.int x1)] [.int s0, .int s1, .int s2, .ref 56] M Q := by
  obtain ⟨n, h⟩ := px_T_cl (k := 209) (pc := 47) (y := 187) (st := [.int 3, .int x1, .ref 56, .int s0, .int s1, .int s2, .ref 56]) rfl (h1)
  exact ⟨n + 4, ⟨rfl, h⟩⟩
theorem sg_209_50 {x1 : Int32} {s0 : Int32} {s1 : Int32} {s2 : Int32} {s3 : Int32} {M : px_Mem} {Q : px_Po} (h1 : px_T 0 208 0 [some (.ref 56), some (.int s3), some (.int s2), some (.int s1), some (.int s0)] [] M (fun r M1 => px_T 0 209 53 [some (.ref 56), some (.int x1)] (r.toList ++ []) M1 Q)) : px_T 0 209 50 [some (.ref 56), some (.int x1)] [.int s0, .int s1, .int s2, .int s3, .ref 56] M Q := by
  obtain ⟨n, h⟩ := px_T_cl (k := 209) (pc := 50) (y := 208) (st := [.int s0, .int s1, .int s2, .int s3, .ref 56]) rfl (h1)
  exact ⟨n + 1, ⟨rfl, h⟩⟩
theorem sg_209_53 {x1 : Int32} {M : px_Mem} {Q : px_Po} (h1 : px_T 0 209 17 [some (.ref 56), some (.int (x1 + 1))] [] M Q) : px_T 0 209 53 [some (.ref 56), some (.int x1)] [] M Q := by
  obtain ⟨n, h⟩ := h1
  exact ⟨n + 2, h⟩
theorem sg_210_0 {x1 : Int32} {x2 : Int32} {M : px_Mem} {Q : px_Po} (h1 : vp_in ((8 * x1) + x2) 128) (h2 : Q (some (.int (M.1 70 (((8 * x1) + x2).toNatClampNeg)))) M) : px_T 0 210 0 [some (.ref 56), some (.int x1), some (.int x2)] [] M Q := by
  exact ⟨9, ⟨rfl, ⟨Or.inl ⟨0, 128, Or.inl rfl, rfl, h1⟩, ⟨trivial, h2⟩⟩⟩⟩
theorem sg_211_0 {x1 : Int32} {M : px_Mem} {Q : px_Po} (h1 : px_T 0 211 4 [some (.ref 56), some (.int x1), some (.int 0), some (.int 0)] [] M Q) : px_T 0 211 0 [some (.ref 56), some (.int x1), none, none] [] M Q := by
  obtain ⟨n, h⟩ := h1
  exact ⟨n + 4, h⟩
theorem sg_211_4 {x1 : Int32} {x2 : Int32} {x3 : Int32} {M : px_Mem} {Q : px_Po} (h1 : ((128 : Int32) ≤ x3) → (x2 = 0 ∨ x2 = 1)) (h2 : ((128 : Int32) ≤ x3) → Q (some (.int x2)) M) (h3 : (¬ ((128 : Int32) ≤ x3)) → (x2 = 0) → vp_in x3 128) (h4 : (¬ ((128 : Int32) ≤ x3)) → (x2 = 0) → ((M.1 70 x3.toNatClampNeg) = x1) → px_T 0 211 4 [some (.ref 56), some (.int x1), some (.int 1), some (.int (x3 + 1))] [] M Q) (h5 : (¬ ((128 : Int32) ≤ x3)) → (x2 = 0) → (¬ ((M.1 70 x3.toNatClampNeg) = x1)) → px_T 0 211 4 [some (.ref 56), some (.int x1), some (.int 0), some (.int (x3 + 1))] [] M Q) (h6 : (¬ ((128 : Int32) ≤ x3)) → (¬ (x2 = 0)) → px_T 0 211 4 [some (.ref 56), some (.int x1), some (.int 1), some (.int (x3 + 1))] [] M Q) : px_T 0 211 4 [some (.ref 56), some (.int x1), some (.int x2), some (.int x3)] [] M Q := by
  by_cases c1 : (128 : Int32) ≤ x3
  · exact ⟨5, ⟨fun _ => ⟨(h1 c1), h2 c1⟩, fun q => absurd c1 q⟩⟩
  · by_cases c2 : x2 = 0
    · by_cases c3 : (M.1 70 x3.toNatClampNeg) = x1
      · obtain ⟨n, h⟩ := h4 c1 c2 c3
        exact ⟨n + 16, ⟨fun q => absurd q c1, fun _ => ⟨fun q => absurd c2 q, fun _ => ⟨rfl, ⟨Or.inl ⟨0, 128, Or.inl rfl, rfl, (h3 c1 c2)⟩, ⟨fun q => absurd c3 q, fun _ => h⟩⟩⟩⟩⟩⟩
      · obtain ⟨n, h⟩ := h5 c1 c2 c3
        exact ⟨n + 15, ⟨fun q => absurd q c1, fun _ => ⟨fun q => absurd c2 q, fun _ => ⟨rfl, ⟨Or.inl ⟨0, 128, Or.inl rfl, rfl, (h3 c1 c2)⟩, ⟨fun _ => h, fun q => absurd q c3⟩⟩⟩⟩⟩⟩
    · obtain ⟨n, h⟩ := h6 c1 c2
      exact ⟨n + 10, ⟨fun q => absurd q c1, fun _ => ⟨fun _ => h, fun q => absurd q c2⟩⟩⟩
theorem sg_212_0 {x1 : Int32} {x2 : Int32} {x3 : Int32} {x4 : Int32} {M : px_Mem} {Q : px_Po} (h1 : px_T 0 210 0 [some (.ref 56), some (.int x2), some (.int x3)] [] M (fun r M1 => px_T 0 212 6 [some (.ref 56), some (.int x1), some (.int x2), some (.int x3), some (.int x4), none] (r.toList ++ []) M1 Q)) : px_T 0 212 0 [some (.ref 56), some (.int x1), some (.int x2), some (.int x3), some (.int x4), none] [] M Q := by
  obtain ⟨n, h⟩ := px_T_cl (k := 212) (pc := 3) (y := 210) (st := [.int x3, .int x2, .ref 56]) rfl (h1)
  exact ⟨n + 4, ⟨rfl, h⟩⟩
theorem sg_212_6 {x1 : Int32} {x2 : Int32} {x3 : Int32} {x4 : Int32} {d5 : Option Value} {s0 : Int32} {M : px_Mem} {Q : px_Po} (h1 : (s0 = (-1)) → (x1 = 3) → Q (some (.int 0)) M) (h2 : (s0 = (-1)) → (¬ (x1 = 3)) → (x1 = 4) → px_T 0 210 0 [some (.ref 56), some (.int x2), some (.int x4)] [] M (fun r M1 => px_T 0 212 50 [some (.ref 56), some (.int x1), some (.int x2), some (.int x3), some (.int x4), some (.int 0)] (r.toList ++ []) M1 Q)) (h3 : (s0 = (-1)) → (¬ (x1 = 3)) → (¬ (x1 = 4)) → (x1 = 5) → Q (some (.int 3)) M) (h4 : (s0 = (-1)) → (¬ (x1 = 3)) → (¬ (x1 = 4)) → (¬ (x1 = 5)) → Q (some (.int 3)) M) (h5 : (¬ (s0 = (-1))) → (x1 = 3) → Q (some (.int 3)) M) (h6 : (¬ (s0 = (-1))) → (¬ (x1 = 3)) → (x1 = 4) → Q (some (.int 3)) M) (h7 : (¬ (s0 = (-1))) → (¬ (x1 = 3)) → (¬ (x1 = 4)) → (x1 = 5) → px_T 0 210 0 [some (.ref 56), some (.int x2), some (.int x4)] [] M (fun r M1 => px_T 0 212 83 [some (.ref 56), some (.int x1), some (.int x2), some (.int x3), some (.int x4), some (.int 1)] (r.toList ++ []) M1 Q)) (h8 : (¬ (s0 = (-1))) → (¬ (x1 = 3)) → (¬ (x1 = 4)) → (¬ (x1 = 5)) → Q (some (.int 0)) M) : px_T 0 212 6 [some (.ref 56), some (.int x1), some (.int x2), some (.int x3), some (.int x4), d5] [.int s0] M Q := by
  by_cases c1 : s0 = (-1)
  · by_cases c2 : x1 = 3
    · exact ⟨11, ⟨fun _ => ⟨fun q => absurd c2 q, fun _ => ⟨fun _ => ⟨trivial, h1 c1 c2⟩, fun q => absurd (by decide) q⟩⟩, fun q => absurd c1 q⟩⟩
    · by_cases c3 : x1 = 4
      · obtain ⟨n, h⟩ := px_T_cl (k := 212) (pc := 47) (y := 210) (st := [.int x4, .int x2, .ref 56]) rfl (h2 c1 c2 c3)
        exact ⟨n + 16, ⟨fun _ => ⟨fun _ => ⟨fun q => absurd c3 q, fun _ => ⟨fun q => absurd (by decide) q, fun _ => ⟨rfl, h⟩⟩⟩, fun q => absurd q c2⟩, fun q => absurd c1 q⟩⟩
      · by_cases c4 : x1 = 5
        · exact ⟨18, ⟨fun _ => ⟨fun _ => ⟨fun _ => ⟨fun q => absurd c4 q, fun _ => ⟨fun _ => ⟨trivial, h3 c1 c2 c3 c4⟩, fun q => absurd (by decide) q⟩⟩, fun q => absurd q c3⟩, fun q => absurd q c2⟩, fun q => absurd c1 q⟩⟩
        · exact ⟨17, ⟨fun _ => ⟨fun _ => ⟨fun _ => ⟨fun _ => ⟨fun _ => ⟨trivial, h4 c1 c2 c3 c4⟩, fun q => absurd (by decide) q⟩, fun q => absurd q c4⟩, fun q => absurd q c3⟩, fun q => absurd q c2⟩, fun q => absurd c1 q⟩⟩
  · by_cases c5 : x1 = 3
    · exact ⟨13, ⟨fun q => absurd q c1, fun _ => ⟨fun q => absurd c5 q, fun _ => ⟨fun q => absurd q (by decide), fun _ => ⟨trivial, h5 c1 c5⟩⟩⟩⟩⟩
    · by_cases c6 : x1 = 4
      · exact ⟨16, ⟨fun q => absurd q c1, fun _ => ⟨fun _ => ⟨fun q => absurd c6 q, fun _ => ⟨fun _ => ⟨trivial, h6 c1 c5 c6⟩, fun q => absurd q (by decide)⟩⟩, fun q => absurd q c5⟩⟩⟩
      · by_cases c7 : x1 = 5
        · obtain ⟨n, h⟩ := px_T_cl (k := 212) (pc := 80) (y := 210) (st := [.int x4, .int x2, .ref 56]) rfl (h7 c1 c5 c6 c7)
          exact ⟨n + 20, ⟨fun q => absurd q c1, fun _ => ⟨fun _ => ⟨fun _ => ⟨fun q => absurd c7 q, fun _ => ⟨fun q => absurd q (by decide), fun _ => ⟨rfl, h⟩⟩⟩, fun q => absurd q c6⟩, fun q => absurd q c5⟩⟩⟩
        · exact ⟨19, ⟨fun q => absurd q c1, fun _ => ⟨fun _ => ⟨fun _ => ⟨fun _ => ⟨fun q => absurd q (by decide), fun _ => ⟨trivial, h8 c1 c5 c6 c7⟩⟩, fun q => absurd q c7⟩, fun q => absurd q c6⟩, fun q => absurd q c5⟩⟩⟩
theorem sg_212_50 {d0 : Option Value} {d1 : Option Value} {d2 : Option Value} {x3 : Int32} {x4 : Int32} {d5 : Option Value} {s0 : Int32} {M : px_Mem} {Q : px_Po} (h1 : (s0 = (-1)) → (x3 = x4) → Q (some (.int 3)) M) (h2 : (s0 = (-1)) → (¬ (x3 = x4)) → Q (some (.int 0)) M) (h3 : (¬ (s0 = (-1))) → Q (some (.int 3)) M) : px_T 0 212 50 [d0, d1, d2, some (.int x3), some (.int x4), d5] [.int s0] M Q := by
  by_cases c1 : s0 = (-1)
  · by_cases c2 : x3 = x4
    · exact ⟨8, ⟨fun q => absurd c1 q, fun _ => ⟨fun q => absurd c2 q, fun _ => ⟨trivial, h1 c1 c2⟩⟩⟩⟩
    · exact ⟨7, ⟨fun q => absurd c1 q, fun _ => ⟨fun _ => ⟨trivial, h2 c1 c2⟩, fun q => absurd q c2⟩⟩⟩
  · exact ⟨5, ⟨fun _ => ⟨trivial, h3 c1⟩, fun q => absurd q c1⟩⟩
theorem sg_212_83 {d0 : Option Value} {d1 : Option Value} {d2 : Option Value} {d3 : Option Value} {d4 : Option Value} {d5 : Option Value} {s0 : Int32} {M : px_Mem} {Q : px_Po} (h1 : (s0 = (-1)) → Q (some (.int 0)) M) (h2 : (¬ (s0 = (-1))) → Q (some (.int 3)) M) : px_T 0 212 83 [d0, d1, d2, d3, d4, d5] [.int s0] M Q := by
  by_cases c1 : s0 = (-1)
  · exact ⟨4, ⟨fun _ => ⟨trivial, h1 c1⟩, fun q => absurd c1 q⟩⟩
  · exact ⟨5, ⟨fun q => absurd q c1, fun _ => ⟨trivial, h2 c1⟩⟩⟩
theorem sg_213_0 {x1 : Int32} {x2 : Int32} {x3 : Int32} {x4 : Int32} {M : px_Mem} {Q : px_Po} (h1 : px_T 0 210 0 [some (.ref 56), some (.int x2), some (.int x3)] [] M (fun r M1 => px_T 0 213 6 [some (.ref 56), some (.int x1), some (.int x2), some (.int x3), some (.int x4), none] (r.toList ++ []) M1 Q)) : px_T 0 213 0 [some (.ref 56), some (.int x1), some (.int x2), some (.int x3), some (.int x4), none] [] M Q := by
  obtain ⟨n, h⟩ := px_T_cl (k := 213) (pc := 3) (y := 210) (st := [.int x3, .int x2, .ref 56]) rfl (h1)
  exact ⟨n + 4, ⟨rfl, h⟩⟩
theorem sg_213_6 {x1 : Int32} {d2 : Option Value} {d3 : Option Value} {x4 : Int32} {d5 : Option Value} {s0 : Int32} {M : px_Mem} {Q : px_Po} (h1 : (x1 = 7) → vp_in s0 200) (h2 : (x1 = 7) → ((M.1 71 s0.toNatClampNeg) = 2) → px_T 0 211 0 [some (.ref 56), some (.int (s0 - 1)), none, none] [] M (fun r M1 => px_T 0 213 35 [some (.ref 56), some (.int x1), d2, d3, some (.int x4), some (.int s0)] (r.toList ++ []) M1 Q)) (h3 : (x1 = 7) → (¬ ((M.1 71 s0.toNatClampNeg) = 2)) → Q (some (.int 4)) M) (h4 : (¬ (x1 = 7)) → vp_in s0 200) (h5 : (¬ (x1 = 7)) → ((M.1 71 s0.toNatClampNeg) = 1) → (x4 ≤ (M.1 72 s0.toNatClampNeg)) → Q (some (.int 0)) M) (h6 : (¬ (x1 = 7)) → ((M.1 71 s0.toNatClampNeg) = 1) → (¬ (x4 ≤ (M.1 72 s0.toNatClampNeg))) → px_T 0 211 0 [some (.ref 56), some (.int (s0 + 1)), none, none] [] M (fun r M1 => px_T 0 213 97 [some (.ref 56), some (.int x1), d2, d3, some (.int x4), some (.int s0)] (r.toList ++ []) M1 Q)) (h7 : (¬ (x1 = 7)) → (¬ ((M.1 71 s0.toNatClampNeg) = 1)) → Q (some (.int 4)) M) : px_T 0 213 6 [some (.ref 56), some (.int x1), d2, d3, some (.int x4), d5] [.int s0] M Q := by
  by_cases c1 : x1 = 7
  · by_cases c2 : (M.1 71 s0.toNatClampNeg) = 2
    · obtain ⟨n, h⟩ := px_T_cl (k := 213) (pc := 32) (y := 211) (st := [.int (s0 - 1), .ref 56]) rfl (h2 c1 c2)
      exact ⟨n + 15, ⟨fun q => absurd c1 q, fun _ => ⟨rfl, ⟨Or.inl ⟨0, 200, Or.inl rfl, rfl, (h1 c1)⟩, ⟨fun _ => ⟨rfl, h⟩, fun q => absurd c2 q⟩⟩⟩⟩⟩
    · exact ⟨12, ⟨fun q => absurd c1 q, fun _ => ⟨rfl, ⟨Or.inl ⟨0, 200, Or.inl rfl, rfl, (h1 c1)⟩, ⟨fun q => absurd q c2, fun _ => ⟨trivial, h3 c1 c2⟩⟩⟩⟩⟩⟩
  · by_cases c3 : (M.1 71 s0.toNatClampNeg) = 1
    · by_cases c4 : x4 ≤ (M.1 72 s0.toNatClampNeg)
      · exact ⟨18, ⟨fun _ => ⟨rfl, ⟨Or.inl ⟨0, 200, Or.inl rfl, rfl, (h4 c1)⟩, ⟨fun _ => ⟨rfl, ⟨Or.inl ⟨0, 200, Or.inl rfl, rfl, (h4 c1)⟩, ⟨fun _ => ⟨trivial, h5 c1 c3 c4⟩, fun q => absurd c4 q⟩⟩⟩, fun q => absurd c3 q⟩⟩⟩, fun q => absurd q c1⟩⟩
      · obtain ⟨n, h⟩ := px_T_cl (k := 213) (pc := 94) (y := 211) (st := [.int (s0 + 1), .ref 56]) rfl (h6 c1 c3 c4)
        exact ⟨n + 21, ⟨fun _ => ⟨rfl, ⟨Or.inl ⟨0, 200, Or.inl rfl, rfl, (h4 c1)⟩, ⟨fun _ => ⟨rfl, ⟨Or.inl ⟨0, 200, Or.inl rfl, rfl, (h4 c1)⟩, ⟨fun q => absurd q c4, fun _ => ⟨rfl, h⟩⟩⟩⟩, fun q => absurd c3 q⟩⟩⟩, fun q => absurd q c1⟩⟩
    · exact ⟨12, ⟨fun _ => ⟨rfl, ⟨Or.inl ⟨0, 200, Or.inl rfl, rfl, (h4 c1)⟩, ⟨fun q => absurd q c3, fun _ => ⟨trivial, h7 c1 c3⟩⟩⟩⟩, fun q => absurd q c1⟩⟩
theorem sg_213_35 {d1 : Option Value} {d2 : Option Value} {d3 : Option Value} {x4 : Int32} {x5 : Int32} {s0 : Int32} {M : px_Mem} {Q : px_Po} (h1 : (s0 = 0) → Q (some (.int 5)) M) (h2 : (¬ (s0 = 0)) → vp_in (x5 - 1) 200) (h3 : (¬ (s0 = 0)) → (((M.1 72 ((x5 - 1).toNatClampNeg)) + x4) ≤ 60) → Q (some (.int 0)) M) (h4 : (¬ (s0 = 0)) → (¬ (((M.1 72 ((x5 - 1).toNatClampNeg)) + x4) ≤ 60)) → Q (some (.int 6)) M) : px_T 0 213 35 [some (.ref 56), d1, d2, d3, some (.int x4), some (.int x5)] [.int s0] M Q := by
  by_cases c1 : s0 = 0
  · exact ⟨3, ⟨fun q => absurd c1 q, fun _ => ⟨trivial, h1 c1⟩⟩⟩
  · by_cases c2 : ((M.1 72 ((x5 - 1).toNatClampNeg)) + x4) ≤ 60
    · exact ⟨13, ⟨fun _ => ⟨rfl, ⟨Or.inl ⟨0, 200, Or.inl rfl, rfl, (h2 c1)⟩, ⟨fun _ => ⟨trivial, h3 c1 c2⟩, fun q => absurd c2 q⟩⟩⟩, fun q => absurd q c1⟩⟩
    · exact ⟨14, ⟨fun _ => ⟨rfl, ⟨Or.inl ⟨0, 200, Or.inl rfl, rfl, (h2 c1)⟩, ⟨fun q => absurd q c2, fun _ => ⟨trivial, h4 c1 c2⟩⟩⟩⟩, fun q => absurd q c1⟩⟩
theorem sg_213_97 {d0 : Option Value} {d1 : Option Value} {d2 : Option Value} {d3 : Option Value} {d4 : Option Value} {d5 : Option Value} {s0 : Int32} {M : px_Mem} {Q : px_Po} (h1 : (s0 = 0) → Q (some (.int 0)) M) (h2 : (¬ (s0 = 0)) → Q (some (.int 5)) M) : px_T 0 213 97 [d0, d1, d2, d3, d4, d5] [.int s0] M Q := by
  by_cases c1 : s0 = 0
  · exact ⟨3, ⟨fun _ => ⟨trivial, h1 c1⟩, fun q => absurd c1 q⟩⟩
  · exact ⟨4, ⟨fun q => absurd q c1, fun _ => ⟨trivial, h2 c1⟩⟩⟩
theorem sg_214_0 {x1 : Int32} {M : px_Mem} {Q : px_Po} (h1 : vp_in x1 72) (h2 : px_T 0 177 0 [some (.int (M.1 56 22)), some (.int (M.1 64 x1.toNatClampNeg))] [] M (fun r M1 => px_T 0 214 22 [some (.ref 56), some (.int x1), some (.int (M.1 63 x1.toNatClampNeg)), some (.int (M.1 64 x1.toNatClampNeg)), none] (r.toList ++ []) M1 Q)) : px_T 0 214 0 [some (.ref 56), some (.int x1), none, none, none] [] M Q := by
  obtain ⟨n, h⟩ := px_T_cl (k := 214) (pc := 19) (y := 177) (st := [.int (M.1 64 x1.toNatClampNeg), .int (M.1 56 22)]) rfl (h2)
  exact ⟨n + 14, ⟨rfl, ⟨Or.inl ⟨0, 72, Or.inl rfl, rfl, h1⟩, ⟨rfl, ⟨Or.inl ⟨0, 72, Or.inl rfl, rfl, h1⟩, ⟨rfl, h⟩⟩⟩⟩⟩⟩
theorem sg_214_22 {x1 : Int32} {x2 : Int32} {x3 : Int32} {d4 : Option Value} {s0 : Int32} {M : px_Mem} {Q : px_Po} (h1 : (s0 = 0) → Q (some (.int 1)) M) (h2 : (¬ (s0 = 0)) → (x2 = 0) → vp_in x1 72) (h3 : (¬ (s0 = 0)) → (x2 = 0) → px_T 0 177 0 [some (.int (M.1 56 23)), some (.int (M.1 65 x1.toNatClampNeg))] [] M (fun r M1 => px_T 0 214 44 [some (.ref 56), some (.int x1), some (.int x2), some (.int x3), d4] (r.toList ++ []) M1 Q)) (h4 : (¬ (s0 = 0)) → (¬ (x2 = 0)) → (x2 = 1) → vp_in x3 16) (h5 : (¬ (s0 = 0)) → (¬ (x2 = 0)) → (x2 = 1) → ((M.1 69 x3.toNatClampNeg) = x3) → Q (some (.int 2)) M) (h6 : (¬ (s0 = 0)) → (¬ (x2 = 0)) → (x2 = 1) → (¬ ((M.1 69 x3.toNatClampNeg) = x3)) → Q (some (.int 0)) M) (h7 : (¬ (s0 = 0)) → (¬ (x2 = 0)) → (¬ (x2 = 1)) → (x2 = 2) → (x3 = 1) → Q (some (.int 2)) M) (h8 : (¬ (s0 = 0)) → (¬ (x2 = 0)) → (¬ (x2 = 1)) → (x2 = 2) → (¬ (x3 = 1)) → Q (some (.int 0)) M) (h9 : (¬ (s0 = 0)) → (¬ (x2 = 0)) → (¬ (x2 = 1)) → (¬ (x2 = 2)) → (x2 = 9) → Q (some (.int 0)) M) (h10 : (¬ (s0 = 0)) → (¬ (x2 = 0)) → (¬ (x2 = 1)) → (¬ (x2 = 2)) → (¬ (x2 = 9)) → vp_in x1 72) (h11 : (¬ (s0 = 0)) → (¬ (x2 = 0)) → (¬ (x2 = 1)) → (¬ (x2 = 2)) → (¬ (x2 = 9)) → px_T 0 212 0 [some (.ref 56), some (.int x2), some (.int x3), some (.int (M.1 65 x1.toNatClampNeg)), some (.int (M.1 66 x1.toNatClampNeg)), none] [] M (fun r M1 => px_T 0 214 117 [some (.ref 56), some (.int x1), some (.int x2), some (.int x3), d4] (r.toList ++ []) M1 Q)) : px_T 0 214 22 [some (.ref 56), some (.int x1), some (.int x2), some (.int x3), d4] [.int s0] M Q := by
  by_cases c1 : s0 = 0
  · exact ⟨3, ⟨fun q => absurd c1 q, fun _ => ⟨trivial, h1 c1⟩⟩⟩
  · by_cases c2 : x2 = 0
    · obtain ⟨n, h⟩ := px_T_cl (k := 214) (pc := 41) (y := 177) (st := [.int (M.1 65 x1.toNatClampNeg), .int (M.1 56 23)]) rfl (h3 c1 c2)
      exact ⟨n + 10, ⟨fun _ => ⟨fun q => absurd c2 q, fun _ => ⟨rfl, ⟨rfl, ⟨Or.inl ⟨0, 72, Or.inl rfl, rfl, (h2 c1 c2)⟩, h⟩⟩⟩⟩, fun q => absurd q c1⟩⟩
    · by_cases c3 : x2 = 1
      · by_cases c4 : (M.1 69 x3.toNatClampNeg) = x3
        · exact ⟨15, ⟨fun _ => ⟨fun _ => ⟨fun q => absurd c3 q, fun _ => ⟨rfl, ⟨Or.inl ⟨0, 16, Or.inl rfl, rfl, (h4 c1 c2 c3)⟩, ⟨fun q => absurd c4 q, fun _ => ⟨trivial, h5 c1 c2 c3 c4⟩⟩⟩⟩⟩, fun q => absurd q c2⟩, fun q => absurd q c1⟩⟩
        · exact ⟨14, ⟨fun _ => ⟨fun _ => ⟨fun q => absurd c3 q, fun _ => ⟨rfl, ⟨Or.inl ⟨0, 16, Or.inl rfl, rfl, (h4 c1 c2 c3)⟩, ⟨fun _ => ⟨trivial, h6 c1 c2 c3 c4⟩, fun q => absurd q c4⟩⟩⟩⟩, fun q => absurd q c2⟩, fun q => absurd q c1⟩⟩
      · by_cases c5 : x2 = 2
        · by_cases c6 : x3 = 1
          · exact ⟨15, ⟨fun _ => ⟨fun _ => ⟨fun _ => ⟨fun q => absurd c5 q, fun _ => ⟨fun q => absurd c6 q, fun _ => ⟨trivial, h7 c1 c2 c3 c5 c6⟩⟩⟩, fun q => absurd q c3⟩, fun q => absurd q c2⟩, fun q => absurd q c1⟩⟩
          · exact ⟨14, ⟨fun _ => ⟨fun _ => ⟨fun _ => ⟨fun q => absurd c5 q, fun _ => ⟨fun _ => ⟨trivial, h8 c1 c2 c3 c5 c6⟩, fun q => absurd q c6⟩⟩, fun q => absurd q c3⟩, fun q => absurd q c2⟩, fun q => absurd q c1⟩⟩
        · by_cases c7 : x2 = 9
          · exact ⟨14, ⟨fun _ => ⟨fun _ => ⟨fun _ => ⟨fun _ => ⟨fun q => absurd c7 q, fun _ => ⟨trivial, h9 c1 c2 c3 c5 c7⟩⟩, fun q => absurd q c5⟩, fun q => absurd q c3⟩, fun q => absurd q c2⟩, fun q => absurd q c1⟩⟩
          · obtain ⟨n, h⟩ := px_T_cl (k := 214) (pc := 114) (y := 212) (st := [.int (M.1 66 x1.toNatClampNeg), .int (M.1 65 x1.toNatClampNeg), .int x3, .int x2, .ref 56]) rfl (h11 c1 c2 c3 c5 c7)
            exact ⟨n + 24, ⟨fun _ => ⟨fun _ => ⟨fun _ => ⟨fun _ => ⟨fun _ => ⟨rfl, ⟨Or.inl ⟨0, 72, Or.inl rfl, rfl, (h10 c1 c2 c3 c5 c7)⟩, ⟨rfl, ⟨Or.inl ⟨0, 72, Or.inl rfl, rfl, (h10 c1 c2 c3 c5 c7)⟩, ⟨rfl, h⟩⟩⟩⟩⟩, fun q => absurd q c7⟩, fun q => absurd q c5⟩, fun q => absurd q c3⟩, fun q => absurd q c2⟩, fun q => absurd q c1⟩⟩
theorem sg_214_44 {d0 : Option Value} {d1 : Option Value} {d2 : Option Value} {d3 : Option Value} {d4 : Option Value} {s0 : Int32} {M : px_Mem} {Q : px_Po} (h1 : (s0 = 1) → Q (some (.int 2)) M) (h2 : (¬ (s0 = 1)) → Q (some (.int 0)) M) : px_T 0 214 44 [d0, d1, d2, d3, d4] [.int s0] M Q := by
  by_cases c1 : s0 = 1
  · exact ⟨5, ⟨fun q => absurd c1 q, fun _ => ⟨trivial, h1 c1⟩⟩⟩
  · exact ⟨4, ⟨fun _ => ⟨trivial, h2 c1⟩, fun q => absurd q c1⟩⟩
theorem sg_214_117 {x1 : Int32} {x2 : Int32} {x3 : Int32} {d4 : Option Value} {s0 : Int32} {M : px_Mem} {Q : px_Po} (h1 : (s0 = 0) → (x2 = 7) → vp_in x1 72) (h2 : (s0 = 0) → (x2 = 7) → px_T 0 213 0 [some (.ref 56), some (.int x2), some (.int x3), some (.int (M.1 65 x1.toNatClampNeg)), some (.int (M.1 66 x1.toNatClampNeg)), none] [] M (fun r M1 => px_T 0 214 154 [some (.ref 56), some (.int x1), some (.int x2), some (.int x3), some (.int s0)] (r.toList ++ []) M1 Q)) (h3 : (s0 = 0) → (¬ (x2 = 7)) → (x2 = 8) → vp_in x1 72) (h4 : (s0 = 0) → (¬ (x2 = 7)) → (x2 = 8) → px_T 0 213 0 [some (.ref 56), some (.int x2), some (.int x3), some (.int (M.1 65 x1.toNatClampNeg)), some (.int (M.1 66 x1.toNatClampNeg)), none] [] M (fun r M1 => px_T 0 214 154 [some (.ref 56), some (.int x1), some (.int x2), some (.int x3), some (.int s0)] (r.toList ++ []) M1 Q)) (h5 : (s0 = 0) → (¬ (x2 = 7)) → (¬ (x2 = 8)) → Q (some (.int s0)) M) (h6 : (¬ (s0 = 0)) → Q (some (.int s0)) M) : px_T 0 214 117 [some (.ref 56), some (.int x1), some (.int x2), some (.int x3), d4] [.int s0] M Q := by
  by_cases c1 : s0 = 0
  · by_cases c2 : x2 = 7
    · obtain ⟨n, h⟩ := px_T_cl (k := 214) (pc := 151) (y := 213) (st := [.int (M.1 66 x1.toNatClampNeg), .int (M.1 65 x1.toNatClampNeg), .int x3, .int x2, .ref 56]) rfl (h2 c1 c2)
      exact ⟨n + 18, ⟨fun q => absurd c1 q, fun _ => ⟨fun _ => ⟨rfl, ⟨Or.inl ⟨0, 72, Or.inl rfl, rfl, (h1 c1 c2)⟩, ⟨rfl, ⟨Or.inl ⟨0, 72, Or.inl rfl, rfl, (h1 c1 c2)⟩, ⟨rfl, h⟩⟩⟩⟩⟩, fun q => absurd c2 q⟩⟩⟩
    · by_cases c3 : x2 = 8
      · obtain ⟨n, h⟩ := px_T_cl (k := 214) (pc := 151) (y := 213) (st := [.int (M.1 66 x1.toNatClampNeg), .int (M.1 65 x1.toNatClampNeg), .int x3, .int x2, .ref 56]) rfl (h4 c1 c2 c3)
        exact ⟨n + 21, ⟨fun q => absurd c1 q, fun _ => ⟨fun q => absurd q c2, fun _ => ⟨fun q => absurd c3 q, fun _ => ⟨rfl, ⟨Or.inl ⟨0, 72, Or.inl rfl, rfl, (h3 c1 c2 c3)⟩, ⟨rfl, ⟨Or.inl ⟨0, 72, Or.inl rfl, rfl, (h3 c1 c2 c3)⟩, ⟨rfl, h⟩⟩⟩⟩⟩⟩⟩⟩⟩
      · exact ⟨11, ⟨fun q => absurd c1 q, fun _ => ⟨fun q => absurd q c2, fun _ => ⟨fun _ => ⟨trivial, h5 c1 c2 c3⟩, fun q => absurd q c3⟩⟩⟩⟩
  · exact ⟨5, ⟨fun _ => ⟨trivial, h6 c1⟩, fun q => absurd q c1⟩⟩
theorem sg_214_154 {d0 : Option Value} {d1 : Option Value} {d2 : Option Value} {d3 : Option Value} {d4 : Option Value} {s0 : Int32} {M : px_Mem} {Q : px_Po} (h1 : Q (some (.int s0)) M) : px_T 0 214 154 [d0, d1, d2, d3, d4] [.int s0] M Q := by
  exact ⟨3, ⟨trivial, h1⟩⟩
theorem sg_215_0 {x1 : Nat} {x2 : Int32} {x3 : Int32} {x4 : Int32} {M : px_Mem} {Q : px_Po} (h1 : px_ia 0 M x1 (x2 + x3)) (h2 : px_T 0 215 10 [some (.ref 56), some (.ref x1), some (.int x2), some (.int x3), some (.int x4), some (.int (M.1 x1 ((x2 + x3).toNatClampNeg))), some (.int 0)] [] M Q) : px_T 0 215 0 [some (.ref 56), some (.ref x1), some (.int x2), some (.int x3), some (.int x4), none, none] [] M Q := by
  obtain ⟨n, h⟩ := h2
  exact ⟨n + 8, ⟨h1, h⟩⟩
theorem sg_215_10 {d0 : Option Value} {x1 : Nat} {x2 : Int32} {d3 : Option Value} {x4 : Int32} {x5 : Int32} {x6 : Int32} {M : px_Mem} {Q : px_Po} (h1 : ((16 : Int32) ≤ x6) → Q (some (.int 0)) M) (h2 : (¬ ((16 : Int32) ≤ x6)) → (x5 = 0) → Q (some (.int 0)) M) (h3 : (¬ ((16 : Int32) ≤ x6)) → (¬ (x5 = 0)) → (x5 = x4) → Q (some (.int 1)) M) (h4 : (¬ ((16 : Int32) ≤ x6)) → (¬ (x5 = 0)) → (¬ (x5 = x4)) → px_ia 0 M x1 (x2 + x5)) (h5 : (¬ ((16 : Int32) ≤ x6)) → (¬ (x5 = 0)) → (¬ (x5 = x4)) → px_T 0 215 10 [d0, some (.ref x1), some (.int x2), d3, some (.int x4), some (.int (M.1 x1 ((x2 + x5).toNatClampNeg))), some (.int (x6 + 1))] [] M Q) : px_T 0 215 10 [d0, some (.ref x1), some (.int x2), d3, some (.int x4), some (.int x5), some (.int x6)] [] M Q := by
  by_cases c1 : (16 : Int32) ≤ x6
  · exact ⟨5, ⟨fun _ => ⟨Or.inl rfl, h1 c1⟩, fun q => absurd c1 q⟩⟩
  · by_cases c2 : x5 = 0
    · exact ⟨7, ⟨fun q => absurd q c1, fun _ => ⟨fun _ => ⟨Or.inl rfl, h2 c1 c2⟩, fun q => absurd c2 q⟩⟩⟩
    · by_cases c3 : x5 = x4
      · exact ⟨10, ⟨fun q => absurd q c1, fun _ => ⟨fun q => absurd q c2, fun _ => ⟨fun q => absurd c3 q, fun _ => ⟨Or.inr rfl, h3 c1 c2 c3⟩⟩⟩⟩⟩
      · obtain ⟨n, h⟩ := h5 c1 c2 c3
        exact ⟨n + 16, ⟨fun q => absurd q c1, fun _ => ⟨fun q => absurd q c2, fun _ => ⟨fun _ => ⟨(h4 c1 c2 c3), h⟩, fun q => absurd q c3⟩⟩⟩⟩
theorem sg_216_0 {x1 : Int32} {x2 : Int32} {x3 : Int32} {M : px_Mem} {Q : px_Po} (h1 : ((M.1 56 21) = 0) → Q (some (.int 1)) M) (h2 : (¬ ((M.1 56 21) = 0)) → ((M.1 56 21) = 1) → vp_in x2 16) (h3 : (¬ ((M.1 56 21) = 0)) → ((M.1 56 21) = 1) → Q (some (.int (M.1 68 x2.toNatClampNeg))) M) (h4 : (¬ ((M.1 56 21) = 0)) → (¬ ((M.1 56 21) = 1)) → ((M.1 56 21) = 3) → (x1 = x3) → vp_in x2 16) (h5 : (¬ ((M.1 56 21) = 0)) → (¬ ((M.1 56 21) = 1)) → ((M.1 56 21) = 3) → (x1 = x3) → Q (some (.int (M.1 68 x2.toNatClampNeg))) M) (h6 : (¬ ((M.1 56 21) = 0)) → (¬ ((M.1 56 21) = 1)) → ((M.1 56 21) = 3) → (¬ (x1 = x3)) → ((M.1 56 21) = 3) → Q (some (.int x3)) M) (h7 : (¬ ((M.1 56 21) = 0)) → (¬ ((M.1 56 21) = 1)) → ((M.1 56 21) = 3) → (¬ (x1 = x3)) → (¬ ((M.1 56 21) = 3)) → vp_in x1 16) (h8 : (¬ ((M.1 56 21) = 0)) → (¬ ((M.1 56 21) = 1)) → ((M.1 56 21) = 3) → (¬ (x1 = x3)) → (¬ ((M.1 56 21) = 3)) → px_T 0 177 0 [some (.int (M.1 56 22)), some (.int (M.1 69 x1.toNatClampNeg))] [] M (fun r M1 => px_T 0 216 64 [some (.ref 56), some (.int x1), some (.int x2), some (.int x3), some (.int (M.1 69 x1.toNatClampNeg)), none] (r.toList ++ []) M1 Q)) (h9 : (¬ ((M.1 56 21) = 0)) → (¬ ((M.1 56 21) = 1)) → (¬ ((M.1 56 21) = 3)) → ((M.1 56 21) = 3) → Q (some (.int x3)) M) (h10 : (¬ ((M.1 56 21) = 0)) → (¬ ((M.1 56 21) = 1)) → (¬ ((M.1 56 21) = 3)) → (¬ ((M.1 56 21) = 3)) → vp_in x1 16) (h11 : (¬ ((M.1 56 21) = 0)) → (¬ ((M.1 56 21) = 1)) → (¬ ((M.1 56 21) = 3)) → (¬ ((M.1 56 21) = 3)) → px_T 0 177 0 [some (.int (M.1 56 22)), some (.int (M.1 69 x1.toNatClampNeg))] [] M (fun r M1 => px_T 0 216 64 [some (.ref 56), some (.int x1), some (.int x2), some (.int x3), some (.int (M.1 69 x1.toNatClampNeg)), none] (r.toList ++ []) M1 Q)) : px_T 0 216 0 [some (.ref 56), some (.int x1), some (.int x2), some (.int x3), none, none] [] M Q := by
  by_cases c1 : (M.1 56 21) = 0
  · exact ⟨5, ⟨rfl, ⟨fun q => absurd c1 q, fun _ => ⟨trivial, h1 c1⟩⟩⟩⟩
  · by_cases c2 : (M.1 56 21) = 1
    · exact ⟨12, ⟨rfl, ⟨fun _ => ⟨rfl, ⟨fun _ => ⟨rfl, ⟨Or.inl ⟨0, 16, Or.inl rfl, rfl, (h2 c1 c2)⟩, ⟨trivial, h3 c1 c2⟩⟩⟩, fun q => absurd c2 q⟩⟩, fun q => absurd q c1⟩⟩⟩
    · by_cases c3 : (M.1 56 21) = 3
      · by_cases c4 : x1 = x3
        · exact ⟨19, ⟨rfl, ⟨fun _ => ⟨rfl, ⟨fun q => absurd q c2, fun _ => ⟨rfl, ⟨fun q => absurd c3 q, fun _ => ⟨fun q => absurd c4 q, fun _ => ⟨rfl, ⟨Or.inl ⟨0, 16, Or.inl rfl, rfl, (h4 c1 c2 c3 c4)⟩, ⟨trivial, h5 c1 c2 c3 c4⟩⟩⟩⟩⟩⟩⟩⟩, fun q => absurd q c1⟩⟩⟩
        · by_cases c5 : (M.1 56 21) = 3
          · exact ⟨20, ⟨rfl, ⟨fun _ => ⟨rfl, ⟨fun q => absurd q c2, fun _ => ⟨rfl, ⟨fun q => absurd c3 q, fun _ => ⟨fun _ => ⟨rfl, ⟨fun q => absurd c5 q, fun _ => ⟨trivial, h6 c1 c2 c3 c4 c5⟩⟩⟩, fun q => absurd q c4⟩⟩⟩⟩⟩, fun q => absurd q c1⟩⟩⟩
          · obtain ⟨n, h⟩ := px_T_cl (k := 216) (pc := 61) (y := 177) (st := [.int (M.1 69 x1.toNatClampNeg), .int (M.1 56 22)]) rfl (h8 c1 c2 c3 c4 c5)
            exact ⟨n + 27, ⟨rfl, ⟨fun _ => ⟨rfl, ⟨fun q => absurd q c2, fun _ => ⟨rfl, ⟨fun q => absurd c3 q, fun _ => ⟨fun _ => ⟨rfl, ⟨fun _ => ⟨rfl, ⟨Or.inl ⟨0, 16, Or.inl rfl, rfl, (h7 c1 c2 c3 c4 c5)⟩, ⟨rfl, h⟩⟩⟩, fun q => absurd q c5⟩⟩, fun q => absurd q c4⟩⟩⟩⟩⟩, fun q => absurd q c1⟩⟩⟩
      · by_cases c6 : (M.1 56 21) = 3
        · exact ⟨17, ⟨rfl, ⟨fun _ => ⟨rfl, ⟨fun q => absurd q c2, fun _ => ⟨rfl, ⟨fun _ => ⟨rfl, ⟨fun q => absurd c6 q, fun _ => ⟨trivial, h9 c1 c2 c3 c6⟩⟩⟩, fun q => absurd q c3⟩⟩⟩⟩, fun q => absurd q c1⟩⟩⟩
        · obtain ⟨n, h⟩ := px_T_cl (k := 216) (pc := 61) (y := 177) (st := [.int (M.1 69 x1.toNatClampNeg), .int (M.1 56 22)]) rfl (h11 c1 c2 c3 c6)
          exact ⟨n + 24, ⟨rfl, ⟨fun _ => ⟨rfl, ⟨fun q => absurd q c2, fun _ => ⟨rfl, ⟨fun _ => ⟨rfl, ⟨fun _ => ⟨rfl, ⟨Or.inl ⟨0, 16, Or.inl rfl, rfl, (h10 c1 c2 c3 c6)⟩, ⟨rfl, h⟩⟩⟩, fun q => absurd q c6⟩⟩, fun q => absurd q c3⟩⟩⟩⟩, fun q => absurd q c1⟩⟩⟩
theorem sg_216_64 {x1 : Int32} {d2 : Option Value} {d3 : Option Value} {x4 : Int32} {d5 : Option Value} {s0 : Int32} {M : px_Mem} {Q : px_Po} (h1 : (s0 = 1) → (x4 = x1) → Q (some (.int 1)) M) (h2 : (s0 = 1) → (¬ (x4 = x1)) → px_T 0 215 0 [some (.ref 56), some (.ref 68), some (.int 0), some (.int x4), some (.int x1), none, none] [] M (fun r M1 => px_T 0 216 86 [some (.ref 56), some (.int x1), d2, d3, some (.int x4), d5] (r.toList ++ []) M1 Q)) (h3 : (¬ (s0 = 1)) → Q (some (.int 1)) M) : px_T 0 216 64 [some (.ref 56), some (.int x1), d2, d3, some (.int x4), d5] [.int s0] M Q := by
  by_cases c1 : s0 = 1
  · by_cases c2 : x4 = x1
    · exact ⟨11, ⟨fun q => absurd c1 q, fun _ => ⟨fun _ => ⟨fun _ => ⟨trivial, h1 c1 c2⟩, fun q => absurd (by decide) q⟩, fun q => absurd c2 q⟩⟩⟩
    · obtain ⟨n, h⟩ := px_T_cl (k := 216) (pc := 83) (y := 215) (st := [.int x1, .int x4, .int 0, .ref 68, .ref 56]) rfl (h2 c1 c2)
      exact ⟨n + 12, ⟨fun q => absurd c1 q, fun _ => ⟨fun q => absurd q c2, fun _ => ⟨rfl, ⟨rfl, h⟩⟩⟩⟩⟩
  · exact ⟨8, ⟨fun _ => ⟨fun _ => ⟨trivial, h3 c1⟩, fun q => absurd (by decide) q⟩, fun q => absurd q c1⟩⟩
theorem sg_216_86 {d0 : Option Value} {d1 : Option Value} {d2 : Option Value} {d3 : Option Value} {x4 : Int32} {d5 : Option Value} {s0 : Int32} {M : px_Mem} {Q : px_Po} (h1 : (s0 = 0) → Q (some (.int x4)) M) (h2 : (¬ (s0 = 0)) → Q (some (.int 1)) M) : px_T 0 216 86 [d0, d1, d2, d3, some (.int x4), d5] [.int s0] M Q := by
  by_cases c1 : s0 = 0
  · exact ⟨9, ⟨fun q => absurd c1 q, fun _ => ⟨fun q => absurd q (by decide), fun _ => ⟨trivial, h1 c1⟩⟩⟩⟩
  · exact ⟨7, ⟨fun _ => ⟨fun _ => ⟨trivial, h2 c1⟩, fun q => absurd (by decide) q⟩, fun q => absurd q c1⟩⟩
theorem sg_217_0 {x1 : Int32} {M : px_Mem} {Q : px_Po} (h1 : px_T 0 217 16 [some (.ref 56), some (.int x1), some (.int 0), none] [] (px_wI M 56 22 ((M.1 56 22) &&& ((1 <<< (x1 &&& 31)) ^^^ (-1)))) Q) : px_T 0 217 0 [some (.ref 56), some (.int x1), none, none] [] M Q := by
  obtain ⟨n, h⟩ := h1
  exact ⟨n + 12, ⟨rfl, ⟨rfl, h⟩⟩⟩
theorem sg_217_16 {x1 : Int32} {x2 : Int32} {d3 : Option Value} {M : px_Mem} {Q : px_Po} (h1 : ((8 : Int32) ≤ x2) → px_T 0 217 44 [some (.ref 56), some (.int x1), some (.int (-1)), some (.int 1)] [] M Q) (h2 : (¬ ((8 : Int32) ≤ x2)) → vp_in ((8 * x1) + x2) 128) (h3 : (¬ ((8 : Int32) ≤ x2)) → px_T 0 217 16 [some (.ref 56), some (.int x1), some (.int (x2 + 1)), d3] [] (px_wI M 70 (((8 * x1) + x2).toNatClampNeg) (-1)) Q) : px_T 0 217 16 [some (.ref 56), some (.int x1), some (.int x2), d3] [] M Q := by
  by_cases c1 : (8 : Int32) ≤ x2
  · obtain ⟨n, h⟩ := h1 c1
    exact ⟨n + 7, ⟨fun _ => h, fun q => absurd c1 q⟩⟩
  · obtain ⟨n, h⟩ := h3 c1
    exact ⟨n + 14, ⟨fun q => absurd q c1, fun _ => ⟨rfl, ⟨⟨128, rfl, (h2 c1)⟩, h⟩⟩⟩⟩
theorem sg_217_44 {x1 : Int32} {x2 : Int32} {x3 : Int32} {M : px_Mem} {Q : px_Po} (h1 : ((16 : Int32) ≤ x3) → Q none M) (h2 : (¬ ((16 : Int32) ≤ x3)) → px_T 0 177 0 [some (.int (M.1 56 22)), some (.int x3)] [] M (fun r M1 => px_T 0 217 58 [some (.ref 56), some (.int x1), some (.int x2), some (.int x3)] (r.toList ++ []) M1 Q)) : px_T 0 217 44 [some (.ref 56), some (.int x1), some (.int x2), some (.int x3)] [] M Q := by
  by_cases c1 : (16 : Int32) ≤ x3
  · exact ⟨4, ⟨fun _ => ⟨rfl, h1 c1⟩, fun q => absurd c1 q⟩⟩
  · obtain ⟨n, h⟩ := px_T_cl (k := 217) (pc := 55) (y := 177) (st := [.int x3, .int (M.1 56 22)]) rfl (h2 c1)
    exact ⟨n + 7, ⟨fun q => absurd q c1, fun _ => ⟨rfl, h⟩⟩⟩
theorem sg_217_58 {x1 : Int32} {x2 : Int32} {x3 : Int32} {s0 : Int32} {M : px_Mem} {Q : px_Po} (h1 : (s0 = 0) → px_T 0 217 44 [some (.ref 56), some (.int x1), some (.int x2), some (.int (x3 + 1))] [] M Q) (h2 : (¬ (s0 = 0)) → vp_in x3 16) (h3 : (¬ (s0 = 0)) → ((M.1 68 x3.toNatClampNeg) = x1) → (x2 = (-1)) → px_T 0 216 0 [some (.ref 56), some (.int x3), some (.int x1), some (.int x3), none, none] [] M (fun r M1 => px_T 0 217 93 [some (.ref 56), some (.int x1), some (.int x3), some (.int x3)] (r.toList ++ [.int x3, .ref 68]) M1 Q)) (h4 : (¬ (s0 = 0)) → ((M.1 68 x3.toNatClampNeg) = x1) → (¬ (x2 = (-1))) → px_T 0 216 0 [some (.ref 56), some (.int x3), some (.int x1), some (.int x2), none, none] [] M (fun r M1 => px_T 0 217 93 [some (.ref 56), some (.int x1), some (.int x2), some (.int x3)] (r.toList ++ [.int x3, .ref 68]) M1 Q)) (h5 : (¬ (s0 = 0)) → (¬ ((M.1 68 x3.toNatClampNeg) = x1)) → px_T 0 217 44 [some (.ref 56), some (.int x1), some (.int x2), some (.int (x3 + 1))] [] M Q) : px_T 0 217 58 [some (.ref 56), some (.int x1), some (.int x2), some (.int x3)] [.int s0] M Q := by
  by_cases c1 : s0 = 0
  · obtain ⟨n, h⟩ := h1 c1
    exact ⟨n + 3, ⟨fun _ => h, fun q => absurd c1 q⟩⟩
  · by_cases c2 : (M.1 68 x3.toNatClampNeg) = x1
    · by_cases c3 : x2 = (-1)
      · obtain ⟨n, h⟩ := px_T_cl (k := 217) (pc := 90) (y := 216) (st := [.int x3, .int x1, .int x3, .ref 56, .int x3, .ref 68]) rfl (h3 c1 c2 c3)
        exact ⟨n + 20, ⟨fun q => absurd q c1, fun _ => ⟨rfl, ⟨Or.inl ⟨0, 16, Or.inl rfl, rfl, (h2 c1)⟩, ⟨fun _ => ⟨fun q => absurd c3 q, fun _ => ⟨rfl, ⟨rfl, h⟩⟩⟩, fun q => absurd c2 q⟩⟩⟩⟩⟩
      · obtain ⟨n, h⟩ := px_T_cl (k := 217) (pc := 90) (y := 216) (st := [.int x2, .int x1, .int x3, .ref 56, .int x3, .ref 68]) rfl (h4 c1 c2 c3)
        exact ⟨n + 18, ⟨fun q => absurd q c1, fun _ => ⟨rfl, ⟨Or.inl ⟨0, 16, Or.inl rfl, rfl, (h2 c1)⟩, ⟨fun _ => ⟨fun _ => ⟨rfl, ⟨rfl, h⟩⟩, fun q => absurd q c3⟩, fun q => absurd c2 q⟩⟩⟩⟩⟩
    · obtain ⟨n, h⟩ := h5 c1 c2
      exact ⟨n + 10, ⟨fun q => absurd q c1, fun _ => ⟨rfl, ⟨Or.inl ⟨0, 16, Or.inl rfl, rfl, (h2 c1)⟩, ⟨fun q => absurd q c2, fun _ => h⟩⟩⟩⟩⟩
theorem sg_217_93 {x1 : Int32} {x2 : Int32} {x3 : Int32} {s0 : Int32} {s1 : Int32} {M : px_Mem} {Q : px_Po} (h1 : vp_in s1 16) (h2 : px_T 0 217 44 [some (.ref 56), some (.int x1), some (.int x2), some (.int (x3 + 1))] [] (px_wI M 68 s1.toNatClampNeg s0) Q) : px_T 0 217 93 [some (.ref 56), some (.int x1), some (.int x2), some (.int x3)] [.int s0, .int s1, .ref 68] M Q := by
  obtain ⟨n, h⟩ := h2
  exact ⟨n + 3, ⟨⟨16, rfl, h1⟩, h⟩⟩
theorem sg_218_0 {x1 : Int32} {x2 : Int32} {M : px_Mem} {Q : px_Po} (h1 : vp_in x2 16) (h2 : vp_in x1 16) (h3 : px_T 0 218 43 [some (.ref 56), some (.int x1), some (.int x2), none] [] (px_wI (px_wI (px_wI (px_wI M 56 22 ((M.1 56 22) ||| (1 <<< (x2 &&& 31)))) 56 23 ((M.1 56 23) ||| (1 <<< (x2 &&& 31)))) 68 x2.toNatClampNeg x1) 69 x2.toNatClampNeg (M.1 69 x1.toNatClampNeg)) Q) : px_T 0 218 0 [some (.ref 56), some (.int x1), some (.int x2), none] [] M Q := by
  obtain ⟨n, h⟩ := h3
  exact ⟨n + 29, ⟨rfl, ⟨rfl, ⟨rfl, ⟨rfl, ⟨rfl, ⟨⟨16, rfl, h1⟩, ⟨rfl, ⟨rfl, ⟨Or.inl ⟨0, 16, Or.inl rfl, rfl, h2⟩, ⟨⟨16, rfl, h1⟩, h⟩⟩⟩⟩⟩⟩⟩⟩⟩⟩⟩
theorem sg_218_43 {x1 : Int32} {x2 : Int32} {d3 : Option Value} {M : px_Mem} {Q : px_Po} (h1 : px_T 0 218 45 [some (.ref 56), some (.int x1), some (.int x2), some (.int 0)] [] M Q) : px_T 0 218 43 [some (.ref 56), some (.int x1), some (.int x2), d3] [] M Q := by
  obtain ⟨n, h⟩ := h1
  exact ⟨n + 2, h⟩
theorem sg_218_45 {x1 : Int32} {x2 : Int32} {x3 : Int32} {M : px_Mem} {Q : px_Po} (h1 : ((8 : Int32) ≤ x3) → Q none M) (h2 : (¬ ((8 : Int32) ≤ x3)) → px_T 0 210 0 [some (.ref 56), some (.int x1), some (.int x3)] [] M (fun r M1 => px_T 0 218 67 [some (.ref 56), some (.int x1), some (.int x2), some (.int x3)] (r.toList ++ [.int ((8 * x2) + x3), .ref 70]) M1 Q)) : px_T 0 218 45 [some (.ref 56), some (.int x1), some (.int x2), some (.int x3)] [] M Q := by
  by_cases c1 : (8 : Int32) ≤ x3
  · exact ⟨4, ⟨fun _ => ⟨rfl, h1 c1⟩, fun q => absurd c1 q⟩⟩
  · obtain ⟨n, h⟩ := px_T_cl (k := 218) (pc := 64) (y := 210) (st := [.int x3, .int x1, .ref 56, .int ((8 * x2) + x3), .ref 70]) rfl (h2 c1)
    exact ⟨n + 14, ⟨fun q => absurd q c1, fun _ => ⟨rfl, ⟨rfl, h⟩⟩⟩⟩
theorem sg_218_67 {x1 : Int32} {x2 : Int32} {x3 : Int32} {s0 : Int32} {s1 : Int32} {M : px_Mem} {Q : px_Po} (h1 : vp_in s1 128) (h2 : px_T 0 218 45 [some (.ref 56), some (.int x1), some (.int x2), some (.int (x3 + 1))] [] (px_wI M 70 s1.toNatClampNeg s0) Q) : px_T 0 218 67 [some (.ref 56), some (.int x1), some (.int x2), some (.int x3)] [.int s0, .int s1, .ref 70] M Q := by
  obtain ⟨n, h⟩ := h2
  exact ⟨n + 3, ⟨⟨128, rfl, h1⟩, h⟩⟩
theorem sg_219_0 {x1 : Int32} {M : px_Mem} {Q : px_Po} (h1 : vp_in (M.1 56 27) 200) (h2 : Q (some (.int (((M.1 56 27) + 1) - 1))) (px_wI (px_wI (px_wI M 71 ((M.1 56 27).toNatClampNeg) x1) 72 ((M.1 56 27).toNatClampNeg) 0) 56 27 ((M.1 56 27) + 1))) : px_T 0 219 0 [some (.ref 56), some (.int x1)] [] M Q := by
  exact ⟨23, ⟨rfl, ⟨rfl, ⟨⟨200, rfl, h1⟩, ⟨rfl, ⟨rfl, ⟨⟨200, rfl, h1⟩, ⟨rfl, ⟨rfl, ⟨rfl, ⟨trivial, h2⟩⟩⟩⟩⟩⟩⟩⟩⟩⟩⟩
theorem sg_220_0 {x1 : Int32} {M : px_Mem} {Q : px_Po} (h1 : vp_in x1 72) (h2 : px_T 0 220 38 [some (.ref 56), some (.int x1), some (.int (M.1 64 x1.toNatClampNeg)), some (.int ((8 * (M.1 64 x1.toNatClampNeg)) + (M.1 65 x1.toNatClampNeg))), some (.int ((8 * (M.1 64 x1.toNatClampNeg)) + (M.1 66 x1.toNatClampNeg)))] [.int (M.1 63 x1.toNatClampNeg)] M Q) : px_T 0 220 0 [some (.ref 56), some (.int x1), none, none, none] [] M Q := by
  obtain ⟨n, h⟩ := h2
  exact ⟨n + 27, ⟨rfl, ⟨Or.inl ⟨0, 72, Or.inl rfl, rfl, h1⟩, ⟨rfl, ⟨Or.inl ⟨0, 72, Or.inl rfl, rfl, h1⟩, ⟨rfl, ⟨Or.inl ⟨0, 72, Or.inl rfl, rfl, h1⟩, ⟨rfl, ⟨Or.inl ⟨0, 72, Or.inl rfl, rfl, h1⟩, h⟩⟩⟩⟩⟩⟩⟩⟩⟩
theorem sg_220_38 {x1 : Int32} {x2 : Int32} {x3 : Int32} {x4 : Int32} {s0 : Int32} {M : px_Mem} {Q : px_Po} (h1 : (s0 = 0) → px_T 0 220 88 [some (.ref 56), some (.int x1), some (.int x2), some (.int x3), some (.int x4)] [] M Q) (h2 : (s0 = 1) → px_T 0 220 102 [some (.ref 56), some (.int x1), some (.int x2), some (.int x3), some (.int x4)] [] M Q) (h3 : (s0 = 2) → px_T 0 220 112 [some (.ref 56), some (.int x1), some (.int x2), some (.int x3), some (.int x4)] [] M Q) (h4 : (s0 = 3) → px_T 0 220 120 [some (.ref 56), some (.int x1), some (.int x2), some (.int x3), some (.int x4)] [] M Q) (h5 : (s0 = 4) → px_T 0 220 134 [some (.ref 56), some (.int x1), some (.int x2), some (.int x3), some (.int x4)] [] M Q) (h6 : (s0 = 5) → px_T 0 220 160 [some (.ref 56), some (.int x1), some (.int x2), some (.int x3), some (.int x4)] [] M Q) (h7 : (s0 = 6) → px_T 0 220 176 [some (.ref 56), some (.int x1), some (.int x2), some (.int x3), some (.int x4)] [] M Q) (h8 : (s0 = 7) → px_T 0 220 186 [some (.ref 56), some (.int x1), some (.int x2), some (.int x3), some (.int x4)] [] M Q) (h9 : (s0 = 8) → px_T 0 220 211 [some (.ref 56), some (.int x1), some (.int x2), some (.int x3), some (.int x4)] [] M Q) (h10 : (¬ s0 = 0) → (¬ s0 = 1) → (¬ s0 = 2) → (¬ s0 = 3) → (¬ s0 = 4) → (¬ s0 = 5) → (¬ s0 = 6) → (¬ s0 = 7) → (¬ s0 = 8) → px_T 0 220 248 [some (.ref 56), some (.int x1), some (.int x2), some (.int x3), some (.int x4)] [] M Q) : px_T 0 220 38 [some (.ref 56), some (.int x1), some (.int x2), some (.int x3), some (.int x4)] [.int s0] M Q := by
  by_cases c1 : s0 = 0
  · exact px_T_sw rfl (by rw [c1]; rfl) (h1 c1)
  by_cases c2 : s0 = 1
  · exact px_T_sw rfl (by rw [c2]; rfl) (h2 c2)
  by_cases c3 : s0 = 2
  · exact px_T_sw rfl (by rw [c3]; rfl) (h3 c3)
  by_cases c4 : s0 = 3
  · exact px_T_sw rfl (by rw [c4]; rfl) (h4 c4)
  by_cases c5 : s0 = 4
  · exact px_T_sw rfl (by rw [c5]; rfl) (h5 c5)
  by_cases c6 : s0 = 5
  · exact px_T_sw rfl (by rw [c6]; rfl) (h6 c6)
  by_cases c7 : s0 = 6
  · exact px_T_sw rfl (by rw [c7]; rfl) (h7 c7)
  by_cases c8 : s0 = 7
  · exact px_T_sw rfl (by rw [c8]; rfl) (h8 c8)
  by_cases c9 : s0 = 8
  · exact px_T_sw rfl (by rw [c9]; rfl) (h9 c9)
  exact px_T_sw rfl (px_sw_o (N := 9) (by decide) (fun v hv => match v, hv with | 0, _ => c1 | 1, _ => c2 | 2, _ => c3 | 3, _ => c4 | 4, _ => c5 | 5, _ => c6 | 6, _ => c7 | 7, _ => c8 | 8, _ => c9 | n + 9, h => absurd h (by omega))) (h10 c1 c2 c3 c4 c5 c6 c7 c8 c9)
theorem sg_220_88 {x1 : Int32} {x2 : Int32} {d3 : Option Value} {d4 : Option Value} {M : px_Mem} {Q : px_Po} (h1 : vp_in x1 72) (h2 : px_T 0 218 0 [some (.ref 56), some (.int x2), some (.int (M.1 65 x1.toNatClampNeg)), none] [] M (fun r M1 => px_T 0 220 99 [some (.ref 56), some (.int x1), some (.int x2), d3, d4] (r.toList ++ []) M1 Q)) : px_T 0 220 88 [some (.ref 56), some (.int x1), some (.int x2), d3, d4] [] M Q := by
  obtain ⟨n, h⟩ := px_T_cl (k := 220) (pc := 96) (y := 218) (st := [.int (M.1 65 x1.toNatClampNeg), .int x2, .ref 56]) rfl (h2)
  exact ⟨n + 7, ⟨rfl, ⟨Or.inl ⟨0, 72, Or.inl rfl, rfl, h1⟩, ⟨rfl, h⟩⟩⟩⟩
theorem sg_220_102 {d1 : Option Value} {x2 : Int32} {d3 : Option Value} {d4 : Option Value} {M : px_Mem} {Q : px_Po} (h1 : vp_in x2 16) (h2 : px_T 0 220 248 [some (.ref 56), d1, some (.int x2), d3, d4] [] (px_wI M 69 x2.toNatClampNeg x2) Q) : px_T 0 220 102 [some (.ref 56), d1, some (.int x2), d3, d4] [] M Q := by
  obtain ⟨n, h⟩ := h2
  exact ⟨n + 6, ⟨rfl, ⟨⟨16, rfl, h1⟩, h⟩⟩⟩
theorem sg_220_112 {d1 : Option Value} {x2 : Int32} {d3 : Option Value} {d4 : Option Value} {M : px_Mem} {Q : px_Po} (h1 : px_T 0 217 0 [some (.ref 56), some (.int x2), none, none] [] M (fun r M1 => px_T 0 220 117 [some (.ref 56), d1, some (.int x2), d3, d4] (r.toList ++ []) M1 Q)) : px_T 0 220 112 [some (.ref 56), d1, some (.int x2), d3, d4] [] M Q := by
  obtain ⟨n, h⟩ := px_T_cl (k := 220) (pc := 114) (y := 217) (st := [.int x2, .ref 56]) rfl (h1)
  exact ⟨n + 3, ⟨rfl, h⟩⟩
theorem sg_220_120 {d1 : Option Value} {d2 : Option Value} {x3 : Int32} {d4 : Option Value} {M : px_Mem} {Q : px_Po} (h1 : px_T 0 219 0 [some (.ref 56), some (.int 0)] [] M (fun r M1 => px_T 0 220 130 [some (.ref 56), d1, d2, some (.int x3), d4] (r.toList ++ [.int x3, .ref 70]) M1 Q)) : px_T 0 220 120 [some (.ref 56), d1, d2, some (.int x3), d4] [] M Q := by
  obtain ⟨n, h⟩ := px_T_cl (k := 220) (pc := 127) (y := 219) (st := [.int 0, .ref 56, .int x3, .ref 70]) rfl (h1)
  exact ⟨n + 6, ⟨rfl, ⟨rfl, h⟩⟩⟩
theorem sg_220_134 {d1 : Option Value} {d2 : Option Value} {x3 : Int32} {x4 : Int32} {M : px_Mem} {Q : px_Po} (h1 : px_T 0 219 0 [some (.ref 56), some (.int 1)] [] M (fun r M1 => px_T 0 220 144 [some (.ref 56), d1, d2, some (.int x3), some (.int x4)] (r.toList ++ [.int x3, .ref 70]) M1 Q)) : px_T 0 220 134 [some (.ref 56), d1, d2, some (.int x3), some (.int x4)] [] M Q := by
  obtain ⟨n, h⟩ := px_T_cl (k := 220) (pc := 141) (y := 219) (st := [.int 1, .ref 56, .int x3, .ref 70]) rfl (h1)
  exact ⟨n + 6, ⟨rfl, ⟨rfl, h⟩⟩⟩
theorem sg_220_160 {d1 : Option Value} {d2 : Option Value} {x3 : Int32} {x4 : Int32} {M : px_Mem} {Q : px_Po} (h1 : vp_in x3 128) (h2 : vp_in x4 128) (h3 : px_T 0 220 248 [some (.ref 56), d1, d2, some (.int x3), some (.int x4)] [] (px_wI M 70 x4.toNatClampNeg (M.1 70 x3.toNatClampNeg)) Q) : px_T 0 220 160 [some (.ref 56), d1, d2, some (.int x3), some (.int x4)] [] M Q := by
  obtain ⟨n, h⟩ := h3
  exact ⟨n + 9, ⟨rfl, ⟨rfl, ⟨Or.inl ⟨0, 128, Or.inl rfl, rfl, h1⟩, ⟨⟨128, rfl, h2⟩, h⟩⟩⟩⟩⟩
theorem sg_220_176 {d1 : Option Value} {d2 : Option Value} {x3 : Int32} {d4 : Option Value} {M : px_Mem} {Q : px_Po} (h1 : vp_in x3 128) (h2 : px_T 0 220 248 [some (.ref 56), d1, d2, some (.int x3), d4] [] (px_wI M 70 x3.toNatClampNeg (-1)) Q) : px_T 0 220 176 [some (.ref 56), d1, d2, some (.int x3), d4] [] M Q := by
  obtain ⟨n, h⟩ := h2
  exact ⟨n + 6, ⟨rfl, ⟨⟨128, rfl, h1⟩, h⟩⟩⟩
theorem sg_220_186 {x1 : Int32} {d2 : Option Value} {x3 : Int32} {d4 : Option Value} {M : px_Mem} {Q : px_Po} (h1 : vp_in x3 128) (h2 : vp_in ((M.1 70 x3.toNatClampNeg) - 1) 200) (h3 : vp_in x1 72) (h4 : px_T 0 220 248 [some (.ref 56), some (.int x1), d2, some (.int x3), d4] [] (px_wI M 72 (((M.1 70 x3.toNatClampNeg) - 1).toNatClampNeg) ((M.1 72 (((M.1 70 x3.toNatClampNeg) - 1).toNatClampNeg)) + (M.1 66 x1.toNatClampNeg))) Q) : px_T 0 220 186 [some (.ref 56), some (.int x1), d2, some (.int x3), d4] [] M Q := by
  obtain ⟨n, h⟩ := h4
  exact ⟨n + 17, ⟨rfl, ⟨rfl, ⟨Or.inl ⟨0, 128, Or.inl rfl, rfl, h1⟩, ⟨Or.inl ⟨0, 200, Or.inl rfl, rfl, h2⟩, ⟨rfl, ⟨Or.inl ⟨0, 72, Or.inl rfl, rfl, h3⟩, ⟨⟨200, rfl, h2⟩, h⟩⟩⟩⟩⟩⟩⟩⟩
theorem sg_220_211 {x1 : Int32} {d2 : Option Value} {x3 : Int32} {d4 : Option Value} {M : px_Mem} {Q : px_Po} (h1 : vp_in x3 128) (h2 : vp_in (M.1 70 x3.toNatClampNeg) 200) (h3 : vp_in x1 72) (h4 : px_T 0 220 248 [some (.ref 56), some (.int x1), d2, some (.int x3), d4] [] (px_wI M 72 ((M.1 70 x3.toNatClampNeg).toNatClampNeg) ((M.1 72 ((M.1 70 x3.toNatClampNeg).toNatClampNeg)) - (if (M.1 66 x1.toNatClampNeg) < (M.1 72 ((M.1 70 x3.toNatClampNeg).toNatClampNeg)) then M.1 66 x1.toNatClampNeg else M.1 72 ((M.1 70 x3.toNatClampNeg).toNatClampNeg)))) Q) : px_T 0 220 211 [some (.ref 56), some (.int x1), d2, some (.int x3), d4] [] M Q := by
  obtain ⟨n, h⟩ := h4
  exact ⟨n + 23, ⟨rfl, ⟨rfl, ⟨Or.inl ⟨0, 128, Or.inl rfl, rfl, h1⟩, ⟨Or.inl ⟨0, 200, Or.inl rfl, rfl, h2⟩, ⟨rfl, ⟨rfl, ⟨Or.inl ⟨0, 128, Or.inl rfl, rfl, h1⟩, ⟨Or.inl ⟨0, 200, Or.inl rfl, rfl, h2⟩, ⟨rfl, ⟨Or.inl ⟨0, 72, Or.inl rfl, rfl, h3⟩, ⟨(Nat.le_of_ble_eq_true rfl), (Nat.le_of_ble_eq_true rfl), (Nat.le_of_ble_eq_true rfl), ⟨⟨200, rfl, h2⟩, h⟩⟩⟩⟩⟩⟩⟩⟩⟩⟩⟩⟩⟩
theorem sg_220_248 {d0 : Option Value} {d1 : Option Value} {d2 : Option Value} {d3 : Option Value} {d4 : Option Value} {M : px_Mem} {Q : px_Po} (h1 : Q none M) : px_T 0 220 248 [d0, d1, d2, d3, d4] [] M Q := by
  exact ⟨1, ⟨rfl, h1⟩⟩
theorem sg_220_99 {d0 : Option Value} {d1 : Option Value} {d2 : Option Value} {d3 : Option Value} {d4 : Option Value} {M : px_Mem} {Q : px_Po} (h1 : px_T 0 220 248 [d0, d1, d2, d3, d4] [] M Q) : px_T 0 220 99 [d0, d1, d2, d3, d4] [] M Q := by
  obtain ⟨n, h⟩ := h1
  exact ⟨n + 1, h⟩
theorem sg_220_117 {d0 : Option Value} {d1 : Option Value} {d2 : Option Value} {d3 : Option Value} {d4 : Option Value} {M : px_Mem} {Q : px_Po} (h1 : px_T 0 220 248 [d0, d1, d2, d3, d4] [] M Q) : px_T 0 220 117 [d0, d1, d2, d3, d4] [] M Q := by
  obtain ⟨n, h⟩ := h1
  exact ⟨n + 1, h⟩
theorem sg_220_130 {d0 : Option Value} {d1 : Option Value} {d2 : Option Value} {d3 : Option Value} {d4 : Option Value} {s0 : Int32} {s1 : Int32} {M : px_Mem} {Q : px_Po} (h1 : vp_in s1 128) (h2 : px_T 0 220 248 [d0, d1, d2, d3, d4] [] (px_wI M 70 s1.toNatClampNeg s0) Q) : px_T 0 220 130 [d0, d1, d2, d3, d4] [.int s0, .int s1, .ref 70] M Q := by
  obtain ⟨n, h⟩ := h2
  exact ⟨n + 2, ⟨⟨128, rfl, h1⟩, h⟩⟩
theorem sg_220_144 {d1 : Option Value} {d2 : Option Value} {d3 : Option Value} {x4 : Int32} {s0 : Int32} {s1 : Int32} {M : px_Mem} {Q : px_Po} (h1 : vp_in s1 128) (h2 : px_T 0 219 0 [some (.ref 56), some (.int 2)] [] (px_wI M 70 s1.toNatClampNeg s0) (fun r M1 => px_T 0 220 156 [some (.ref 56), d1, d2, d3, some (.int x4)] (r.toList ++ [.int x4, .ref 70]) M1 Q)) : px_T 0 220 144 [some (.ref 56), d1, d2, d3, some (.int x4)] [.int s0, .int s1, .ref 70] M Q := by
  obtain ⟨n, h⟩ := px_T_cl (k := 220) (pc := 153) (y := 219) (st := [.int 2, .ref 56, .int x4, .ref 70]) rfl (h2)
  exact ⟨n + 7, ⟨⟨128, rfl, h1⟩, ⟨rfl, ⟨rfl, h⟩⟩⟩⟩
theorem sg_220_156 {d0 : Option Value} {d1 : Option Value} {d2 : Option Value} {d3 : Option Value} {d4 : Option Value} {s0 : Int32} {s1 : Int32} {M : px_Mem} {Q : px_Po} (h1 : vp_in s1 128) (h2 : px_T 0 220 248 [d0, d1, d2, d3, d4] [] (px_wI M 70 s1.toNatClampNeg s0) Q) : px_T 0 220 156 [d0, d1, d2, d3, d4] [.int s0, .int s1, .ref 70] M Q := by
  obtain ⟨n, h⟩ := h2
  exact ⟨n + 2, ⟨⟨128, rfl, h1⟩, h⟩⟩
theorem sg_221_0 {x1 : Int32} {M : px_Mem} {Q : px_Po} (h1 : vp_in x1 73) (h2 : px_T 0 221 22 [some (.ref 56), some (.int x1), some (.int 0)] [] (px_wI (px_wI M 76 x1.toNatClampNeg (M.1 56 22)) 77 x1.toNatClampNeg (M.1 56 27)) Q) : px_T 0 221 0 [some (.ref 56), some (.int x1), none] [] M Q := by
  obtain ⟨n, h⟩ := h2
  exact ⟨n + 14, ⟨rfl, ⟨rfl, ⟨⟨73, rfl, h1⟩, ⟨rfl, ⟨rfl, ⟨⟨73, rfl, h1⟩, h⟩⟩⟩⟩⟩⟩⟩
theorem sg_221_22 {x1 : Int32} {x2 : Int32} {M : px_Mem} {Q : px_Po} (h1 : ((16 : Int32) ≤ x2) → px_T 0 221 70 [some (.ref 56), some (.int x1), some (.int 0)] [] M Q) (h2 : (¬ ((16 : Int32) ≤ x2)) → vp_in x2 16) (h3 : (¬ ((16 : Int32) ≤ x2)) → vp_in ((16 * x1) + x2) 1168) (h4 : (¬ ((16 : Int32) ≤ x2)) → px_T 0 221 62 [some (.ref 56), some (.int x1), some (.int x2)] [] (px_wI (px_wI M 78 (((16 * x1) + x2).toNatClampNeg) (M.1 68 x2.toNatClampNeg)) 79 (((16 * x1) + x2).toNatClampNeg) (M.1 69 x2.toNatClampNeg)) Q) : px_T 0 221 22 [some (.ref 56), some (.int x1), some (.int x2)] [] M Q := by
  by_cases c1 : (16 : Int32) ≤ x2
  · obtain ⟨n, h⟩ := h1 c1
    exact ⟨n + 5, ⟨fun _ => h, fun q => absurd c1 q⟩⟩
  · obtain ⟨n, h⟩ := h4 c1
    exact ⟨n + 27, ⟨fun q => absurd q c1, fun _ => ⟨rfl, ⟨rfl, ⟨Or.inl ⟨0, 16, Or.inl rfl, rfl, (h2 c1)⟩, ⟨⟨1168, rfl, (h3 c1)⟩, ⟨rfl, ⟨rfl, ⟨Or.inl ⟨0, 16, Or.inl rfl, rfl, (h2 c1)⟩, ⟨⟨1168, rfl, (h3 c1)⟩, h⟩⟩⟩⟩⟩⟩⟩⟩⟩⟩
theorem sg_221_70 {x1 : Int32} {x2 : Int32} {M : px_Mem} {Q : px_Po} (h1 : ((128 : Int32) ≤ x2) → px_T 0 221 103 [some (.ref 56), some (.int x1), some (.int 0)] [] M Q) (h2 : (¬ ((128 : Int32) ≤ x2)) → vp_in x2 128) (h3 : (¬ ((128 : Int32) ≤ x2)) → vp_in ((128 * x1) + x2) 9344) (h4 : (¬ ((128 : Int32) ≤ x2)) → px_T 0 221 70 [some (.ref 56), some (.int x1), some (.int (x2 + 1))] [] (px_wI M 80 (((128 * x1) + x2).toNatClampNeg) (M.1 70 x2.toNatClampNeg)) Q) : px_T 0 221 70 [some (.ref 56), some (.int x1), some (.int x2)] [] M Q := by
  by_cases c1 : (128 : Int32) ≤ x2
  · obtain ⟨n, h⟩ := h1 c1
    exact ⟨n + 5, ⟨fun _ => h, fun q => absurd c1 q⟩⟩
  · obtain ⟨n, h⟩ := h4 c1
    exact ⟨n + 17, ⟨fun q => absurd q c1, fun _ => ⟨rfl, ⟨rfl, ⟨Or.inl ⟨0, 128, Or.inl rfl, rfl, (h2 c1)⟩, ⟨⟨9344, rfl, (h3 c1)⟩, h⟩⟩⟩⟩⟩⟩
theorem sg_221_62 {x1 : Int32} {x2 : Int32} {M : px_Mem} {Q : px_Po} (h1 : px_T 0 221 22 [some (.ref 56), some (.int x1), some (.int (x2 + 1))] [] M Q) : px_T 0 221 62 [some (.ref 56), some (.int x1), some (.int x2)] [] M Q := by
  obtain ⟨n, h⟩ := h1
  exact ⟨n + 2, h⟩
theorem sg_221_103 {x1 : Int32} {x2 : Int32} {M : px_Mem} {Q : px_Po} (h1 : ((M.1 56 27) ≤ x2) → Q none M) (h2 : (¬ ((M.1 56 27) ≤ x2)) → vp_in x2 200) (h3 : (¬ ((M.1 56 27) ≤ x2)) → vp_in ((200 * x1) + x2) 14600) (h4 : (¬ ((M.1 56 27) ≤ x2)) → px_T 0 221 103 [some (.ref 56), some (.int x1), some (.int (x2 + 1))] [] (px_wI M 81 (((200 * x1) + x2).toNatClampNeg) (M.1 72 x2.toNatClampNeg)) Q) : px_T 0 221 103 [some (.ref 56), some (.int x1), some (.int x2)] [] M Q := by
  by_cases c1 : (M.1 56 27) ≤ x2
  · exact ⟨5, ⟨rfl, ⟨fun _ => ⟨rfl, h1 c1⟩, fun q => absurd c1 q⟩⟩⟩
  · obtain ⟨n, h⟩ := h4 c1
    exact ⟨n + 18, ⟨rfl, ⟨fun q => absurd q c1, fun _ => ⟨rfl, ⟨rfl, ⟨Or.inl ⟨0, 200, Or.inl rfl, rfl, (h2 c1)⟩, ⟨⟨14600, rfl, (h3 c1)⟩, h⟩⟩⟩⟩⟩⟩⟩
