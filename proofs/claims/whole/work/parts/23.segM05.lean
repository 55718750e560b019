theorem sg_294_77 {x1 : Int32} {x2 : Int32} {s0 : Int64} {M : px_Mem} {Q : px_Po} (h1 : px_T 0 184 0 [some (.long s0), none] [] M (fun r M1 => px_T 0 294 80 [some (.ref 56), some (.int x1), some (.int x2)] (r.toList ++ []) M1 Q)) : px_T 0 294 77 [some (.ref 56), some (.int x1), some (.int x2)] [.long s0] M Q := by
  obtain ⟨n, h⟩ := px_T_cl (k := 294) (pc := 77) (y := 184) (st := [.long s0]) rfl (h1)
  exact ⟨n + 1, h⟩
theorem sg_294_80 {x1 : Int32} {x2 : Int32} {s0 : Int32} {M : px_Mem} {Q : px_Po} (h1 : (s0 = 0) → Q (some (.int (-2))) M) (h2 : (¬ (s0 = 0)) → px_T 0 293 0 [some (.ref 56), some (.int x1), some (.int (x2 + 2))] [] M (fun r M1 => px_T 0 294 91 [some (.ref 56), some (.int x1), some (.int x2)] (r.toList ++ []) M1 Q)) : px_T 0 294 80 [some (.ref 56), some (.int x1), some (.int x2)] [.int s0] M Q := by
  by_cases c1 : s0 = 0
  · exact ⟨3, ⟨fun _ => ⟨trivial, h1 c1⟩, fun q => absurd c1 q⟩⟩
  · obtain ⟨n, h⟩ := px_T_cl (k := 294) (pc := 88) (y := 293) (st := [.int (x2 + 2), .int x1, .ref 56]) rfl (h2 c1)
    exact ⟨n + 7, ⟨fun q => absurd q c1, fun _ => ⟨rfl, h⟩⟩⟩
theorem sg_294_91 {x1 : Int32} {x2 : Int32} {s0 : Int64} {M : px_Mem} {Q : px_Po} (h1 : px_T 0 175 0 [some (.long s0), none, some (.long (-1)), none, some (.long 15), none] [] M (fun r M1 => px_T 0 294 100 [some (.ref 56), some (.int x1), some (.int x2)] (r.toList ++ []) M1 Q)) : px_T 0 294 91 [some (.ref 56), some (.int x1), some (.int x2)] [.long s0] M Q := by
  obtain ⟨n, h⟩ := px_T_cl (k := 294) (pc := 97) (y := 175) (st := [.long 15, .long (-1), .long s0]) rfl (h1)
  exact ⟨n + 3, h⟩
theorem sg_294_100 {x1 : Int32} {x2 : Int32} {s0 : Int32} {M : px_Mem} {Q : px_Po} (h1 : (s0 = 0) → Q (some (.int (-2))) M) (h2 : (¬ (s0 = 0)) → px_T 0 294 46 [some (.ref 56), some (.int x1), some (.int (x2 + 3))] [] M Q) : px_T 0 294 100 [some (.ref 56), some (.int x1), some (.int x2)] [.int s0] M Q := by
  by_cases c1 : s0 = 0
  · exact ⟨3, ⟨fun q => absurd c1 q, fun _ => ⟨trivial, h1 c1⟩⟩⟩
  · obtain ⟨n, h⟩ := h2 c1
    exact ⟨n + 3, ⟨fun _ => h, fun q => absurd q c1⟩⟩
theorem sg_295_0 {x1 : Int32} {M : px_Mem} {Q : px_Po} (h1 : px_T 0 295 2 [some (.ref 56), some (.int x1), some (.int 0)] [] M Q) : px_T 0 295 0 [some (.ref 56), some (.int x1), none] [] M Q := by
  obtain ⟨n, h⟩ := h1
  exact ⟨n + 2, h⟩
theorem sg_295_2 {x1 : Int32} {x2 : Int32} {M : px_Mem} {Q : px_Po} (h1 : vp_in x1 4) (h2 : ((M.1 88 x1.toNatClampNeg) ≤ x2) → Q (some (.int 1)) M) (h3 : (¬ ((M.1 88 x1.toNatClampNeg) ≤ x2)) → px_T 0 293 0 [some (.ref 56), some (.int x1), some (.int (x2 + 1))] [] M (fun r M1 => px_T 0 295 21 [some (.ref 56), some (.int x1), some (.int x2)] (r.toList ++ [.ref 56]) M1 Q)) : px_T 0 295 2 [some (.ref 56), some (.int x1), some (.int x2)] [] M Q := by
  by_cases c1 : (M.1 88 x1.toNatClampNeg) ≤ x2
  · exact ⟨8, ⟨rfl, ⟨Or.inl ⟨0, 4, Or.inl rfl, rfl, h1⟩, ⟨fun _ => ⟨Or.inr rfl, h2 c1⟩, fun q => absurd c1 q⟩⟩⟩⟩
  · obtain ⟨n, h⟩ := px_T_cl (k := 295) (pc := 18) (y := 293) (st := [.int (x2 + 1), .int x1, .ref 56, .ref 56]) rfl (h3 c1)
    exact ⟨n + 13, ⟨rfl, ⟨Or.inl ⟨0, 4, Or.inl rfl, rfl, h1⟩, ⟨fun q => absurd q c1, fun _ => ⟨rfl, h⟩⟩⟩⟩⟩
theorem sg_295_21 {x1 : Int32} {x2 : Int32} {s0 : Int64} {M : px_Mem} {Q : px_Po} (h1 : px_T 0 293 0 [some (.ref 56), some (.int x1), some (.int x2)] [] M (fun r M1 => px_T 0 295 28 [some (.ref 56), some (.int x1), some (.int x2)] (r.toList ++ [.int s0.toInt32, .ref 56]) M1 Q)) : px_T 0 295 21 [some (.ref 56), some (.int x1), some (.int x2)] [.long s0, .ref 56] M Q := by
  obtain ⟨n, h⟩ := px_T_cl (k := 295) (pc := 25) (y := 293) (st := [.int x2, .int x1, .ref 56, .int s0.toInt32, .ref 56]) rfl (h1)
  exact ⟨n + 5, ⟨rfl, h⟩⟩
theorem sg_295_28 {x1 : Int32} {x2 : Int32} {s0 : Int64} {s1 : Int32} {M : px_Mem} {Q : px_Po} (h1 : px_T 0 228 0 [some (.ref 56), some (.int s1), some (.int s0.toInt32)] [] M (fun r M1 => px_T 0 295 32 [some (.ref 56), some (.int x1), some (.int x2)] (r.toList ++ []) M1 Q)) : px_T 0 295 28 [some (.ref 56), some (.int x1), some (.int x2)] [.long s0, .int s1, .ref 56] M Q := by
  obtain ⟨n, h⟩ := px_T_cl (k := 295) (pc := 29) (y := 228) (st := [.int s0.toInt32, .int s1, .ref 56]) rfl (h1)
  exact ⟨n + 2, ⟨rfl, h⟩⟩
theorem sg_295_32 {x1 : Int32} {x2 : Int32} {s0 : Int32} {M : px_Mem} {Q : px_Po} (h1 : px_T 0 293 0 [some (.ref 56), some (.int x1), some (.int (x2 + 2))] [] M (fun r M1 => px_T 0 295 41 [some (.ref 56), some (.int x1), some (.int x2)] (r.toList ++ [.long s0.toInt64]) M1 Q)) : px_T 0 295 32 [some (.ref 56), some (.int x1), some (.int x2)] [.int s0] M Q := by
  obtain ⟨n, h⟩ := px_T_cl (k := 295) (pc := 38) (y := 293) (st := [.int (x2 + 2), .int x1, .ref 56, .long s0.toInt64]) rfl (h1)
  exact ⟨n + 7, ⟨rfl, h⟩⟩
theorem sg_295_41 {x1 : Int32} {x2 : Int32} {s0 : Int64} {s1 : Int64} {M : px_Mem} {Q : px_Po} (h1 : ((lg_cmp s1 s0) = 0) → px_T 0 295 2 [some (.ref 56), some (.int x1), some (.int (x2 + 3))] [] M Q) (h2 : (¬ ((lg_cmp s1 s0) = 0)) → Q (some (.int 0)) M) : px_T 0 295 41 [some (.ref 56), some (.int x1), some (.int x2)] [.long s0, .long s1] M Q := by
  by_cases c1 : (lg_cmp s1 s0) = 0
  · obtain ⟨n, h⟩ := h1 c1
    exact ⟨n + 4, ⟨fun _ => h, fun q => absurd c1 q⟩⟩
  · exact ⟨4, ⟨fun q => absurd q c1, fun _ => ⟨Or.inl rfl, h2 c1⟩⟩⟩
theorem sg_296_0 {x1 : Int32} {M : px_Mem} {Q : px_Po} (h1 : px_T 0 294 0 [some (.ref 56), some (.int x1), none] [] M (fun r M1 => px_T 0 296 5 [some (.ref 56), some (.int x1), none, none] (r.toList ++ []) M1 Q)) : px_T 0 296 0 [some (.ref 56), some (.int x1), none, none] [] M Q := by
  obtain ⟨n, h⟩ := px_T_cl (k := 296) (pc := 2) (y := 294) (st := [.int x1, .ref 56]) rfl (h1)
  exact ⟨n + 3, ⟨rfl, h⟩⟩
theorem sg_296_5 {x1 : Int32} {d2 : Option Value} {d3 : Option Value} {s0 : Int32} {M : px_Mem} {Q : px_Po} (h1 : ((0 : Int32) ≤ s0) → px_T 0 296 24 [some (.ref 56), some (.int x1), some (.int s0), some (.int 0)] [] (px_wI (px_wI M 56 47 0) 56 48 (-1)) Q) (h2 : (¬ ((0 : Int32) ≤ s0)) → Q (some (.int s0)) M) : px_T 0 296 5 [some (.ref 56), some (.int x1), d2, d3] [.int s0] M Q := by
  by_cases c1 : (0 : Int32) ≤ s0
  · obtain ⟨n, h⟩ := h1 c1
    exact ⟨n + 11, ⟨fun _ => ⟨rfl, ⟨rfl, h⟩⟩, fun q => absurd c1 q⟩⟩
  · exact ⟨5, ⟨fun q => absurd q c1, fun _ => ⟨trivial, h2 c1⟩⟩⟩
theorem sg_296_24 {x1 : Int32} {d2 : Option Value} {x3 : Int32} {M : px_Mem} {Q : px_Po} (h1 : ((M.1 57 2) ≤ x3) → px_T 0 289 0 [some (.ref 56), some (.int (-1))] [] M (fun r M1 => px_T 0 296 83 [some (.ref 56), some (.int x1), d2, some (.int x3)] (r.toList ++ []) M1 Q)) (h2 : (¬ ((M.1 57 2) ≤ x3)) → px_T 0 289 0 [some (.ref 56), some (.int x3)] [] M (fun r M1 => px_T 0 296 39 [some (.ref 56), some (.int x1), d2, some (.int x3)] (r.toList ++ []) M1 Q)) : px_T 0 296 24 [some (.ref 56), some (.int x1), d2, some (.int x3)] [] M Q := by
  by_cases c1 : (M.1 57 2) ≤ x3
  · obtain ⟨n, h⟩ := px_T_cl (k := 296) (pc := 80) (y := 289) (st := [.int (-1), .ref 56]) rfl (h1 c1)
    exact ⟨n + 9, ⟨rfl, ⟨Or.inl ⟨0, 285, Or.inl rfl, rfl, (vp_in_nI (n := 2) (by decide) (by decide))⟩, ⟨fun _ => ⟨rfl, h⟩, fun q => absurd c1 q⟩⟩⟩⟩
  · obtain ⟨n, h⟩ := px_T_cl (k := 296) (pc := 36) (y := 289) (st := [.int x3, .ref 56]) rfl (h2 c1)
    exact ⟨n + 9, ⟨rfl, ⟨Or.inl ⟨0, 285, Or.inl rfl, rfl, (vp_in_nI (n := 2) (by decide) (by decide))⟩, ⟨fun q => absurd q c1, fun _ => ⟨rfl, h⟩⟩⟩⟩⟩
theorem sg_296_83 {x1 : Int32} {d2 : Option Value} {d3 : Option Value} {M : px_Mem} {Q : px_Po} (h1 : px_T 0 295 0 [some (.ref 56), some (.int x1), none] [] M (fun r M1 => px_T 0 296 89 [some (.ref 56), some (.int x1), d2, d3] (r.toList ++ [.ref 56]) M1 Q)) : px_T 0 296 83 [some (.ref 56), some (.int x1), d2, d3] [] M Q := by
  obtain ⟨n, h⟩ := px_T_cl (k := 296) (pc := 86) (y := 295) (st := [.int x1, .ref 56, .ref 56]) rfl (h1)
  exact ⟨n + 4, ⟨rfl, h⟩⟩
theorem sg_296_39 {x1 : Int32} {d2 : Option Value} {x3 : Int32} {M : px_Mem} {Q : px_Po} (h1 : px_T 0 295 0 [some (.ref 56), some (.int x1), none] [] M (fun r M1 => px_T 0 296 44 [some (.ref 56), some (.int x1), d2, some (.int x3)] (r.toList ++ []) M1 Q)) : px_T 0 296 39 [some (.ref 56), some (.int x1), d2, some (.int x3)] [] M Q := by
  obtain ⟨n, h⟩ := px_T_cl (k := 296) (pc := 41) (y := 295) (st := [.int x1, .ref 56]) rfl (h1)
  exact ⟨n + 3, ⟨rfl, h⟩⟩
theorem sg_296_89 {d0 : Option Value} {d1 : Option Value} {d2 : Option Value} {d3 : Option Value} {s0 : Int32} {M : px_Mem} {Q : px_Po} (h1 : (s0 = 0) → Q (some (.int 0)) (px_wI M 56 49 0)) (h2 : (¬ (s0 = 0)) → Q (some (.int 0)) (px_wI M 56 49 1)) : px_T 0 296 89 [d0, d1, d2, d3] [.int s0, .ref 56] M Q := by
  by_cases c1 : s0 = 0
  · exact ⟨5, ⟨fun _ => ⟨rfl, ⟨trivial, h1 c1⟩⟩, fun q => absurd c1 q⟩⟩
  · exact ⟨6, ⟨fun q => absurd q c1, fun _ => ⟨rfl, ⟨trivial, h2 c1⟩⟩⟩⟩
theorem sg_296_44 {x1 : Int32} {d2 : Option Value} {x3 : Int32} {s0 : Int32} {M : px_Mem} {Q : px_Po} (h1 : (s0 = 0) → px_T 0 296 24 [some (.ref 56), some (.int x1), d2, some (.int (x3 + 1))] [] M Q) (h2 : (¬ (s0 = 0)) → ((M.1 56 47) = 0) → px_T 0 296 24 [some (.ref 56), some (.int x1), d2, some (.int (x3 + 1))] [] (px_wI (px_wI M 56 48 x3) 56 47 ((M.1 56 47) + 1)) Q) (h3 : (¬ (s0 = 0)) → (¬ ((M.1 56 47) = 0)) → px_T 0 296 24 [some (.ref 56), some (.int x1), d2, some (.int (x3 + 1))] [] (px_wI M 56 47 ((M.1 56 47) + 1)) Q) : px_T 0 296 44 [some (.ref 56), some (.int x1), d2, some (.int x3)] [.int s0] M Q := by
  by_cases c1 : s0 = 0
  · obtain ⟨n, h⟩ := h1 c1
    exact ⟨n + 4, ⟨fun q => absurd c1 q, fun _ => h⟩⟩
  · by_cases c2 : (M.1 56 47) = 0
    · obtain ⟨n, h⟩ := h2 c1 c2
      exact ⟨n + 15, ⟨fun _ => ⟨rfl, ⟨fun q => absurd c2 q, fun _ => ⟨rfl, ⟨rfl, ⟨rfl, h⟩⟩⟩⟩⟩, fun q => absurd q c1⟩⟩
    · obtain ⟨n, h⟩ := h3 c1 c2
      exact ⟨n + 12, ⟨fun _ => ⟨rfl, ⟨fun _ => ⟨rfl, ⟨rfl, h⟩⟩, fun q => absurd q c2⟩⟩, fun q => absurd q c1⟩⟩
theorem sg_297_0 {x1 : Int32} {M : px_Mem} {Q : px_Po} (h1 : px_T 0 296 0 [some (.ref 56), some (.int x1), none, none] [] M (fun r M1 => px_T 0 297 5 [some (.ref 56), some (.int x1), none] (r.toList ++ []) M1 Q)) : px_T 0 297 0 [some (.ref 56), some (.int x1), none] [] M Q := by
  obtain ⟨n, h⟩ := px_T_cl (k := 297) (pc := 2) (y := 296) (st := [.int x1, .ref 56]) rfl (h1)
  exact ⟨n + 3, ⟨rfl, h⟩⟩
theorem sg_297_5 {d1 : Option Value} {d2 : Option Value} {s0 : Int32} {M : px_Mem} {Q : px_Po} (h1 : ((0 : Int32) ≤ s0) → Q (some (.int (M.1 56 47))) M) (h2 : (¬ ((0 : Int32) ≤ s0)) → Q (some (.int s0)) M) : px_T 0 297 5 [some (.ref 56), d1, d2] [.int s0] M Q := by
  by_cases c1 : (0 : Int32) ≤ s0
  · exact ⟨6, ⟨fun _ => ⟨rfl, ⟨trivial, h1 c1⟩⟩, fun q => absurd c1 q⟩⟩
  · exact ⟨6, ⟨fun q => absurd q c1, fun _ => ⟨trivial, h2 c1⟩⟩⟩
theorem sg_298_0 {x1 : Int32} {M : px_Mem} {Q : px_Po} (h1 : px_T 0 296 0 [some (.ref 56), some (.int x1), none, none] [] M (fun r M1 => px_T 0 298 5 [some (.ref 56), some (.int x1), none] (r.toList ++ []) M1 Q)) : px_T 0 298 0 [some (.ref 56), some (.int x1), none] [] M Q := by
  obtain ⟨n, h⟩ := px_T_cl (k := 298) (pc := 2) (y := 296) (st := [.int x1, .ref 56]) rfl (h1)
  exact ⟨n + 3, ⟨rfl, h⟩⟩
theorem sg_298_5 {d1 : Option Value} {d2 : Option Value} {s0 : Int32} {M : px_Mem} {Q : px_Po} (h1 : ((0 : Int32) ≤ s0) → Q (some (.int (M.1 56 48))) M) (h2 : (¬ ((0 : Int32) ≤ s0)) → Q (some (.int s0)) M) : px_T 0 298 5 [some (.ref 56), d1, d2] [.int s0] M Q := by
  by_cases c1 : (0 : Int32) ≤ s0
  · exact ⟨6, ⟨fun _ => ⟨rfl, ⟨trivial, h1 c1⟩⟩, fun q => absurd c1 q⟩⟩
  · exact ⟨6, ⟨fun q => absurd q c1, fun _ => ⟨trivial, h2 c1⟩⟩⟩
theorem sg_299_0 {x1 : Int32} {M : px_Mem} {Q : px_Po} (h1 : px_T 0 296 0 [some (.ref 56), some (.int x1), none, none] [] M (fun r M1 => px_T 0 299 5 [some (.ref 56), some (.int x1), none] (r.toList ++ []) M1 Q)) : px_T 0 299 0 [some (.ref 56), some (.int x1), none] [] M Q := by
  obtain ⟨n, h⟩ := px_T_cl (k := 299) (pc := 2) (y := 296) (st := [.int x1, .ref 56]) rfl (h1)
  exact ⟨n + 3, ⟨rfl, h⟩⟩
theorem sg_299_5 {d1 : Option Value} {d2 : Option Value} {s0 : Int32} {M : px_Mem} {Q : px_Po} (h1 : ((0 : Int32) ≤ s0) → Q (some (.int (M.1 56 49))) M) (h2 : (¬ ((0 : Int32) ≤ s0)) → Q (some (.int s0)) M) : px_T 0 299 5 [some (.ref 56), d1, d2] [.int s0] M Q := by
  by_cases c1 : (0 : Int32) ≤ s0
  · exact ⟨6, ⟨fun _ => ⟨rfl, ⟨trivial, h1 c1⟩⟩, fun q => absurd c1 q⟩⟩
  · exact ⟨6, ⟨fun q => absurd q c1, fun _ => ⟨trivial, h2 c1⟩⟩⟩
theorem sg_300_0 {x1 : Int32} {M : px_Mem} {Q : px_Po} (h1 : px_T 0 294 0 [some (.ref 56), some (.int x1), none] [] M (fun r M1 => px_T 0 300 5 [some (.ref 56), some (.int x1), none, none] (r.toList ++ []) M1 Q)) : px_T 0 300 0 [some (.ref 56), some (.int x1), none, none] [] M Q := by
  obtain ⟨n, h⟩ := px_T_cl (k := 300) (pc := 2) (y := 294) (st := [.int x1, .ref 56]) rfl (h1)
  exact ⟨n + 3, ⟨rfl, h⟩⟩
theorem sg_300_5 {x1 : Int32} {d2 : Option Value} {d3 : Option Value} {s0 : Int32} {M : px_Mem} {Q : px_Po} (h1 : ((0 : Int32) ≤ s0) → px_T 0 300 19 [some (.ref 56), some (.int x1), some (.int s0), some (.int 0)] [] (px_wI M 56 21 0) Q) (h2 : (¬ ((0 : Int32) ≤ s0)) → Q (some (.int s0)) M) : px_T 0 300 5 [some (.ref 56), some (.int x1), d2, d3] [.int s0] M Q := by
  by_cases c1 : (0 : Int32) ≤ s0
  · obtain ⟨n, h⟩ := h1 c1
    exact ⟨n + 8, ⟨fun _ => ⟨rfl, h⟩, fun q => absurd c1 q⟩⟩
  · exact ⟨5, ⟨fun q => absurd q c1, fun _ => ⟨trivial, h2 c1⟩⟩⟩
theorem sg_300_19 {x1 : Int32} {d2 : Option Value} {x3 : Int32} {M : px_Mem} {Q : px_Po} (h1 : ((4 : Int32) ≤ (M.1 56 21)) → Q (some (.int x3)) M) (h2 : (¬ ((4 : Int32) ≤ (M.1 56 21))) → px_T 0 223 0 [some (.ref 56), none] [] M (fun r M1 => px_T 0 300 31 [some (.ref 56), some (.int x1), d2, some (.int x3)] (r.toList ++ []) M1 Q)) : px_T 0 300 19 [some (.ref 56), some (.int x1), d2, some (.int x3)] [] M Q := by
  by_cases c1 : (4 : Int32) ≤ (M.1 56 21)
  · exact ⟨6, ⟨rfl, ⟨fun _ => ⟨trivial, h1 c1⟩, fun q => absurd c1 q⟩⟩⟩
  · obtain ⟨n, h⟩ := px_T_cl (k := 300) (pc := 28) (y := 223) (st := [.ref 56]) rfl (h2 c1)
    exact ⟨n + 6, ⟨rfl, ⟨fun q => absurd q c1, fun _ => ⟨rfl, h⟩⟩⟩⟩
theorem sg_300_31 {x1 : Int32} {d2 : Option Value} {x3 : Int32} {M : px_Mem} {Q : px_Po} (h1 : px_T 0 295 0 [some (.ref 56), some (.int x1), none] [] M (fun r M1 => px_T 0 300 37 [some (.ref 56), some (.int x1), d2, some (.int x3)] (r.toList ++ [.int x3]) M1 Q)) : px_T 0 300 31 [some (.ref 56), some (.int x1), d2, some (.int x3)] [] M Q := by
  obtain ⟨n, h⟩ := px_T_cl (k := 300) (pc := 34) (y := 295) (st := [.int x1, .ref 56, .int x3]) rfl (h1)
  exact ⟨n + 4, ⟨rfl, h⟩⟩
theorem sg_300_37 {x1 : Int32} {d2 : Option Value} {d3 : Option Value} {s0 : Int32} {s1 : Int32} {M : px_Mem} {Q : px_Po} (h1 : (s0 = 0) → px_T 0 300 19 [some (.ref 56), some (.int x1), d2, some (.int (s1 ||| 0))] [] (px_wI M 56 21 ((M.1 56 21) + 1)) Q) (h2 : (¬ (s0 = 0)) → px_T 0 300 19 [some (.ref 56), some (.int x1), d2, some (.int (s1 ||| (1 <<< ((M.1 56 21) &&& 31))))] [] (px_wI M 56 21 ((M.1 56 21) + 1)) Q) : px_T 0 300 37 [some (.ref 56), some (.int x1), d2, d3] [.int s0, .int s1] M Q := by
  by_cases c1 : s0 = 0
  · obtain ⟨n, h⟩ := h1 c1
    exact ⟨n + 11, ⟨fun _ => ⟨rfl, ⟨rfl, h⟩⟩, fun q => absurd c1 q⟩⟩
  · obtain ⟨n, h⟩ := h2 c1
    exact ⟨n + 15, ⟨fun q => absurd q c1, fun _ => ⟨rfl, ⟨rfl, ⟨rfl, h⟩⟩⟩⟩⟩
theorem sg_301_0 {x1 : Int32} {M : px_Mem} {Q : px_Po} (h1 : px_T 0 223 0 [some (.ref 56), none] [] (px_wI M 56 21 x1) (fun r M1 => px_T 0 301 9 [some (.ref 56), some (.int x1)] (r.toList ++ []) M1 Q)) : px_T 0 301 0 [some (.ref 56), some (.int x1)] [] M Q := by
  obtain ⟨n, h⟩ := px_T_cl (k := 301) (pc := 6) (y := 223) (st := [.ref 56]) rfl (h1)
  exact ⟨n + 5, ⟨rfl, ⟨rfl, h⟩⟩⟩
theorem sg_301_9 {d1 : Option Value} {M : px_Mem} {Q : px_Po} (h1 : px_T 0 272 0 [some (.ref 56), some (.int (M.1 56 20))] [] M (fun r M1 => px_T 0 301 17 [some (.ref 56), d1] (r.toList ++ []) M1 Q)) : px_T 0 301 9 [some (.ref 56), d1] [] M Q := by
  obtain ⟨n, h⟩ := px_T_cl (k := 301) (pc := 14) (y := 272) (st := [.int (M.1 56 20), .ref 56]) rfl (h1)
  exact ⟨n + 4, ⟨rfl, ⟨rfl, h⟩⟩⟩
theorem sg_301_17 {d0 : Option Value} {d1 : Option Value} {s0 : Int32} {M : px_Mem} {Q : px_Po} (h1 : px_T 0 176 0 [some (.int s0), none, none] [] M (fun r M1 => px_T 0 301 20 [d0, d1] (r.toList ++ []) M1 Q)) : px_T 0 301 17 [d0, d1] [.int s0] M Q := by
  obtain ⟨n, h⟩ := px_T_cl (k := 301) (pc := 17) (y := 176) (st := [.int s0]) rfl (h1)
  exact ⟨n + 1, h⟩
theorem sg_301_20 {d0 : Option Value} {d1 : Option Value} {s0 : Int32} {M : px_Mem} {Q : px_Po} (h1 : Q (some (.int s0)) M) : px_T 0 301 20 [d0, d1] [.int s0] M Q := by
  exact ⟨1, ⟨trivial, h1⟩⟩
theorem sg_302_0 {x1 : Int32} {M : px_Mem} {Q : px_Po} (h1 : px_T 0 224 0 [some (.ref 56)] [] M (fun r M1 => px_T 0 302 4 [some (.ref 56), some (.int x1)] (r.toList ++ []) M1 Q)) : px_T 0 302 0 [some (.ref 56), some (.int x1)] [] M Q := by
  obtain ⟨n, h⟩ := px_T_cl (k := 302) (pc := 1) (y := 224) (st := [.ref 56]) rfl (h1)
  exact ⟨n + 2, ⟨rfl, h⟩⟩
theorem sg_302_4 {x1 : Int32} {s0 : Int32} {M : px_Mem} {Q : px_Po} (h1 : (s0 = 0) → Q (some (.int (-2))) M) (h2 : (¬ (s0 = 0)) → px_T 0 175 0 [some (.long x1.toInt64), none, some (.long 0), none, some (.long 3), none] [] M (fun r M1 => px_T 0 302 16 [some (.ref 56), some (.int x1)] (r.toList ++ []) M1 Q)) : px_T 0 302 4 [some (.ref 56), some (.int x1)] [.int s0] M Q := by
  by_cases c1 : s0 = 0
  · exact ⟨3, ⟨fun _ => ⟨trivial, h1 c1⟩, fun q => absurd c1 q⟩⟩
  · obtain ⟨n, h⟩ := px_T_cl (k := 302) (pc := 13) (y := 175) (st := [.long 3, .long 0, .long x1.toInt64]) rfl (h2 c1)
    exact ⟨n + 6, ⟨fun q => absurd q c1, fun _ => h⟩⟩
theorem sg_302_16 {x1 : Int32} {s0 : Int32} {M : px_Mem} {Q : px_Po} (h1 : (s0 = 0) → Q (some (.int (-2))) M) (h2 : (¬ (s0 = 0)) → px_T 0 301 0 [some (.ref 56), some (.int x1)] [] M (fun r M1 => px_T 0 302 24 [some (.ref 56), some (.int x1)] (r.toList ++ []) M1 Q)) : px_T 0 302 16 [some (.ref 56), some (.int x1)] [.int s0] M Q := by
  by_cases c1 : s0 = 0
  · exact ⟨3, ⟨fun _ => ⟨trivial, h1 c1⟩, fun q => absurd c1 q⟩⟩
  · obtain ⟨n, h⟩ := px_T_cl (k := 302) (pc := 21) (y := 301) (st := [.int x1, .ref 56]) rfl (h2 c1)
    exact ⟨n + 4, ⟨fun q => absurd q c1, fun _ => ⟨rfl, h⟩⟩⟩
theorem sg_302_24 {d0 : Option Value} {d1 : Option Value} {s0 : Int32} {M : px_Mem} {Q : px_Po} (h1 : Q (some (.int s0)) M) : px_T 0 302 24 [d0, d1] [.int s0] M Q := by
  exact ⟨2, ⟨trivial, h1⟩⟩
theorem sg_303_0 {M : px_Mem} {Q : px_Po} (h1 : px_T 0 224 0 [some (.ref 56)] [] M (fun r M1 => px_T 0 303 4 [some (.ref 56), none, none] (r.toList ++ []) M1 Q)) : px_T 0 303 0 [some (.ref 56), none, none] [] M Q := by
  obtain ⟨n, h⟩ := px_T_cl (k := 303) (pc := 1) (y := 224) (st := [.ref 56]) rfl (h1)
  exact ⟨n + 2, ⟨rfl, h⟩⟩
theorem sg_303_4 {d1 : Option Value} {d2 : Option Value} {s0 : Int32} {M : px_Mem} {Q : px_Po} (h1 : (s0 = 0) → Q (some (.int (-2))) M) (h2 : (¬ (s0 = 0)) → px_T 0 303 14 [some (.ref 56), some (.int 0), some (.int 1)] [] M Q) : px_T 0 303 4 [some (.ref 56), d1, d2] [.int s0] M Q := by
  by_cases c1 : s0 = 0
  · exact ⟨3, ⟨fun q => absurd c1 q, fun _ => ⟨trivial, h1 c1⟩⟩⟩
  · obtain ⟨n, h⟩ := h2 c1
    exact ⟨n + 5, ⟨fun _ => h, fun q => absurd q c1⟩⟩
theorem sg_303_14 {x1 : Int32} {x2 : Int32} {M : px_Mem} {Q : px_Po} (h1 : ((4 : Int32) ≤ x2) → Q (some (.int x1)) M) (h2 : (¬ ((4 : Int32) ≤ x2)) → px_T 0 301 0 [some (.ref 56), some (.int x2)] [] M (fun r M1 => px_T 0 303 24 [some (.ref 56), some (.int x1), some (.int x2)] (r.toList ++ []) M1 Q)) : px_T 0 303 14 [some (.ref 56), some (.int x1), some (.int x2)] [] M Q := by
  by_cases c1 : (4 : Int32) ≤ x2
  · exact ⟨5, ⟨fun _ => ⟨trivial, h1 c1⟩, fun q => absurd c1 q⟩⟩
  · obtain ⟨n, h⟩ := px_T_cl (k := 303) (pc := 21) (y := 301) (st := [.int x2, .ref 56]) rfl (h2 c1)
    exact ⟨n + 6, ⟨fun q => absurd q c1, fun _ => ⟨rfl, h⟩⟩⟩
theorem sg_303_24 {x1 : Int32} {x2 : Int32} {s0 : Int32} {M : px_Mem} {Q : px_Po} (h1 : px_T 0 301 0 [some (.ref 56), some (.int x1)] [] M (fun r M1 => px_T 0 303 29 [some (.ref 56), some (.int x1), some (.int x2)] (r.toList ++ [.int s0]) M1 Q)) : px_T 0 303 24 [some (.ref 56), some (.int x1), some (.int x2)] [.int s0] M Q := by
  obtain ⟨n, h⟩ := px_T_cl (k := 303) (pc := 26) (y := 301) (st := [.int x1, .ref 56, .int s0]) rfl (h1)
  exact ⟨n + 3, ⟨rfl, h⟩⟩
theorem sg_303_29 {x1 : Int32} {x2 : Int32} {s0 : Int32} {s1 : Int32} {M : px_Mem} {Q : px_Po} (h1 : (s0 ≤ s1) → px_T 0 303 14 [some (.ref 56), some (.int x1), some (.int (x2 + 1))] [] M Q) (h2 : (¬ (s0 ≤ s1)) → px_T 0 303 14 [some (.ref 56), some (.int x2), some (.int (x2 + 1))] [] M Q) : px_T 0 303 29 [some (.ref 56), some (.int x1), some (.int x2)] [.int s0, .int s1] M Q := by
  by_cases c1 : s0 ≤ s1
  · obtain ⟨n, h⟩ := h1 c1
    exact ⟨n + 5, ⟨fun _ => h, fun q => absurd c1 q⟩⟩
  · obtain ⟨n, h⟩ := h2 c1
    exact ⟨n + 6, ⟨fun q => absurd q c1, fun _ => h⟩⟩
theorem sg_304_0 {x1 : Int32} {M : px_Mem} {Q : px_Po} (h1 : px_T 0 304 2 [some (.ref 56), some (.int x1), some (.int 0)] [] M Q) : px_T 0 304 0 [some (.ref 56), some (.int x1), none] [] M Q := by
  obtain ⟨n, h⟩ := h1
  exact ⟨n + 2, h⟩
theorem sg_304_2 {x1 : Int32} {x2 : Int32} {M : px_Mem} {Q : px_Po} (h1 : ((M.1 56 20) ≤ x2) → px_T 0 223 0 [some (.ref 56), none] [] M (fun r M1 => px_T 0 304 56 [some (.ref 56), some (.int x1), some (.int x2)] (r.toList ++ []) M1 Q)) (h2 : (¬ ((M.1 56 20) ≤ x2)) → vp_in x2 72) (h3 : (¬ ((M.1 56 20) ≤ x2)) → ((M.1 64 x2.toNatClampNeg) = 1) → px_T 0 304 2 [some (.ref 56), some (.int x1), some (.int (x2 + 1))] [] (px_wI M 67 x2.toNatClampNeg (vp_nar .boolean 0)) Q) (h4 : (¬ ((M.1 56 20) ≤ x2)) → (¬ ((M.1 64 x2.toNatClampNeg) = 1)) → px_T 0 177 0 [some (.int x1), some (.int ((M.1 64 x2.toNatClampNeg) - 1))] [] M (fun r M1 => px_T 0 304 37 [some (.ref 56), some (.int x1), some (.int x2)] (r.toList ++ [.int x2, .ref 67]) M1 Q)) : px_T 0 304 2 [some (.ref 56), some (.int x1), some (.int x2)] [] M Q := by
  by_cases c1 : (M.1 56 20) ≤ x2
  · obtain ⟨n, h⟩ := px_T_cl (k := 304) (pc := 53) (y := 223) (st := [.ref 56]) rfl (h1 c1)
    exact ⟨n + 6, ⟨rfl, ⟨fun _ => ⟨rfl, h⟩, fun q => absurd c1 q⟩⟩⟩
  · by_cases c2 : (M.1 64 x2.toNatClampNeg) = 1
    · obtain ⟨n, h⟩ := h3 c1 c2
      exact ⟨n + 17, ⟨rfl, ⟨fun q => absurd q c1, fun _ => ⟨rfl, ⟨rfl, ⟨Or.inl ⟨0, 72, Or.inl rfl, rfl, (h2 c1)⟩, ⟨fun _ => (Or.inr ⟨⟨72, rfl, (h2 c1)⟩, h⟩), fun q => absurd c2 q⟩⟩⟩⟩⟩⟩⟩
    · obtain ⟨n, h⟩ := px_T_cl (k := 304) (pc := 34) (y := 177) (st := [.int ((M.1 64 x2.toNatClampNeg) - 1), .int x1, .int x2, .ref 67]) rfl (h4 c1 c2)
      exact ⟨n + 21, ⟨rfl, ⟨fun q => absurd q c1, fun _ => ⟨rfl, ⟨rfl, ⟨Or.inl ⟨0, 72, Or.inl rfl, rfl, (h2 c1)⟩, ⟨fun q => absurd q c2, fun _ => ⟨rfl, ⟨Or.inl ⟨0, 72, Or.inl rfl, rfl, (h2 c1)⟩, h⟩⟩⟩⟩⟩⟩⟩⟩⟩
theorem sg_304_56 {d1 : Option Value} {d2 : Option Value} {M : px_Mem} {Q : px_Po} (h1 : px_T 0 230 0 [some (.ref 56), some (.int (M.1 56 20))] [] M (fun r M1 => px_T 0 304 64 [some (.ref 56), d1, d2] (r.toList ++ []) M1 Q)) : px_T 0 304 56 [some (.ref 56), d1, d2] [] M Q := by
  obtain ⟨n, h⟩ := px_T_cl (k := 304) (pc := 61) (y := 230) (st := [.int (M.1 56 20), .ref 56]) rfl (h1)
  exact ⟨n + 4, ⟨rfl, ⟨rfl, h⟩⟩⟩
theorem sg_304_37 {x1 : Int32} {x2 : Int32} {s0 : Int32} {s1 : Int32} {M : px_Mem} {Q : px_Po} (h1 : (s0 = 0) → vp_in s1 72) (h2 : (s0 = 0) → px_T 0 304 2 [some (.ref 56), some (.int x1), some (.int (x2 + 1))] [] (px_wI M 67 s1.toNatClampNeg (vp_nar .boolean 1)) Q) (h3 : (¬ (s0 = 0)) → vp_in s1 72) (h4 : (¬ (s0 = 0)) → px_T 0 304 2 [some (.ref 56), some (.int x1), some (.int (x2 + 1))] [] (px_wI M 67 s1.toNatClampNeg (vp_nar .boolean 0)) Q) : px_T 0 304 37 [some (.ref 56), some (.int x1), some (.int x2)] [.int s0, .int s1, .ref 67] M Q := by
  by_cases c1 : s0 = 0
  · obtain ⟨n, h⟩ := h2 c1
    exact ⟨n + 6, ⟨fun q => absurd c1 q, fun _ => (Or.inr ⟨⟨72, rfl, (h1 c1)⟩, h⟩)⟩⟩
  · obtain ⟨n, h⟩ := h4 c1
    exact ⟨n + 5, ⟨fun _ => (Or.inr ⟨⟨72, rfl, (h3 c1)⟩, h⟩), fun q => absurd q c1⟩⟩
theorem sg_304_64 {d0 : Option Value} {d1 : Option Value} {d2 : Option Value} {s0 : Int32} {M : px_Mem} {Q : px_Po} (h1 : Q (some (.int s0)) M) : px_T 0 304 64 [d0, d1, d2] [.int s0] M Q := by
  exact ⟨1, ⟨trivial, h1⟩⟩
theorem sg_305_0 {x1 : Int32} {M : px_Mem} {Q : px_Po} (h1 : px_T 0 209 0 [some (.ref 56), none] [] M (fun r M1 => px_T 0 305 4 [some (.ref 56), some (.int x1)] (r.toList ++ []) M1 Q)) : px_T 0 305 0 [some (.ref 56), some (.int x1)] [] M Q := by
  obtain ⟨n, h⟩ := px_T_cl (k := 305) (pc := 1) (y := 209) (st := [.ref 56]) rfl (h1)
  exact ⟨n + 2, ⟨rfl, h⟩⟩
theorem sg_305_4 {x1 : Int32} {M : px_Mem} {Q : px_Po} (h1 : px_T 0 180 0 [some (.ref 56)] [] M (fun r M1 => px_T 0 305 8 [some (.ref 56), some (.int x1)] (r.toList ++ []) M1 Q)) : px_T 0 305 4 [some (.ref 56), some (.int x1)] [] M Q := by
  obtain ⟨n, h⟩ := px_T_cl (k := 305) (pc := 5) (y := 180) (st := [.ref 56]) rfl (h1)
  exact ⟨n + 2, ⟨rfl, h⟩⟩
theorem sg_305_8 {x1 : Int32} {s0 : Int32} {M : px_Mem} {Q : px_Po} (h1 : (s0 = 0) → Q (some (.int (-2))) M) (h2 : (¬ (s0 = 0)) → px_T 0 175 0 [some (.long x1.toInt64), none, some (.long 0), none, some (.long 32767), none] [] M (fun r M1 => px_T 0 305 20 [some (.ref 56), some (.int x1)] (r.toList ++ []) M1 Q)) : px_T 0 305 8 [some (.ref 56), some (.int x1)] [.int s0] M Q := by
  by_cases c1 : s0 = 0
  · exact ⟨3, ⟨fun _ => ⟨trivial, h1 c1⟩, fun q => absurd c1 q⟩⟩
  · obtain ⟨n, h⟩ := px_T_cl (k := 305) (pc := 17) (y := 175) (st := [.long 32767, .long 0, .long x1.toInt64]) rfl (h2 c1)
    exact ⟨n + 6, ⟨fun q => absurd q c1, fun _ => h⟩⟩
theorem sg_305_20 {x1 : Int32} {s0 : Int32} {M : px_Mem} {Q : px_Po} (h1 : (s0 = 0) → Q (some (.int (-2))) M) (h2 : (¬ (s0 = 0)) → px_T 0 304 0 [some (.ref 56), some (.int x1), none] [] M (fun r M1 => px_T 0 305 28 [some (.ref 56), some (.int x1)] (r.toList ++ []) M1 Q)) : px_T 0 305 20 [some (.ref 56), some (.int x1)] [.int s0] M Q := by
  by_cases c1 : s0 = 0
  · exact ⟨3, ⟨fun _ => ⟨trivial, h1 c1⟩, fun q => absurd c1 q⟩⟩
  · obtain ⟨n, h⟩ := px_T_cl (k := 305) (pc := 25) (y := 304) (st := [.int x1, .ref 56]) rfl (h2 c1)
    exact ⟨n + 4, ⟨fun q => absurd q c1, fun _ => ⟨rfl, h⟩⟩⟩
theorem sg_305_28 {d0 : Option Value} {d1 : Option Value} {s0 : Int32} {M : px_Mem} {Q : px_Po} (h1 : Q (some (.int s0)) M) : px_T 0 305 28 [d0, d1] [.int s0] M Q := by
  exact ⟨2, ⟨trivial, h1⟩⟩
theorem sg_306_0 {x0 : Int32} {M : px_Mem} {Q : px_Po} (h1 : px_T 0 306 4 [some (.int x0), some (.int 1), some (.int 2)] [] M Q) : px_T 0 306 0 [some (.int x0), none, none] [] M Q := by
  obtain ⟨n, h⟩ := h1
  exact ⟨n + 4, h⟩
theorem sg_306_4 {x0 : Int32} {x1 : Int32} {x2 : Int32} {M : px_Mem} {Q : px_Po} (h1 : (x0 < x2) → Q (some (.int x1)) M) (h2 : (¬ (x0 < x2)) → px_T 0 306 4 [some (.int x0), some (.int (x1 * x2)), some (.int (x2 + 1))] [] M Q) : px_T 0 306 4 [some (.int x0), some (.int x1), some (.int x2)] [] M Q := by
  by_cases c1 : x0 < x2
  · exact ⟨5, ⟨fun _ => ⟨trivial, h1 c1⟩, fun q => absurd c1 q⟩⟩
  · obtain ⟨n, h⟩ := h2 c1
    exact ⟨n + 9, ⟨fun q => absurd q c1, fun _ => h⟩⟩
theorem sg_307_0 {x0 : Int64} {x2 : Int64} {M : px_Mem} {Q : px_Po} (h1 : px_T 0 307 9 [some (.long x0), none, some (.long x2), none, some (.long (if 0 < x0 then x0 else -x0)), none, some (.long x2), none, none, none] [] M Q) : px_T 0 307 0 [some (.long x0), none, some (.long x2), none, none, none, none, none, none, none] [] M Q := by
  obtain ⟨n, h⟩ := h1
  exact ⟨n + 5, ⟨(Nat.le_of_ble_eq_true rfl), (Nat.le_of_ble_eq_true rfl), (Nat.le_of_ble_eq_true rfl), h⟩⟩
theorem sg_307_9 {d0 : Option Value} {d2 : Option Value} {x4 : Int64} {x6 : Int64} {d8 : Option Value} {d9 : Option Value} {M : px_Mem} {Q : px_Po} (h1 : ((lg_cmp x6 0) = 0) → Q (some (.long x4)) M) (h2 : (¬ ((lg_cmp x6 0) = 0)) → ¬ x6 = 0) (h3 : (¬ ((lg_cmp x6 0) = 0)) → px_T 0 307 9 [d0, none, d2, none, some (.long x6), none, some (.long (x4 - x4 / x6 * x6)), none, some (.long (x4 - x4 / x6 * x6)), none] [] M Q) : px_T 0 307 9 [d0, none, d2, none, some (.long x4), none, some (.long x6), none, d8, d9] [] M Q := by
  by_cases c1 : (lg_cmp x6 0) = 0
  · exact ⟨6, ⟨fun _ => ⟨rfl, h1 c1⟩, fun q => absurd c1 q⟩⟩
  · obtain ⟨n, h⟩ := h3 c1
    exact ⟨n + 13, ⟨fun q => absurd q c1, fun _ => ⟨(h2 c1), h⟩⟩⟩
theorem sg_308_0 {x0 : Int64} {x2 : Int64} {x4 : Int32} {M : px_Mem} {Q : px_Po} (h1 : (x4 = 0) → px_T 0 307 0 [some (.long x0), none, some (.long x2), none, none, none, none, none, none, none] [] M (fun r M1 => px_T 0 308 15 [some (.long x0), none, some (.long x2), none, some (.int x4)] (r.toList ++ [.long x0]) M1 Q)) (h2 : (¬ (x4 = 0)) → px_T 0 307 0 [some (.long x0), none, some (.long x2), none, none, none, none, none, none, none] [] M (fun r M1 => px_T 0 308 15 [some (.long x0), none, some (.long x2), none, some (.int x4)] (r.toList ++ [.long x2]) M1 Q)) : px_T 0 308 0 [some (.long x0), none, some (.long x2), none, some (.int x4)] [] M Q := by
  by_cases c1 : x4 = 0
  · obtain ⟨n, h⟩ := px_T_cl (k := 308) (pc := 12) (y := 307) (st := [.long x2, .long x0, .long x0]) rfl (h1 c1)
    exact ⟨n + 7, ⟨fun q => absurd c1 q, fun _ => h⟩⟩
  · obtain ⟨n, h⟩ := px_T_cl (k := 308) (pc := 12) (y := 307) (st := [.long x2, .long x0, .long x2]) rfl (h2 c1)
    exact ⟨n + 6, ⟨fun _ => h, fun q => absurd q c1⟩⟩
theorem sg_308_15 {d0 : Option Value} {d2 : Option Value} {d4 : Option Value} {s0 : Int64} {s1 : Int64} {M : px_Mem} {Q : px_Po} (h1 : ¬ s0 = 0) (h2 : Q (some (.long (s1 / s0))) M) : px_T 0 308 15 [d0, none, d2, none, d4] [.long s0, .long s1] M Q := by
  exact ⟨2, ⟨h1, ⟨rfl, h2⟩⟩⟩
theorem sg_309_0 {x1 : Int32} {x2 : Int32} {M : px_Mem} {Q : px_Po} (h1 : px_T 0 209 0 [some (.ref 56), none] [] M (fun r M1 => px_T 0 309 4 [some (.ref 56), some (.int x1), some (.int x2), none, none, none, none] (r.toList ++ []) M1 Q)) : px_T 0 309 0 [some (.ref 56), some (.int x1), some (.int x2), none, none, none, none] [] M Q := by
  obtain ⟨n, h⟩ := px_T_cl (k := 309) (pc := 1) (y := 209) (st := [.ref 56]) rfl (h1)
  exact ⟨n + 2, ⟨rfl, h⟩⟩
theorem sg_309_4 {x1 : Int32} {x2 : Int32} {d3 : Option Value} {d4 : Option Value} {d5 : Option Value} {d6 : Option Value} {M : px_Mem} {Q : px_Po} (h1 : px_T 0 180 0 [some (.ref 56)] [] M (fun r M1 => px_T 0 309 8 [some (.ref 56), some (.int x1), some (.int x2), d3, d4, d5, d6] (r.toList ++ []) M1 Q)) : px_T 0 309 4 [some (.ref 56), some (.int x1), some (.int x2), d3, d4, d5, d6] [] M Q := by
  obtain ⟨n, h⟩ := px_T_cl (k := 309) (pc := 5) (y := 180) (st := [.ref 56]) rfl (h1)
  exact ⟨n + 2, ⟨rfl, h⟩⟩
theorem sg_309_8 {x1 : Int32} {x2 : Int32} {d3 : Option Value} {d4 : Option Value} {d5 : Option Value} {d6 : Option Value} {s0 : Int32} {M : px_Mem} {Q : px_Po} (h1 : (s0 = 0) → Q (some (.int (-1000))) M) (h2 : (¬ (s0 = 0)) → px_T 0 175 0 [some (.long x1.toInt64), none, some (.long 2), none, some (.long 7), none] [] M (fun r M1 => px_T 0 309 22 [some (.ref 56), some (.int x1), some (.int x2), d3, d4, d5, d6] (r.toList ++ []) M1 Q)) : px_T 0 309 8 [some (.ref 56), some (.int x1), some (.int x2), d3, d4, d5, d6] [.int s0] M Q := by
  by_cases c1 : s0 = 0
  · exact ⟨3, ⟨fun _ => ⟨trivial, h1 c1⟩, fun q => absurd c1 q⟩⟩
  · obtain ⟨n, h⟩ := px_T_cl (k := 309) (pc := 19) (y := 175) (st := [.long 7, .long 2, .long x1.toInt64]) rfl (h2 c1)
    exact ⟨n + 6, ⟨fun q => absurd q c1, fun _ => h⟩⟩
theorem sg_309_22 {x1 : Int32} {x2 : Int32} {d3 : Option Value} {d4 : Option Value} {d5 : Option Value} {d6 : Option Value} {s0 : Int32} {M : px_Mem} {Q : px_Po} (h1 : (s0 = 0) → Q (some (.int (-1000))) M) (h2 : (¬ (s0 = 0)) → px_T 0 175 0 [some (.long x2.toInt64), none, some (.long 0), none, some (.long 1), none] [] M (fun r M1 => px_T 0 309 32 [some (.ref 56), some (.int x1), some (.int x2), d3, d4, d5, d6] (r.toList ++ []) M1 Q)) : px_T 0 309 22 [some (.ref 56), some (.int x1), some (.int x2), d3, d4, d5, d6] [.int s0] M Q := by
  by_cases c1 : s0 = 0
  · exact ⟨3, ⟨fun _ => ⟨trivial, h1 c1⟩, fun q => absurd c1 q⟩⟩
  · obtain ⟨n, h⟩ := px_T_cl (k := 309) (pc := 29) (y := 175) (st := [.long 1, .long 0, .long x2.toInt64]) rfl (h2 c1)
    exact ⟨n + 6, ⟨fun q => absurd q c1, fun _ => h⟩⟩
theorem sg_309_32 {x1 : Int32} {x2 : Int32} {d3 : Option Value} {d4 : Option Value} {d5 : Option Value} {d6 : Option Value} {s0 : Int32} {M : px_Mem} {Q : px_Po} (h1 : (s0 = 0) → Q (some (.int (-1000))) M) (h2 : (¬ (s0 = 0)) → px_T 0 309 41 [some (.ref 56), some (.int x1), some (.int x2), some (.int 0), d4, d5, d6] [] M Q) : px_T 0 309 32 [some (.ref 56), some (.int x1), some (.int x2), d3, d4, d5, d6] [.int s0] M Q := by
  by_cases c1 : s0 = 0
  · exact ⟨3, ⟨fun q => absurd c1 q, fun _ => ⟨trivial, h1 c1⟩⟩⟩
  · obtain ⟨n, h⟩ := h2 c1
    exact ⟨n + 3, ⟨fun _ => h, fun q => absurd q c1⟩⟩
theorem sg_309_41 {x1 : Int32} {x2 : Int32} {x3 : Int32} {d4 : Option Value} {d5 : Option Value} {d6 : Option Value} {M : px_Mem} {Q : px_Po} (h1 : ((64 : Int32) ≤ x3) → px_T 0 309 80 [some (.ref 56), some (.int x1), some (.int x2), some (.long 0), none, some (.int (x1 - 2)), some (.int 0)] [] M Q) (h2 : (¬ ((64 : Int32) ≤ x3)) → px_T 0 304 0 [some (.ref 56), some (.int ((x3 <<< (1 &&& 31)) ||| 32640)), none] [] M (fun r M1 => px_T 0 309 63 [some (.ref 56), some (.int x1), some (.int x2), some (.int x3), d4, d5, d6] (r.toList ++ [.int x3, .ref 87]) M1 Q)) : px_T 0 309 41 [some (.ref 56), some (.int x1), some (.int x2), some (.int x3), d4, d5, d6] [] M Q := by
  by_cases c1 : (64 : Int32) ≤ x3
  · obtain ⟨n, h⟩ := h1 c1
    exact ⟨n + 11, ⟨fun _ => h, fun q => absurd c1 q⟩⟩
  · obtain ⟨n, h⟩ := px_T_cl (k := 309) (pc := 60) (y := 304) (st := [.int ((x3 <<< (1 &&& 31)) ||| 32640), .ref 56, .int x3, .ref 87]) rfl (h2 c1)
    exact ⟨n + 13, ⟨fun q => absurd q c1, fun _ => ⟨rfl, ⟨rfl, h⟩⟩⟩⟩
theorem sg_309_80 {d1 : Option Value} {x2 : Int32} {x3 : Int64} {x5 : Int32} {x6 : Int32} {M : px_Mem} {Q : px_Po} (h1 : ((64 : Int32) ≤ x6) → px_T 0 306 0 [some (.int 6), none, none] [] M (fun r M1 => px_T 0 309 155 [some (.ref 56), d1, some (.int x2), some (.long x3), none, some (.int x5), some (.int x6)] (r.toList ++ [.long x3]) M1 Q)) (h2 : (¬ ((64 : Int32) ≤ x6)) → px_T 0 177 0 [some (.int x6), some (.int x5)] [] M (fun r M1 => px_T 0 309 94 [some (.ref 56), d1, some (.int x2), some (.long x3), none, some (.int x5), some (.int x6)] (r.toList ++ []) M1 Q)) : px_T 0 309 80 [some (.ref 56), d1, some (.int x2), some (.long x3), none, some (.int x5), some (.int x6)] [] M Q := by
  by_cases c1 : (64 : Int32) ≤ x6
  · obtain ⟨n, h⟩ := px_T_cl (k := 309) (pc := 152) (y := 306) (st := [.int 6, .long x3]) rfl (h1 c1)
    exact ⟨n + 6, ⟨fun _ => h, fun q => absurd c1 q⟩⟩
  · obtain ⟨n, h⟩ := px_T_cl (k := 309) (pc := 91) (y := 177) (st := [.int x5, .int x6]) rfl (h2 c1)
    exact ⟨n + 6, ⟨fun q => absurd q c1, fun _ => h⟩⟩
theorem sg_309_63 {x1 : Int32} {x2 : Int32} {x3 : Int32} {d4 : Option Value} {d5 : Option Value} {d6 : Option Value} {s0 : Int32} {s1 : Int32} {M : px_Mem} {Q : px_Po} (h1 : vp_in s1 64) (h2 : px_T 0 309 41 [some (.ref 56), some (.int x1), some (.int x2), some (.int (x3 + 1)), d4, d5, d6] [] (px_wI M 87 s1.toNatClampNeg s0) Q) : px_T 0 309 63 [some (.ref 56), some (.int x1), some (.int x2), some (.int x3), d4, d5, d6] [.int s0, .int s1, .ref 87] M Q := by
  obtain ⟨n, h⟩ := h2
  exact ⟨n + 3, ⟨⟨64, rfl, h1⟩, h⟩⟩
theorem sg_309_155 {d0 : Option Value} {d1 : Option Value} {x2 : Int32} {d3 : Option Value} {d5 : Option Value} {d6 : Option Value} {s0 : Int32} {s1 : Int64} {M : px_Mem} {Q : px_Po} (h1 : px_T 0 308 0 [some (.long s1), none, some (.long s0.toInt64), none, some (.int x2)] [] M (fun r M1 => px_T 0 309 160 [d0, d1, some (.int x2), d3, none, d5, d6] (r.toList ++ []) M1 Q)) : px_T 0 309 155 [d0, d1, some (.int x2), d3, none, d5, d6] [.int s0, .long s1] M Q := by
  obtain ⟨n, h⟩ := px_T_cl (k := 309) (pc := 157) (y := 308) (st := [.int x2, .long s0.toInt64, .long s1]) rfl (h1)
  exact ⟨n + 3, h⟩
theorem sg_309_94 {d1 : Option Value} {x2 : Int32} {x3 : Int64} {x5 : Int32} {x6 : Int32} {s0 : Int32} {M : px_Mem} {Q : px_Po} (h1 : (s0 = 0) → px_T 0 176 0 [some (.int x6), none, none] [] M (fun r M1 => px_T 0 309 103 [some (.ref 56), d1, some (.int x2), some (.long x3), none, some (.int x5), some (.int x6)] (r.toList ++ [.long x3]) M1 Q)) (h2 : (¬ (s0 = 0)) → px_T 0 309 80 [some (.ref 56), d1, some (.int x2), some (.long x3), none, some (.int x5), some (.int (x6 + 1))] [] M Q) : px_T 0 309 94 [some (.ref 56), d1, some (.int x2), some (.long x3), none, some (.int x5), some (.int x6)] [.int s0] M Q := by
  by_cases c1 : s0 = 0
  · obtain ⟨n, h⟩ := px_T_cl (k := 309) (pc := 100) (y := 176) (st := [.int x6, .long x3]) rfl (h1 c1)
    exact ⟨n + 4, ⟨fun q => absurd c1 q, fun _ => h⟩⟩
  · obtain ⟨n, h⟩ := h2 c1
    exact ⟨n + 3, ⟨fun _ => h, fun q => absurd q c1⟩⟩
theorem sg_309_160 {d0 : Option Value} {d1 : Option Value} {d2 : Option Value} {d3 : Option Value} {d4 : Option Value} {d5 : Option Value} {d6 : Option Value} {s0 : Int64} {M : px_Mem} {Q : px_Po} (h1 : Q (some (.int s0.toInt32)) M) : px_T 0 309 160 [d0, d1, d2, d3, d4, d5, d6] [.long s0] M Q := by
  exact ⟨2, ⟨trivial, h1⟩⟩
theorem sg_309_103 {d1 : Option Value} {x2 : Int32} {d3 : Option Value} {x5 : Int32} {x6 : Int32} {s0 : Int32} {s1 : Int64} {M : px_Mem} {Q : px_Po} (h1 : px_T 0 306 0 [some (.int s0), none, none] [] M (fun r M1 => px_T 0 309 106 [some (.ref 56), d1, some (.int x2), d3, none, some (.int x5), some (.int x6)] (r.toList ++ [.long s1]) M1 Q)) : px_T 0 309 103 [some (.ref 56), d1, some (.int x2), d3, none, some (.int x5), some (.int x6)] [.int s0, .long s1] M Q := by
  obtain ⟨n, h⟩ := px_T_cl (k := 309) (pc := 103) (y := 306) (st := [.int s0, .long s1]) rfl (h1)
  exact ⟨n + 1, h⟩
theorem sg_309_106 {d1 : Option Value} {x2 : Int32} {d3 : Option Value} {d4 : Option Value} {x5 : Int32} {x6 : Int32} {s0 : Int32} {s1 : Int64} {M : px_Mem} {Q : px_Po} (h1 : px_T 0 176 0 [some (.int x6), none, none] [] M (fun r M1 => px_T 0 309 113 [some (.ref 56), d1, some (.int x2), d3, d4, some (.int x5), some (.int x6)] (r.toList ++ [.int 5, .long s0.toInt64, .long s1]) M1 Q)) : px_T 0 309 106 [some (.ref 56), d1, some (.int x2), d3, d4, some (.int x5), some (.int x6)] [.int s0, .long s1] M Q := by
  obtain ⟨n, h⟩ := px_T_cl (k := 309) (pc := 110) (y := 176) (st := [.int x6, .int 5, .long s0.toInt64, .long s1]) rfl (h1)
  exact ⟨n + 4, h⟩
theorem sg_309_113 {d1 : Option Value} {x2 : Int32} {d3 : Option Value} {d4 : Option Value} {x5 : Int32} {x6 : Int32} {s0 : Int32} {s1 : Int32} {s2 : Int64} {s3 : Int64} {M : px_Mem} {Q : px_Po} (h1 : px_T 0 306 0 [some (.int (s1 - s0)), none, none] [] M (fun r M1 => px_T 0 309 117 [some (.ref 56), d1, some (.int x2), d3, d4, some (.int x5), some (.int x6)] (r.toList ++ [.long s2, .long s3]) M1 Q)) : px_T 0 309 113 [some (.ref 56), d1, some (.int x2), d3, d4, some (.int x5), some (.int x6)] [.int s0, .int s1, .long s2, .long s3] M Q := by
  obtain ⟨n, h⟩ := px_T_cl (k := 309) (pc := 114) (y := 306) (st := [.int (s1 - s0), .long s2, .long s3]) rfl (h1)
  exact ⟨n + 2, h⟩
theorem sg_309_117 {d1 : Option Value} {x2 : Int32} {d3 : Option Value} {d4 : Option Value} {x5 : Int32} {x6 : Int32} {s0 : Int32} {s1 : Int64} {s2 : Int64} {M : px_Mem} {Q : px_Po} (h1 : vp_in (x6 ||| (1 <<< (x5 &&& 31))) 64) (h2 : vp_in x6 64) (h3 : px_T 0 309 80 [some (.ref 56), d1, some (.int x2), some (.long (s2 + ((s1 * s0.toInt64) * (((M.1 87 ((x6 ||| (1 <<< (x5 &&& 31))).toNatClampNeg)) - (M.1 87 x6.toNatClampNeg)).toInt64)))), none, some (.int x5), some (.int (x6 + 1))] [] M Q) : px_T 0 309 117 [some (.ref 56), d1, some (.int x2), d3, d4, some (.int x5), some (.int x6)] [.int s0, .long s1, .long s2] M Q := by
  obtain ⟨n, h⟩ := h3
  exact ⟨n + 21, ⟨rfl, ⟨Or.inl ⟨0, 64, Or.inl rfl, rfl, h1⟩, ⟨rfl, ⟨Or.inl ⟨0, 64, Or.inl rfl, rfl, h2⟩, h⟩⟩⟩⟩⟩
theorem sg_310_0 {x1 : Int32} {x2 : Int32} {x3 : Int32} {x4 : Int32} {x5 : Int32} {M : px_Mem} {Q : px_Po} (h1 : px_T 0 209 0 [some (.ref 56), none] [] M (fun r M1 => px_T 0 310 4 [some (.ref 56), some (.int x1), some (.int x2), some (.int x3), some (.int x4), some (.int x5), none, none, none] (r.toList ++ []) M1 Q)) : px_T 0 310 0 [some (.ref 56), some (.int x1), some (.int x2), some (.int x3), some (.int x4), some (.int x5), none, none, none] [] M Q := by
  obtain ⟨n, h⟩ := px_T_cl (k := 310) (pc := 1) (y := 209) (st := [.ref 56]) rfl (h1)
  exact ⟨n + 2, ⟨rfl, h⟩⟩
theorem sg_310_4 {x1 : Int32} {x2 : Int32} {x3 : Int32} {x4 : Int32} {x5 : Int32} {d6 : Option Value} {d7 : Option Value} {d8 : Option Value} {M : px_Mem} {Q : px_Po} (h1 : (x3 = 1) → px_T 0 208 0 [some (.ref 56), some (.int 2), some (.int x1), some (.int 0), some (.int 0)] [] M (fun r M1 => px_T 0 310 17 [some (.ref 56), some (.int x1), some (.int x2), some (.int x3), some (.int x4), some (.int x5), d6, d7, d8] (r.toList ++ []) M1 Q)) (h2 : (¬ (x3 = 1)) → (x4 = 1) → px_T 0 208 0 [some (.ref 56), some (.int 2), some (.int x2), some (.int 0), some (.int 0)] [] M (fun r M1 => px_T 0 310 37 [some (.ref 56), some (.int x1), some (.int x2), some (.int x3), some (.int x4), some (.int x5), some (.int (M.1 56 20)), d7, d8] (r.toList ++ []) M1 Q)) (h3 : (¬ (x3 = 1)) → (¬ (x4 = 1)) → px_T 0 223 0 [some (.ref 56), none] [] M (fun r M1 => px_T 0 310 41 [some (.ref 56), some (.int x1), some (.int x2), some (.int x3), some (.int x4), some (.int x5), some (.int (M.1 56 20)), d7, d8] (r.toList ++ []) M1 Q)) : px_T 0 310 4 [some (.ref 56), some (.int x1), some (.int x2), some (.int x3), some (.int x4), some (.int x5), d6, d7, d8] [] M Q := by
  by_cases c1 : x3 = 1
  · obtain ⟨n, h⟩ := px_T_cl (k := 310) (pc := 14) (y := 208) (st := [.int 0, .int 0, .int x1, .int 2, .ref 56]) rfl (h1 c1)
    exact ⟨n + 9, ⟨fun q => absurd c1 q, fun _ => ⟨rfl, h⟩⟩⟩
  · by_cases c2 : x4 = 1
    · obtain ⟨n, h⟩ := px_T_cl (k := 310) (pc := 34) (y := 208) (st := [.int 0, .int 0, .int x2, .int 2, .ref 56]) rfl (h2 c1 c2)
      exact ⟨n + 15, ⟨fun _ => ⟨rfl, ⟨fun q => absurd c2 q, fun _ => ⟨rfl, h⟩⟩⟩, fun q => absurd q c1⟩⟩
    · obtain ⟨n, h⟩ := px_T_cl (k := 310) (pc := 38) (y := 223) (st := [.ref 56]) rfl (h3 c1 c2)
      exact ⟨n + 11, ⟨fun _ => ⟨rfl, ⟨fun _ => ⟨rfl, h⟩, fun q => absurd q c2⟩⟩, fun q => absurd q c1⟩⟩
theorem sg_310_17 {x1 : Int32} {x2 : Int32} {x3 : Int32} {x4 : Int32} {x5 : Int32} {d6 : Option Value} {d7 : Option Value} {d8 : Option Value} {M : px_Mem} {Q : px_Po} (h1 : (x4 = 1) → px_T 0 208 0 [some (.ref 56), some (.int 2), some (.int x2), some (.int 0), some (.int 0)] [] M (fun r M1 => px_T 0 310 37 [some (.ref 56), some (.int x1), some (.int x2), some (.int x3), some (.int x4), some (.int x5), some (.int (M.1 56 20)), d7, d8] (r.toList ++ []) M1 Q)) (h2 : (¬ (x4 = 1)) → px_T 0 223 0 [some (.ref 56), none] [] M (fun r M1 => px_T 0 310 41 [some (.ref 56), some (.int x1), some (.int x2), some (.int x3), some (.int x4), some (.int x5), some (.int (M.1 56 20)), d7, d8] (r.toList ++ []) M1 Q)) : px_T 0 310 17 [some (.ref 56), some (.int x1), some (.int x2), some (.int x3), some (.int x4), some (.int x5), d6, d7, d8] [] M Q := by
  by_cases c1 : x4 = 1
  · obtain ⟨n, h⟩ := px_T_cl (k := 310) (pc := 34) (y := 208) (st := [.int 0, .int 0, .int x2, .int 2, .ref 56]) rfl (h1 c1)
    exact ⟨n + 12, ⟨rfl, ⟨fun q => absurd c1 q, fun _ => ⟨rfl, h⟩⟩⟩⟩
  · obtain ⟨n, h⟩ := px_T_cl (k := 310) (pc := 38) (y := 223) (st := [.ref 56]) rfl (h2 c1)
    exact ⟨n + 8, ⟨rfl, ⟨fun _ => ⟨rfl, h⟩, fun q => absurd q c1⟩⟩⟩
theorem sg_310_37 {x1 : Int32} {x2 : Int32} {x3 : Int32} {x4 : Int32} {x5 : Int32} {x6 : Int32} {d7 : Option Value} {d8 : Option Value} {M : px_Mem} {Q : px_Po} (h1 : px_T 0 223 0 [some (.ref 56), none] [] M (fun r M1 => px_T 0 310 41 [some (.ref 56), some (.int x1), some (.int x2), some (.int x3), some (.int x4), some (.int x5), some (.int x6), d7, d8] (r.toList ++ []) M1 Q)) : px_T 0 310 37 [some (.ref 56), some (.int x1), some (.int x2), some (.int x3), some (.int x4), some (.int x5), some (.int x6), d7, d8] [] M Q := by
  obtain ⟨n, h⟩ := px_T_cl (k := 310) (pc := 38) (y := 223) (st := [.ref 56]) rfl (h1)
  exact ⟨n + 2, ⟨rfl, h⟩⟩
theorem sg_310_41 {x1 : Int32} {x2 : Int32} {x3 : Int32} {x4 : Int32} {x5 : Int32} {x6 : Int32} {d7 : Option Value} {d8 : Option Value} {M : px_Mem} {Q : px_Po} (h1 : (x5 = 0) → (x3 = 1) → (x5 = 0) → px_T 0 181 0 [some (.ref 56)] [] M (fun r M1 => px_T 0 310 72 [some (.ref 56), some (.int x1), some (.int x2), some (.int x3), some (.int x4), some (.int x5), some (.int x6), some (.int 1), d8] (r.toList ++ []) M1 Q)) (h2 : (x5 = 0) → (x3 = 1) → (¬ (x5 = 0)) → vp_in x6 72) (h3 : (x5 = 0) → (x3 = 1) → (¬ (x5 = 0)) → ((M.1 73 x6.toNatClampNeg) = 0) → Q (some (.int 2)) M) (h4 : (x5 = 0) → (x3 = 1) → (¬ (x5 = 0)) → (¬ ((M.1 73 x6.toNatClampNeg) = 0)) → Q (some (.int 0)) M) (h5 : (x5 = 0) → (¬ (x3 = 1)) → (x5 = 0) → px_T 0 181 0 [some (.ref 56)] [] M (fun r M1 => px_T 0 310 72 [some (.ref 56), some (.int x1), some (.int x2), some (.int x3), some (.int x4), some (.int x5), some (.int x6), some (.int 0), d8] (r.toList ++ []) M1 Q)) (h6 : (x5 = 0) → (¬ (x3 = 1)) → (¬ (x5 = 0)) → (x5 = 0) → px_T 0 237 0 [some (.ref 56), some (.int x1), some (.int (M.1 56 20)), none, none] [] M (fun r M1 => px_T 0 310 119 [some (.ref 56), some (.int x1), some (.int x2), some (.int x3), some (.int x4), some (.int x5), some (.int x6), some (.int 0), some (.int x6)] (r.toList ++ [.int 3]) M1 Q)) (h7 : (x5 = 0) → (¬ (x3 = 1)) → (¬ (x5 = 0)) → (¬ (x5 = 0)) → px_T 0 237 0 [some (.ref 56), some (.int x2), some (.int (M.1 56 20)), none, none] [] M (fun r M1 => px_T 0 310 119 [some (.ref 56), some (.int x1), some (.int x2), some (.int x3), some (.int x4), some (.int x5), some (.int x6), some (.int 0), some (.int x6)] (r.toList ++ [.int 3]) M1 Q)) (h8 : (¬ (x5 = 0)) → (x4 = 1) → (x5 = 0) → px_T 0 181 0 [some (.ref 56)] [] M (fun r M1 => px_T 0 310 72 [some (.ref 56), some (.int x1), some (.int x2), some (.int x3), some (.int x4), some (.int x5), some (.int x6), some (.int 1), d8] (r.toList ++ []) M1 Q)) (h9 : (¬ (x5 = 0)) → (x4 = 1) → (¬ (x5 = 0)) → vp_in x6 72) (h10 : (¬ (x5 = 0)) → (x4 = 1) → (¬ (x5 = 0)) → ((M.1 73 x6.toNatClampNeg) = 0) → Q (some (.int 2)) M) (h11 : (¬ (x5 = 0)) → (x4 = 1) → (¬ (x5 = 0)) → (¬ ((M.1 73 x6.toNatClampNeg) = 0)) → Q (some (.int 0)) M) (h12 : (¬ (x5 = 0)) → (¬ (x4 = 1)) → (x5 = 0) → px_T 0 181 0 [some (.ref 56)] [] M (fun r M1 => px_T 0 310 72 [some (.ref 56), some (.int x1), some (.int x2), some (.int x3), some (.int x4), some (.int x5), some (.int x6), some (.int 0), d8] (r.toList ++ []) M1 Q)) (h13 : (¬ (x5 = 0)) → (¬ (x4 = 1)) → (¬ (x5 = 0)) → (x5 = 0) → px_T 0 237 0 [some (.ref 56), some (.int x1), some (.int (M.1 56 20)), none, none] [] M (fun r M1 => px_T 0 310 119 [some (.ref 56), some (.int x1), some (.int x2), some (.int x3), some (.int x4), some (.int x5), some (.int x6), some (.int 0), some (.int x6)] (r.toList ++ [.int 3]) M1 Q)) (h14 : (¬ (x5 = 0)) → (¬ (x4 = 1)) → (¬ (x5 = 0)) → (¬ (x5 = 0)) → px_T 0 237 0 [some (.ref 56), some (.int x2), some (.int (M.1 56 20)), none, none] [] M (fun r M1 => px_T 0 310 119 [some (.ref 56), some (.int x1), some (.int x2), some (.int x3), some (.int x4), some (.int x5), some (.int x6), some (.int 0), some (.int x6)] (r.toList ++ [.int 3]) M1 Q)) : px_T 0 310 41 [some (.ref 56), some (.int x1), some (.int x2), some (.int x3), some (.int x4), some (.int x5), some (.int x6), d7, d8] [] M Q := by
  by_cases c1 : x5 = 0
  · by_cases c2 : x3 = 1
    · by_cases c3 : x5 = 0
      · obtain ⟨n, h⟩ := px_T_cl (k := 310) (pc := 69) (y := 181) (st := [.ref 56]) rfl (h1 c1 c2 c3)
        exact ⟨n + 13, ⟨fun q => absurd c1 q, fun _ => ⟨fun q => absurd c2 q, fun _ => ⟨fun q => absurd c3 q, fun _ => ⟨rfl, h⟩⟩⟩⟩⟩
      · by_cases c4 : (M.1 73 x6.toNatClampNeg) = 0
        · exact ⟨23, ⟨fun q => absurd c1 q, fun _ => ⟨fun q => absurd c2 q, fun _ => ⟨fun _ => ⟨fun q => absurd q (by decide), fun _ => ⟨rfl, ⟨Or.inl ⟨0, 72, Or.inl rfl, rfl, (h2 c1 c2 c3)⟩, ⟨fun q => absurd c4 q, fun _ => ⟨trivial, h3 c1 c2 c3 c4⟩⟩⟩⟩⟩, fun q => absurd q c3⟩⟩⟩⟩
        · exact ⟨22, ⟨fun q => absurd c1 q, fun _ => ⟨fun q => absurd c2 q, fun _ => ⟨fun _ => ⟨fun q => absurd q (by decide), fun _ => ⟨rfl, ⟨Or.inl ⟨0, 72, Or.inl rfl, rfl, (h2 c1 c2 c3)⟩, ⟨fun _ => ⟨trivial, h4 c1 c2 c3 c4⟩, fun q => absurd q c4⟩⟩⟩⟩, fun q => absurd q c3⟩⟩⟩⟩
    · by_cases c5 : x5 = 0
      · obtain ⟨n, h⟩ := px_T_cl (k := 310) (pc := 69) (y := 181) (st := [.ref 56]) rfl (h5 c1 c2 c5)
        exact ⟨n + 12, ⟨fun q => absurd c1 q, fun _ => ⟨fun _ => ⟨fun q => absurd c5 q, fun _ => ⟨rfl, h⟩⟩, fun q => absurd q c2⟩⟩⟩
      · by_cases c6 : x5 = 0
        · obtain ⟨n, h⟩ := px_T_cl (k := 310) (pc := 116) (y := 237) (st := [.int (M.1 56 20), .int x1, .ref 56, .int 3]) rfl (h6 c1 c2 c5 c6)
          exact ⟨n + 23, ⟨fun q => absurd c1 q, fun _ => ⟨fun _ => ⟨fun _ => ⟨fun _ => ⟨fun q => absurd c6 q, fun _ => ⟨rfl, ⟨rfl, h⟩⟩⟩, fun q => absurd (by decide) q⟩, fun q => absurd q c5⟩, fun q => absurd q c2⟩⟩⟩
        · obtain ⟨n, h⟩ := px_T_cl (k := 310) (pc := 116) (y := 237) (st := [.int (M.1 56 20), .int x2, .ref 56, .int 3]) rfl (h7 c1 c2 c5 c6)
          exact ⟨n + 22, ⟨fun q => absurd c1 q, fun _ => ⟨fun _ => ⟨fun _ => ⟨fun _ => ⟨fun _ => ⟨rfl, ⟨rfl, h⟩⟩, fun q => absurd q c6⟩, fun q => absurd (by decide) q⟩, fun q => absurd q c5⟩, fun q => absurd q c2⟩⟩⟩
  · by_cases c7 : x4 = 1
    · by_cases c8 : x5 = 0
      · obtain ⟨n, h⟩ := px_T_cl (k := 310) (pc := 69) (y := 181) (st := [.ref 56]) rfl (h8 c1 c7 c8)
        exact ⟨n + 12, ⟨fun _ => ⟨fun q => absurd c7 q, fun _ => ⟨fun q => absurd c8 q, fun _ => ⟨rfl, h⟩⟩⟩, fun q => absurd q c1⟩⟩
      · by_cases c9 : (M.1 73 x6.toNatClampNeg) = 0
        · exact ⟨22, ⟨fun _ => ⟨fun q => absurd c7 q, fun _ => ⟨fun _ => ⟨fun q => absurd q (by decide), fun _ => ⟨rfl, ⟨Or.inl ⟨0, 72, Or.inl rfl, rfl, (h9 c1 c7 c8)⟩, ⟨fun q => absurd c9 q, fun _ => ⟨trivial, h10 c1 c7 c8 c9⟩⟩⟩⟩⟩, fun q => absurd q c8⟩⟩, fun q => absurd q c1⟩⟩
        · exact ⟨21, ⟨fun _ => ⟨fun q => absurd c7 q, fun _ => ⟨fun _ => ⟨fun q => absurd q (by decide), fun _ => ⟨rfl, ⟨Or.inl ⟨0, 72, Or.inl rfl, rfl, (h9 c1 c7 c8)⟩, ⟨fun _ => ⟨trivial, h11 c1 c7 c8 c9⟩, fun q => absurd q c9⟩⟩⟩⟩, fun q => absurd q c8⟩⟩, fun q => absurd q c1⟩⟩
    · by_cases c10 : x5 = 0
      · obtain ⟨n, h⟩ := px_T_cl (k := 310) (pc := 69) (y := 181) (st := [.ref 56]) rfl (h12 c1 c7 c10)
        exact ⟨n + 11, ⟨fun _ => ⟨fun _ => ⟨fun q => absurd c10 q, fun _ => ⟨rfl, h⟩⟩, fun q => absurd q c7⟩, fun q => absurd q c1⟩⟩
      · by_cases c11 : x5 = 0
        · obtain ⟨n, h⟩ := px_T_cl (k := 310) (pc := 116) (y := 237) (st := [.int (M.1 56 20), .int x1, .ref 56, .int 3]) rfl (h13 c1 c7 c10 c11)
          exact ⟨n + 22, ⟨fun _ => ⟨fun _ => ⟨fun _ => ⟨fun _ => ⟨fun q => absurd c11 q, fun _ => ⟨rfl, ⟨rfl, h⟩⟩⟩, fun q => absurd (by decide) q⟩, fun q => absurd q c10⟩, fun q => absurd q c7⟩, fun q => absurd q c1⟩⟩
        · obtain ⟨n, h⟩ := px_T_cl (k := 310) (pc := 116) (y := 237) (st := [.int (M.1 56 20), .int x2, .ref 56, .int 3]) rfl (h14 c1 c7 c10 c11)
          exact ⟨n + 21, ⟨fun _ => ⟨fun _ => ⟨fun _ => ⟨fun _ => ⟨fun _ => ⟨rfl, ⟨rfl, h⟩⟩, fun q => absurd q c11⟩, fun q => absurd (by decide) q⟩, fun q => absurd q c10⟩, fun q => absurd q c7⟩, fun q => absurd q c1⟩⟩
theorem sg_310_72 {x1 : Int32} {x2 : Int32} {d3 : Option Value} {d4 : Option Value} {x5 : Int32} {d6 : Option Value} {x7 : Int32} {d8 : Option Value} {s0 : Int32} {M : px_Mem} {Q : px_Po} (h1 : (x7 = 0) → (x5 = 0) → px_T 0 237 0 [some (.ref 56), some (.int x1), some (.int (M.1 56 20)), none, none] [] M (fun r M1 => px_T 0 310 119 [some (.ref 56), some (.int x1), some (.int x2), d3, d4, some (.int x5), d6, some (.int x7), some (.int s0)] (r.toList ++ [.int 3]) M1 Q)) (h2 : (x7 = 0) → (¬ (x5 = 0)) → px_T 0 237 0 [some (.ref 56), some (.int x2), some (.int (M.1 56 20)), none, none] [] M (fun r M1 => px_T 0 310 119 [some (.ref 56), some (.int x1), some (.int x2), d3, d4, some (.int x5), d6, some (.int x7), some (.int s0)] (r.toList ++ [.int 3]) M1 Q)) (h3 : (¬ (x7 = 0)) → vp_in s0 72) (h4 : (¬ (x7 = 0)) → ((M.1 73 s0.toNatClampNeg) = 0) → Q (some (.int 2)) M) (h5 : (¬ (x7 = 0)) → (¬ ((M.1 73 s0.toNatClampNeg) = 0)) → Q (some (.int 0)) M) : px_T 0 310 72 [some (.ref 56), some (.int x1), some (.int x2), d3, d4, some (.int x5), d6, some (.int x7), d8] [.int s0] M Q := by
  by_cases c1 : x7 = 0
  · by_cases c2 : x5 = 0
    · obtain ⟨n, h⟩ := px_T_cl (k := 310) (pc := 116) (y := 237) (st := [.int (M.1 56 20), .int x1, .ref 56, .int 3]) rfl (h1 c1 c2)
      exact ⟨n + 13, ⟨fun _ => ⟨fun q => absurd c2 q, fun _ => ⟨rfl, ⟨rfl, h⟩⟩⟩, fun q => absurd c1 q⟩⟩
    · obtain ⟨n, h⟩ := px_T_cl (k := 310) (pc := 116) (y := 237) (st := [.int (M.1 56 20), .int x2, .ref 56, .int 3]) rfl (h2 c1 c2)
      exact ⟨n + 12, ⟨fun _ => ⟨fun _ => ⟨rfl, ⟨rfl, h⟩⟩, fun q => absurd q c2⟩, fun q => absurd c1 q⟩⟩
  · by_cases c3 : (M.1 73 s0.toNatClampNeg) = 0
    · exact ⟨12, ⟨fun q => absurd q c1, fun _ => ⟨rfl, ⟨Or.inl ⟨0, 72, Or.inl rfl, rfl, (h3 c1)⟩, ⟨fun q => absurd c3 q, fun _ => ⟨trivial, h4 c1 c3⟩⟩⟩⟩⟩⟩
    · exact ⟨11, ⟨fun q => absurd q c1, fun _ => ⟨rfl, ⟨Or.inl ⟨0, 72, Or.inl rfl, rfl, (h3 c1)⟩, ⟨fun _ => ⟨trivial, h5 c1 c3⟩, fun q => absurd q c3⟩⟩⟩⟩⟩
theorem sg_310_119 {d0 : Option Value} {d1 : Option Value} {d2 : Option Value} {d3 : Option Value} {d4 : Option Value} {d5 : Option Value} {d6 : Option Value} {d7 : Option Value} {d8 : Option Value} {s0 : Int32} {s1 : Int32} {M : px_Mem} {Q : px_Po} (h1 : Q (some (.int (s1 * s0))) M) : px_T 0 310 119 [d0, d1, d2, d3, d4, d5, d6, d7, d8] [.int s0, .int s1] M Q := by
  exact ⟨2, ⟨trivial, h1⟩⟩
theorem sg_311_0 {x1 : Int32} {x2 : Int32} {M : px_Mem} {Q : px_Po} (h1 : px_T 0 180 0 [some (.ref 56)] [] M (fun r M1 => px_T 0 311 4 [some (.ref 56), some (.int x1), some (.int x2)] (r.toList ++ []) M1 Q)) : px_T 0 311 0 [some (.ref 56), some (.int x1), some (.int x2)] [] M Q := by
  obtain ⟨n, h⟩ := px_T_cl (k := 311) (pc := 1) (y := 180) (st := [.ref 56]) rfl (h1)
  exact ⟨n + 2, ⟨rfl, h⟩⟩
theorem sg_311_4 {d0 : Option Value} {x1 : Int32} {x2 : Int32} {s0 : Int32} {M : px_Mem} {Q : px_Po} (h1 : (s0 = 0) → Q (some (.int 0)) M) (h2 : (¬ (s0 = 0)) → px_T 0 175 0 [some (.long x1.toInt64), none, some (.long 2), none, some (.long 15), none] [] M (fun r M1 => px_T 0 311 18 [d0, some (.int x1), some (.int x2)] (r.toList ++ []) M1 Q)) : px_T 0 311 4 [d0, some (.int x1), some (.int x2)] [.int s0] M Q := by
  by_cases c1 : s0 = 0
  · exact ⟨3, ⟨fun _ => ⟨Or.inl rfl, h1 c1⟩, fun q => absurd c1 q⟩⟩
  · obtain ⟨n, h⟩ := px_T_cl (k := 311) (pc := 15) (y := 175) (st := [.long 15, .long 2, .long x1.toInt64]) rfl (h2 c1)
    exact ⟨n + 6, ⟨fun q => absurd q c1, fun _ => h⟩⟩
theorem sg_311_18 {d0 : Option Value} {x1 : Int32} {x2 : Int32} {s0 : Int32} {M : px_Mem} {Q : px_Po} (h1 : (s0 = 0) → Q (some (.int 0)) M) (h2 : (¬ (s0 = 0)) → px_T 0 175 0 [some (.long x2.toInt64), none, some (.long 2), none, some (.long 15), none] [] M (fun r M1 => px_T 0 311 32 [d0, some (.int x1), some (.int x2)] (r.toList ++ []) M1 Q)) : px_T 0 311 18 [d0, some (.int x1), some (.int x2)] [.int s0] M Q := by
  by_cases c1 : s0 = 0
  · exact ⟨3, ⟨fun _ => ⟨Or.inl rfl, h1 c1⟩, fun q => absurd c1 q⟩⟩
  · obtain ⟨n, h⟩ := px_T_cl (k := 311) (pc := 29) (y := 175) (st := [.long 15, .long 2, .long x2.toInt64]) rfl (h2 c1)
    exact ⟨n + 6, ⟨fun q => absurd q c1, fun _ => h⟩⟩
theorem sg_311_32 {d0 : Option Value} {x1 : Int32} {x2 : Int32} {s0 : Int32} {M : px_Mem} {Q : px_Po} (h1 : (s0 = 0) → Q (some (.int 0)) M) (h2 : (¬ (s0 = 0)) → (x1 = x2) → Q (some (.int 0)) M) (h3 : (¬ (s0 = 0)) → (¬ (x1 = x2)) → Q (some (.int 1)) M) : px_T 0 311 32 [d0, some (.int x1), some (.int x2)] [.int s0] M Q := by
  by_cases c1 : s0 = 0
  · exact ⟨3, ⟨fun _ => ⟨Or.inl rfl, h1 c1⟩, fun q => absurd c1 q⟩⟩
  · by_cases c2 : x1 = x2
    · exact ⟨6, ⟨fun q => absurd q c1, fun _ => ⟨fun _ => ⟨Or.inl rfl, h2 c1 c2⟩, fun q => absurd c2 q⟩⟩⟩
    · exact ⟨7, ⟨fun q => absurd q c1, fun _ => ⟨fun q => absurd q c2, fun _ => ⟨Or.inr rfl, h3 c1 c2⟩⟩⟩⟩
theorem sg_312_0 {x1 : Int32} {x2 : Int32} {M : px_Mem} {Q : px_Po} (h1 : px_T 0 311 0 [some (.ref 56), some (.int x1), some (.int x2)] [] M (fun r M1 => px_T 0 312 6 [some (.ref 56), some (.int x1), some (.int x2), none, none, none, none, none] (r.toList ++ []) M1 Q)) : px_T 0 312 0 [some (.ref 56), some (.int x1), some (.int x2), none, none, none, none, none] [] M Q := by
  obtain ⟨n, h⟩ := px_T_cl (k := 312) (pc := 3) (y := 311) (st := [.int x2, .int x1, .ref 56]) rfl (h1)
  exact ⟨n + 4, ⟨rfl, h⟩⟩
theorem sg_312_6 {x1 : Int32} {x2 : Int32} {d3 : Option Value} {d4 : Option Value} {d5 : Option Value} {d6 : Option Value} {d7 : Option Value} {s0 : Int32} {M : px_Mem} {Q : px_Po} (h1 : (s0 = 0) → Q (some (.int (-2))) M) (h2 : (¬ (s0 = 0)) → px_T 0 312 17 [some (.ref 56), some (.int x1), some (.int x2), some (.int 0), some (.int 0), d5, d6, d7] [] M Q) : px_T 0 312 6 [some (.ref 56), some (.int x1), some (.int x2), d3, d4, d5, d6, d7] [.int s0] M Q := by
  by_cases c1 : s0 = 0
  · exact ⟨3, ⟨fun q => absurd c1 q, fun _ => ⟨trivial, h1 c1⟩⟩⟩
  · obtain ⟨n, h⟩ := h2 c1
    exact ⟨n + 5, ⟨fun _ => h, fun q => absurd q c1⟩⟩
theorem sg_312_17 {x1 : Int32} {x2 : Int32} {x3 : Int32} {x4 : Int32} {d5 : Option Value} {d6 : Option Value} {d7 : Option Value} {M : px_Mem} {Q : px_Po} (h1 : ((4 : Int32) ≤ x4) → Q (some (.int x3)) M) (h2 : (¬ ((4 : Int32) ≤ x4)) → px_T 0 310 0 [some (.ref 56), some (.int x1), some (.int x2), some (.int (x4 &&& 1)), some (.int (x4 >>> (1 &&& 31))), some (.int 0), none, none, none] [] M (fun r M1 => px_T 0 312 46 [some (.ref 56), some (.int x1), some (.int x2), some (.int x3), some (.int x4), some (.int (x4 &&& 1)), some (.int (x4 >>> (1 &&& 31))), d7] (r.toList ++ []) M1 Q)) : px_T 0 312 17 [some (.ref 56), some (.int x1), some (.int x2), some (.int x3), some (.int x4), d5, d6, d7] [] M Q := by
  by_cases c1 : (4 : Int32) ≤ x4
  · exact ⟨5, ⟨fun _ => ⟨trivial, h1 c1⟩, fun q => absurd c1 q⟩⟩
  · obtain ⟨n, h⟩ := px_T_cl (k := 312) (pc := 43) (y := 310) (st := [.int 0, .int (x4 >>> (1 &&& 31)), .int (x4 &&& 1), .int x2, .int x1, .ref 56]) rfl (h2 c1)
    exact ⟨n + 18, ⟨fun q => absurd q c1, fun _ => ⟨rfl, h⟩⟩⟩
theorem sg_312_46 {x1 : Int32} {x2 : Int32} {x3 : Int32} {x4 : Int32} {x5 : Int32} {x6 : Int32} {d7 : Option Value} {s0 : Int32} {M : px_Mem} {Q : px_Po} (h1 : px_T 0 310 0 [some (.ref 56), some (.int x1), some (.int x2), some (.int (1 - x5)), some (.int x6), some (.int 0), none, none, none] [] M (fun r M1 => px_T 0 312 59 [some (.ref 56), some (.int x1), some (.int x2), some (.int x3), some (.int x4), some (.int x5), some (.int x6), d7] (r.toList ++ [.int s0]) M1 Q)) : px_T 0 312 46 [some (.ref 56), some (.int x1), some (.int x2), some (.int x3), some (.int x4), some (.int x5), some (.int x6), d7] [.int s0] M Q := by
  obtain ⟨n, h⟩ := px_T_cl (k := 312) (pc := 56) (y := 310) (st := [.int 0, .int x6, .int (1 - x5), .int x2, .int x1, .ref 56, .int s0]) rfl (h1)
  exact ⟨n + 9, ⟨rfl, h⟩⟩
theorem sg_312_59 {x1 : Int32} {x2 : Int32} {x3 : Int32} {x4 : Int32} {x5 : Int32} {x6 : Int32} {d7 : Option Value} {s0 : Int32} {s1 : Int32} {M : px_Mem} {Q : px_Po} (h1 : (s1 < s0) → px_T 0 312 17 [some (.ref 56), some (.int x1), some (.int x2), some (.int (x3 ||| 0)), some (.int (x4 + 1)), some (.int x5), some (.int x6), some (.int 0)] [] M Q) (h2 : (¬ (s1 < s0)) → px_T 0 310 0 [some (.ref 56), some (.int x1), some (.int x2), some (.int x5), some (.int x6), some (.int 1), none, none, none] [] M (fun r M1 => px_T 0 312 73 [some (.ref 56), some (.int x1), some (.int x2), some (.int x3), some (.int x4), some (.int x5), some (.int x6), d7] (r.toList ++ []) M1 Q)) : px_T 0 312 59 [some (.ref 56), some (.int x1), some (.int x2), some (.int x3), some (.int x4), some (.int x5), some (.int x6), d7] [.int s0, .int s1] M Q := by
  by_cases c1 : s1 < s0
  · obtain ⟨n, h⟩ := h1 c1
    exact ⟨n + 11, ⟨fun _ => ⟨fun _ => h, fun q => absurd (by decide) q⟩, fun q => absurd c1 q⟩⟩
  · obtain ⟨n, h⟩ := px_T_cl (k := 312) (pc := 70) (y := 310) (st := [.int 1, .int x6, .int x5, .int x2, .int x1, .ref 56]) rfl (h2 c1)
    exact ⟨n + 8, ⟨fun q => absurd q c1, fun _ => ⟨rfl, h⟩⟩⟩
theorem sg_312_73 {x1 : Int32} {x2 : Int32} {x3 : Int32} {x4 : Int32} {x5 : Int32} {x6 : Int32} {d7 : Option Value} {s0 : Int32} {M : px_Mem} {Q : px_Po} (h1 : px_T 0 310 0 [some (.ref 56), some (.int x1), some (.int x2), some (.int x5), some (.int (1 - x6)), some (.int 1), none, none, none] [] M (fun r M1 => px_T 0 312 86 [some (.ref 56), some (.int x1), some (.int x2), some (.int x3), some (.int x4), some (.int x5), some (.int x6), d7] (r.toList ++ [.int s0]) M1 Q)) : px_T 0 312 73 [some (.ref 56), some (.int x1), some (.int x2), some (.int x3), some (.int x4), some (.int x5), some (.int x6), d7] [.int s0] M Q := by
  obtain ⟨n, h⟩ := px_T_cl (k := 312) (pc := 83) (y := 310) (st := [.int 1, .int (1 - x6), .int x5, .int x2, .int x1, .ref 56, .int s0]) rfl (h1)
  exact ⟨n + 9, ⟨rfl, h⟩⟩
