theorem sg_222_0 {M : px_Mem} {Q : px_Po} (h1 : px_T 0 222 17 [some (.ref 56), some (.int 0)] [] (px_wI (px_wI (px_wI M 56 22 2) 56 23 2) 56 27 0) Q) : px_T 0 222 0 [some (.ref 56), none] [] M Q := by
  obtain ⟨n, h⟩ := h1
  exact ⟨n + 11, ⟨rfl, ⟨rfl, ⟨rfl, h⟩⟩⟩⟩
theorem sg_222_17 {x1 : Int32} {M : px_Mem} {Q : px_Po} (h1 : ((16 : Int32) ≤ x1) → px_T 0 222 52 [some (.ref 56), some (.int 0)] [] (px_wI M 69 1 1) Q) (h2 : (¬ ((16 : Int32) ≤ x1)) → vp_in x1 16) (h3 : (¬ ((16 : Int32) ≤ x1)) → px_T 0 222 17 [some (.ref 56), some (.int (x1 + 1))] [] (px_wI (px_wI M 68 x1.toNatClampNeg 0) 69 x1.toNatClampNeg 0) Q) : px_T 0 222 17 [some (.ref 56), some (.int x1)] [] M Q := by
  by_cases c1 : (16 : Int32) ≤ x1
  · obtain ⟨n, h⟩ := h1 c1
    exact ⟨n + 10, ⟨fun _ => ⟨rfl, ⟨⟨16, rfl, (vp_in_nI (n := 1) (by decide) (by decide))⟩, h⟩⟩, fun q => absurd c1 q⟩⟩
  · obtain ⟨n, h⟩ := h3 c1
    exact ⟨n + 15, ⟨fun q => absurd q c1, fun _ => ⟨rfl, ⟨⟨16, rfl, (h2 c1)⟩, ⟨rfl, ⟨⟨16, rfl, (h2 c1)⟩, h⟩⟩⟩⟩⟩⟩
theorem sg_222_52 {x1 : Int32} {M : px_Mem} {Q : px_Po} (h1 : ((128 : Int32) ≤ x1) → px_T 0 221 0 [some (.ref 56), some (.int 0), none] [] M (fun r M1 => px_T 0 222 77 [some (.ref 56), some (.int x1)] (r.toList ++ []) M1 Q)) (h2 : (¬ ((128 : Int32) ≤ x1)) → vp_in x1 128) (h3 : (¬ ((128 : Int32) ≤ x1)) → px_T 0 222 52 [some (.ref 56), some (.int (x1 + 1))] [] (px_wI M 70 x1.toNatClampNeg (-1)) Q) : px_T 0 222 52 [some (.ref 56), some (.int x1)] [] M Q := by
  by_cases c1 : (128 : Int32) ≤ x1
  · obtain ⟨n, h⟩ := px_T_cl (k := 222) (pc := 74) (y := 221) (st := [.int 0, .ref 56]) rfl (h1 c1)
    exact ⟨n + 6, ⟨fun _ => ⟨rfl, h⟩, fun q => absurd c1 q⟩⟩
  · obtain ⟨n, h⟩ := h3 c1
    exact ⟨n + 10, ⟨fun q => absurd q c1, fun _ => ⟨rfl, ⟨⟨128, rfl, (h2 c1)⟩, h⟩⟩⟩⟩
theorem sg_222_77 {d0 : Option Value} {d1 : Option Value} {M : px_Mem} {Q : px_Po} (h1 : Q none M) : px_T 0 222 77 [d0, d1] [] M Q := by
  exact ⟨1, ⟨rfl, h1⟩⟩
theorem sg_223_0 {M : px_Mem} {Q : px_Po} (h1 : px_T 0 222 0 [some (.ref 56), none] [] M (fun r M1 => px_T 0 223 4 [some (.ref 56), none] (r.toList ++ []) M1 Q)) : px_T 0 223 0 [some (.ref 56), none] [] M Q := by
  obtain ⟨n, h⟩ := px_T_cl (k := 223) (pc := 1) (y := 222) (st := [.ref 56]) rfl (h1)
  exact ⟨n + 2, ⟨rfl, h⟩⟩
theorem sg_223_4 {d1 : Option Value} {M : px_Mem} {Q : px_Po} (h1 : px_T 0 223 6 [some (.ref 56), some (.int 0)] [] M Q) : px_T 0 223 4 [some (.ref 56), d1] [] M Q := by
  obtain ⟨n, h⟩ := h1
  exact ⟨n + 2, h⟩
theorem sg_223_6 {x1 : Int32} {M : px_Mem} {Q : px_Po} (h1 : ((M.1 56 20) ≤ x1) → Q none M) (h2 : (¬ ((M.1 56 20) ≤ x1)) → vp_in x1 72) (h3 : (¬ ((M.1 56 20) ≤ x1)) → ((M.1 67 x1.toNatClampNeg) = 0) → px_T 0 214 0 [some (.ref 56), some (.int x1), none, none, none] [] M (fun r M1 => px_T 0 223 37 [some (.ref 56), some (.int x1)] (r.toList ++ [.int x1, .ref 73]) M1 Q)) (h4 : (¬ ((M.1 56 20) ≤ x1)) → (¬ ((M.1 67 x1.toNatClampNeg) = 0)) → px_T 0 223 38 [some (.ref 56), some (.int x1)] [] (px_wI M 73 x1.toNatClampNeg (-1)) Q) : px_T 0 223 6 [some (.ref 56), some (.int x1)] [] M Q := by
  by_cases c1 : (M.1 56 20) ≤ x1
  · exact ⟨5, ⟨rfl, ⟨fun _ => ⟨rfl, h1 c1⟩, fun q => absurd c1 q⟩⟩⟩
  · by_cases c2 : (M.1 67 x1.toNatClampNeg) = 0
    · obtain ⟨n, h⟩ := px_T_cl (k := 223) (pc := 34) (y := 214) (st := [.int x1, .ref 56, .int x1, .ref 73]) rfl (h3 c1 c2)
      exact ⟨n + 15, ⟨rfl, ⟨fun q => absurd q c1, fun _ => ⟨rfl, ⟨rfl, ⟨⟨3, 72, Or.inr (Or.inl rfl), rfl, (h2 c1)⟩, ⟨fun _ => ⟨rfl, h⟩, fun q => absurd c2 q⟩⟩⟩⟩⟩⟩⟩
    · obtain ⟨n, h⟩ := h4 c1 c2
      exact ⟨n + 15, ⟨rfl, ⟨fun q => absurd q c1, fun _ => ⟨rfl, ⟨rfl, ⟨⟨3, 72, Or.inr (Or.inl rfl), rfl, (h2 c1)⟩, ⟨fun q => absurd q c2, fun _ => ⟨⟨72, rfl, (h2 c1)⟩, h⟩⟩⟩⟩⟩⟩⟩⟩
theorem sg_223_37 {x1 : Int32} {s0 : Int32} {s1 : Int32} {M : px_Mem} {Q : px_Po} (h1 : vp_in s1 72) (h2 : px_T 0 223 38 [some (.ref 56), some (.int x1)] [] (px_wI M 73 s1.toNatClampNeg s0) Q) : px_T 0 223 37 [some (.ref 56), some (.int x1)] [.int s0, .int s1, .ref 73] M Q := by
  obtain ⟨n, h⟩ := h2
  exact ⟨n + 1, ⟨⟨72, rfl, h1⟩, h⟩⟩
theorem sg_223_38 {x1 : Int32} {M : px_Mem} {Q : px_Po} (h1 : vp_in x1 72) (h2 : px_T 0 223 45 [some (.ref 56), some (.int x1)] [] (px_wI M 74 x1.toNatClampNeg 0) Q) : px_T 0 223 38 [some (.ref 56), some (.int x1)] [] M Q := by
  obtain ⟨n, h⟩ := h2
  exact ⟨n + 5, ⟨rfl, ⟨⟨72, rfl, h1⟩, h⟩⟩⟩
theorem sg_223_45 {x1 : Int32} {M : px_Mem} {Q : px_Po} (h1 : vp_in x1 72) (h2 : ((M.1 73 x1.toNatClampNeg) = 0) → px_T 0 220 0 [some (.ref 56), some (.int x1), none, none, none] [] M (fun r M1 => px_T 0 223 59 [some (.ref 56), some (.int x1)] (r.toList ++ []) M1 Q)) (h3 : (¬ ((M.1 73 x1.toNatClampNeg) = 0)) → px_T 0 221 0 [some (.ref 56), some (.int (x1 + 1)), none] [] M (fun r M1 => px_T 0 223 140 [some (.ref 56), some (.int x1)] (r.toList ++ []) M1 Q)) : px_T 0 223 45 [some (.ref 56), some (.int x1)] [] M Q := by
  by_cases c1 : (M.1 73 x1.toNatClampNeg) = 0
  · obtain ⟨n, h⟩ := px_T_cl (k := 223) (pc := 56) (y := 220) (st := [.int x1, .ref 56]) rfl (h2 c1)
    exact ⟨n + 8, ⟨rfl, ⟨Or.inl ⟨0, 72, Or.inl rfl, rfl, h1⟩, ⟨fun q => absurd c1 q, fun _ => ⟨rfl, h⟩⟩⟩⟩⟩
  · obtain ⟨n, h⟩ := px_T_cl (k := 223) (pc := 137) (y := 221) (st := [.int (x1 + 1), .ref 56]) rfl (h3 c1)
    exact ⟨n + 10, ⟨rfl, ⟨Or.inl ⟨0, 72, Or.inl rfl, rfl, h1⟩, ⟨fun _ => ⟨rfl, h⟩, fun q => absurd q c1⟩⟩⟩⟩
theorem sg_223_59 {x1 : Int32} {M : px_Mem} {Q : px_Po} (h1 : vp_in x1 72) (h2 : ((M.1 63 x1.toNatClampNeg) = 0) → px_T 0 223 89 [some (.ref 56), some (.int x1)] [] (px_wI M 75 x1.toNatClampNeg (M.1 65 x1.toNatClampNeg)) Q) (h3 : (¬ ((M.1 63 x1.toNatClampNeg) = 0)) → px_T 0 223 89 [some (.ref 56), some (.int x1)] [] (px_wI M 75 x1.toNatClampNeg (M.1 64 x1.toNatClampNeg)) Q) : px_T 0 223 59 [some (.ref 56), some (.int x1)] [] M Q := by
  by_cases c1 : (M.1 63 x1.toNatClampNeg) = 0
  · obtain ⟨n, h⟩ := h2 c1
    exact ⟨n + 14, ⟨rfl, ⟨rfl, ⟨Or.inl ⟨0, 72, Or.inl rfl, rfl, h1⟩, ⟨fun q => absurd c1 q, fun _ => ⟨rfl, ⟨Or.inl ⟨0, 72, Or.inl rfl, rfl, h1⟩, ⟨⟨72, rfl, h1⟩, h⟩⟩⟩⟩⟩⟩⟩⟩
  · obtain ⟨n, h⟩ := h3 c1
    exact ⟨n + 13, ⟨rfl, ⟨rfl, ⟨Or.inl ⟨0, 72, Or.inl rfl, rfl, h1⟩, ⟨fun _ => ⟨rfl, ⟨Or.inl ⟨0, 72, Or.inl rfl, rfl, h1⟩, ⟨⟨72, rfl, h1⟩, h⟩⟩⟩, fun q => absurd q c1⟩⟩⟩⟩⟩
theorem sg_223_140 {x1 : Int32} {M : px_Mem} {Q : px_Po} (h1 : px_T 0 223 6 [some (.ref 56), some (.int (x1 + 1))] [] M Q) : px_T 0 223 140 [some (.ref 56), some (.int x1)] [] M Q := by
  obtain ⟨n, h⟩ := h1
  exact ⟨n + 2, h⟩
theorem sg_223_89 {x1 : Int32} {M : px_Mem} {Q : px_Po} (h1 : vp_in x1 72) (h2 : ((M.1 63 x1.toNatClampNeg) = 0) → px_T 0 221 0 [some (.ref 56), some (.int (x1 + 1)), none] [] (px_wI M 74 x1.toNatClampNeg 255) (fun r M1 => px_T 0 223 140 [some (.ref 56), some (.int x1)] (r.toList ++ []) M1 Q)) (h3 : (¬ ((M.1 63 x1.toNatClampNeg) = 0)) → ((M.1 63 x1.toNatClampNeg) = 9) → px_T 0 221 0 [some (.ref 56), some (.int (x1 + 1)), none] [] (px_wI M 74 x1.toNatClampNeg (1 <<< ((M.1 65 x1.toNatClampNeg) &&& 31))) (fun r M1 => px_T 0 223 140 [some (.ref 56), some (.int x1)] (r.toList ++ []) M1 Q)) (h4 : (¬ ((M.1 63 x1.toNatClampNeg) = 0)) → (¬ ((M.1 63 x1.toNatClampNeg) = 9)) → px_T 0 221 0 [some (.ref 56), some (.int (x1 + 1)), none] [] (px_wI M 74 x1.toNatClampNeg 0) (fun r M1 => px_T 0 223 140 [some (.ref 56), some (.int x1)] (r.toList ++ []) M1 Q)) : px_T 0 223 89 [some (.ref 56), some (.int x1)] [] M Q := by
  by_cases c1 : (M.1 63 x1.toNatClampNeg) = 0
  · obtain ⟨n, h⟩ := px_T_cl (k := 223) (pc := 137) (y := 221) (st := [.int (x1 + 1), .ref 56]) rfl (h2 c1)
    exact ⟨n + 16, ⟨rfl, ⟨rfl, ⟨Or.inl ⟨0, 72, Or.inl rfl, rfl, h1⟩, ⟨fun q => absurd c1 q, fun _ => ⟨⟨72, rfl, h1⟩, ⟨rfl, h⟩⟩⟩⟩⟩⟩⟩
  · by_cases c2 : (M.1 63 x1.toNatClampNeg) = 9
    · obtain ⟨n, h⟩ := px_T_cl (k := 223) (pc := 137) (y := 221) (st := [.int (x1 + 1), .ref 56]) rfl (h3 c1 c2)
      exact ⟨n + 27, ⟨rfl, ⟨rfl, ⟨Or.inl ⟨0, 72, Or.inl rfl, rfl, h1⟩, ⟨fun _ => ⟨rfl, ⟨Or.inl ⟨0, 72, Or.inl rfl, rfl, h1⟩, ⟨fun q => absurd c2 q, fun _ => ⟨rfl, ⟨Or.inl ⟨0, 72, Or.inl rfl, rfl, h1⟩, ⟨⟨72, rfl, h1⟩, ⟨rfl, h⟩⟩⟩⟩⟩⟩⟩, fun q => absurd q c1⟩⟩⟩⟩⟩
    · obtain ⟨n, h⟩ := px_T_cl (k := 223) (pc := 137) (y := 221) (st := [.int (x1 + 1), .ref 56]) rfl (h4 c1 c2)
      exact ⟨n + 21, ⟨rfl, ⟨rfl, ⟨Or.inl ⟨0, 72, Or.inl rfl, rfl, h1⟩, ⟨fun _ => ⟨rfl, ⟨Or.inl ⟨0, 72, Or.inl rfl, rfl, h1⟩, ⟨fun _ => ⟨⟨72, rfl, h1⟩, ⟨rfl, h⟩⟩, fun q => absurd q c2⟩⟩⟩, fun q => absurd q c1⟩⟩⟩⟩⟩
theorem sg_224_0 {M : px_Mem} {Q : px_Po} (h1 : px_T 0 209 0 [some (.ref 56), none] [] M (fun r M1 => px_T 0 224 4 [some (.ref 56)] (r.toList ++ []) M1 Q)) : px_T 0 224 0 [some (.ref 56)] [] M Q := by
  obtain ⟨n, h⟩ := px_T_cl (k := 224) (pc := 1) (y := 209) (st := [.ref 56]) rfl (h1)
  exact ⟨n + 2, ⟨rfl, h⟩⟩
theorem sg_224_4 {M : px_Mem} {Q : px_Po} (h1 : px_T 0 223 0 [some (.ref 56), none] [] M (fun r M1 => px_T 0 224 8 [some (.ref 56)] (r.toList ++ []) M1 Q)) : px_T 0 224 4 [some (.ref 56)] [] M Q := by
  obtain ⟨n, h⟩ := px_T_cl (k := 224) (pc := 5) (y := 223) (st := [.ref 56]) rfl (h1)
  exact ⟨n + 2, ⟨rfl, h⟩⟩
theorem sg_224_8 {M : px_Mem} {Q : px_Po} (h1 : px_T 0 180 0 [some (.ref 56)] [] M (fun r M1 => px_T 0 224 12 [some (.ref 56)] (r.toList ++ []) M1 Q)) : px_T 0 224 8 [some (.ref 56)] [] M Q := by
  obtain ⟨n, h⟩ := px_T_cl (k := 224) (pc := 9) (y := 180) (st := [.ref 56]) rfl (h1)
  exact ⟨n + 2, ⟨rfl, h⟩⟩
theorem sg_224_12 {d0 : Option Value} {s0 : Int32} {M : px_Mem} {Q : px_Po} (h1 : (s0 = 0 ∨ s0 = 1)) (h2 : Q (some (.int s0)) M) : px_T 0 224 12 [d0] [.int s0] M Q := by
  exact ⟨1, ⟨h1, h2⟩⟩
theorem sg_225_0 {x1 : Int32} {M : px_Mem} {Q : px_Po} (h1 : px_T 0 224 0 [some (.ref 56)] [] M (fun r M1 => px_T 0 225 4 [some (.ref 56), some (.int x1)] (r.toList ++ []) M1 Q)) : px_T 0 225 0 [some (.ref 56), some (.int x1)] [] M Q := by
  obtain ⟨n, h⟩ := px_T_cl (k := 225) (pc := 1) (y := 224) (st := [.ref 56]) rfl (h1)
  exact ⟨n + 2, ⟨rfl, h⟩⟩
theorem sg_225_4 {x1 : Int32} {s0 : Int32} {M : px_Mem} {Q : px_Po} (h1 : px_T 0 183 0 [some (.ref 56), some (.long x1.toInt64), none] [] M (fun r M1 => px_T 0 225 11 [some (.ref 56), some (.int x1)] (r.toList ++ []) M1 Q)) : px_T 0 225 4 [some (.ref 56), some (.int x1)] [.int s0] M Q := by
  obtain ⟨n, h⟩ := px_T_cl (k := 225) (pc := 8) (y := 183) (st := [.long x1.toInt64, .ref 56]) rfl (h1)
  exact ⟨n + 5, ⟨rfl, h⟩⟩
theorem sg_225_11 {d0 : Option Value} {d1 : Option Value} {s0 : Int32} {M : px_Mem} {Q : px_Po} (h1 : (s0 = 0 ∨ s0 = 1)) (h2 : Q (some (.int s0)) M) : px_T 0 225 11 [d0, d1] [.int s0] M Q := by
  exact ⟨1, ⟨h1, h2⟩⟩
theorem sg_226_0 {x1 : Int32} {x2 : Int32} {M : px_Mem} {Q : px_Po} (h1 : px_T 0 225 0 [some (.ref 56), some (.int x2)] [] M (fun r M1 => px_T 0 226 5 [some (.ref 56), some (.int x1), some (.int x2)] (r.toList ++ []) M1 Q)) : px_T 0 226 0 [some (.ref 56), some (.int x1), some (.int x2)] [] M Q := by
  obtain ⟨n, h⟩ := px_T_cl (k := 226) (pc := 2) (y := 225) (st := [.int x2, .ref 56]) rfl (h1)
  exact ⟨n + 3, ⟨rfl, h⟩⟩
theorem sg_226_5 {d0 : Option Value} {x1 : Int32} {d2 : Option Value} {s0 : Int32} {M : px_Mem} {Q : px_Po} (h1 : (s0 = 0) → Q (some (.int 0)) M) (h2 : (¬ (s0 = 0)) → px_T 0 184 0 [some (.long x1.toInt64), none] [] M (fun r M1 => px_T 0 226 13 [d0, some (.int x1), d2] (r.toList ++ []) M1 Q)) : px_T 0 226 5 [d0, some (.int x1), d2] [.int s0] M Q := by
  by_cases c1 : s0 = 0
  · exact ⟨3, ⟨fun _ => ⟨Or.inl rfl, h1 c1⟩, fun q => absurd c1 q⟩⟩
  · obtain ⟨n, h⟩ := px_T_cl (k := 226) (pc := 10) (y := 184) (st := [.long x1.toInt64]) rfl (h2 c1)
    exact ⟨n + 4, ⟨fun q => absurd q c1, fun _ => h⟩⟩
theorem sg_226_13 {d0 : Option Value} {d1 : Option Value} {d2 : Option Value} {s0 : Int32} {M : px_Mem} {Q : px_Po} (h1 : (s0 = 0) → Q (some (.int 0)) M) (h2 : (¬ (s0 = 0)) → Q (some (.int 1)) M) : px_T 0 226 13 [d0, d1, d2] [.int s0] M Q := by
  by_cases c1 : s0 = 0
  · exact ⟨3, ⟨fun _ => ⟨Or.inl rfl, h1 c1⟩, fun q => absurd c1 q⟩⟩
  · exact ⟨4, ⟨fun q => absurd q c1, fun _ => ⟨Or.inr rfl, h2 c1⟩⟩⟩
theorem sg_227_0 {x1 : Int32} {x2 : Int32} {M : px_Mem} {Q : px_Po} (h1 : vp_in x2 73) (h2 : px_T 0 177 0 [some (.int (M.1 76 x2.toNatClampNeg)), some (.int x1)] [] M (fun r M1 => px_T 0 227 10 [some (.ref 56), some (.int x1), some (.int x2)] (r.toList ++ []) M1 Q)) : px_T 0 227 0 [some (.ref 56), some (.int x1), some (.int x2)] [] M Q := by
  obtain ⟨n, h⟩ := px_T_cl (k := 227) (pc := 7) (y := 177) (st := [.int x1, .int (M.1 76 x2.toNatClampNeg)]) rfl (h2)
  exact ⟨n + 6, ⟨rfl, ⟨Or.inl ⟨0, 73, Or.inl rfl, rfl, h1⟩, h⟩⟩⟩
theorem sg_227_10 {d0 : Option Value} {d1 : Option Value} {d2 : Option Value} {s0 : Int32} {M : px_Mem} {Q : px_Po} (h1 : (s0 = 1) → Q (some (.int 1)) M) (h2 : (¬ (s0 = 1)) → Q (some (.int 0)) M) : px_T 0 227 10 [d0, d1, d2] [.int s0] M Q := by
  by_cases c1 : s0 = 1
  · exact ⟨5, ⟨fun q => absurd c1 q, fun _ => ⟨Or.inr rfl, h1 c1⟩⟩⟩
  · exact ⟨4, ⟨fun _ => ⟨Or.inl rfl, h2 c1⟩, fun q => absurd q c1⟩⟩
theorem sg_228_0 {x1 : Int32} {x2 : Int32} {M : px_Mem} {Q : px_Po} (h1 : px_T 0 227 0 [some (.ref 56), some (.int x1), some (.int x2)] [] M (fun r M1 => px_T 0 228 6 [some (.ref 56), some (.int x1), some (.int x2)] (r.toList ++ []) M1 Q)) : px_T 0 228 0 [some (.ref 56), some (.int x1), some (.int x2)] [] M Q := by
  obtain ⟨n, h⟩ := px_T_cl (k := 228) (pc := 3) (y := 227) (st := [.int x2, .int x1, .ref 56]) rfl (h1)
  exact ⟨n + 4, ⟨rfl, h⟩⟩
theorem sg_228_6 {x1 : Int32} {x2 : Int32} {s0 : Int32} {M : px_Mem} {Q : px_Po} (h1 : (s0 = 0) → Q (some (.int (-1))) M) (h2 : (¬ (s0 = 0)) → vp_in ((16 * x2) + x1) 1168) (h3 : (¬ (s0 = 0)) → Q (some (.int (M.1 78 (((16 * x2) + x1).toNatClampNeg)))) M) : px_T 0 228 6 [some (.ref 56), some (.int x1), some (.int x2)] [.int s0] M Q := by
  by_cases c1 : s0 = 0
  · exact ⟨3, ⟨fun _ => ⟨trivial, h1 c1⟩, fun q => absurd c1 q⟩⟩
  · exact ⟨11, ⟨fun q => absurd q c1, fun _ => ⟨rfl, ⟨Or.inl ⟨0, 1168, Or.inl rfl, rfl, (h2 c1)⟩, ⟨trivial, h3 c1⟩⟩⟩⟩⟩
theorem sg_229_0 {x1 : Int32} {x2 : Int32} {M : px_Mem} {Q : px_Po} (h1 : px_T 0 227 0 [some (.ref 56), some (.int x1), some (.int x2)] [] M (fun r M1 => px_T 0 229 6 [some (.ref 56), some (.int x1), some (.int x2)] (r.toList ++ []) M1 Q)) : px_T 0 229 0 [some (.ref 56), some (.int x1), some (.int x2)] [] M Q := by
  obtain ⟨n, h⟩ := px_T_cl (k := 229) (pc := 3) (y := 227) (st := [.int x2, .int x1, .ref 56]) rfl (h1)
  exact ⟨n + 4, ⟨rfl, h⟩⟩
theorem sg_229_6 {x1 : Int32} {x2 : Int32} {s0 : Int32} {M : px_Mem} {Q : px_Po} (h1 : (s0 = 0) → Q (some (.int (-1))) M) (h2 : (¬ (s0 = 0)) → vp_in ((16 * x2) + x1) 1168) (h3 : (¬ (s0 = 0)) → Q (some (.int (M.1 79 (((16 * x2) + x1).toNatClampNeg)))) M) : px_T 0 229 6 [some (.ref 56), some (.int x1), some (.int x2)] [.int s0] M Q := by
  by_cases c1 : s0 = 0
  · exact ⟨3, ⟨fun _ => ⟨trivial, h1 c1⟩, fun q => absurd c1 q⟩⟩
  · exact ⟨11, ⟨fun q => absurd q c1, fun _ => ⟨rfl, ⟨Or.inl ⟨0, 1168, Or.inl rfl, rfl, (h2 c1)⟩, ⟨trivial, h3 c1⟩⟩⟩⟩⟩
theorem sg_230_0 {x1 : Int32} {M : px_Mem} {Q : px_Po} (h1 : vp_in x1 73) (h2 : px_T 0 176 0 [some (.int (M.1 76 x1.toNatClampNeg)), none, none] [] M (fun r M1 => px_T 0 230 9 [some (.ref 56), some (.int x1)] (r.toList ++ []) M1 Q)) : px_T 0 230 0 [some (.ref 56), some (.int x1)] [] M Q := by
  obtain ⟨n, h⟩ := px_T_cl (k := 230) (pc := 6) (y := 176) (st := [.int (M.1 76 x1.toNatClampNeg)]) rfl (h2)
  exact ⟨n + 5, ⟨rfl, ⟨Or.inl ⟨0, 73, Or.inl rfl, rfl, h1⟩, h⟩⟩⟩
theorem sg_230_9 {d0 : Option Value} {d1 : Option Value} {s0 : Int32} {M : px_Mem} {Q : px_Po} (h1 : Q (some (.int s0)) M) : px_T 0 230 9 [d0, d1] [.int s0] M Q := by
  exact ⟨1, ⟨trivial, h1⟩⟩
theorem sg_231_0 {x1 : Int32} {M : px_Mem} {Q : px_Po} (h1 : px_T 0 224 0 [some (.ref 56)] [] M (fun r M1 => px_T 0 231 4 [some (.ref 56), some (.int x1)] (r.toList ++ []) M1 Q)) : px_T 0 231 0 [some (.ref 56), some (.int x1)] [] M Q := by
  obtain ⟨n, h⟩ := px_T_cl (k := 231) (pc := 1) (y := 224) (st := [.ref 56]) rfl (h1)
  exact ⟨n + 2, ⟨rfl, h⟩⟩
theorem sg_231_4 {x1 : Int32} {s0 : Int32} {M : px_Mem} {Q : px_Po} (h1 : px_T 0 182 0 [some (.ref 56), some (.int x1)] [] M (fun r M1 => px_T 0 231 10 [some (.ref 56), some (.int x1)] (r.toList ++ []) M1 Q)) : px_T 0 231 4 [some (.ref 56), some (.int x1)] [.int s0] M Q := by
  obtain ⟨n, h⟩ := px_T_cl (k := 231) (pc := 7) (y := 182) (st := [.int x1, .ref 56]) rfl (h1)
  exact ⟨n + 4, ⟨rfl, h⟩⟩
theorem sg_231_10 {x1 : Int32} {s0 : Int32} {M : px_Mem} {Q : px_Po} (h1 : (s0 = 0) → Q (some (.int (-2))) M) (h2 : (¬ (s0 = 0)) → vp_in x1 72) (h3 : (¬ (s0 = 0)) → Q (some (.int (M.1 73 x1.toNatClampNeg))) M) : px_T 0 231 10 [some (.ref 56), some (.int x1)] [.int s0] M Q := by
  by_cases c1 : s0 = 0
  · exact ⟨3, ⟨fun _ => ⟨trivial, h1 c1⟩, fun q => absurd c1 q⟩⟩
  · exact ⟨7, ⟨fun q => absurd q c1, fun _ => ⟨rfl, ⟨Or.inl ⟨0, 72, Or.inl rfl, rfl, (h2 c1)⟩, ⟨trivial, h3 c1⟩⟩⟩⟩⟩
theorem sg_232_0 {x1 : Int32} {M : px_Mem} {Q : px_Po} (h1 : px_T 0 225 0 [some (.ref 56), some (.int x1)] [] M (fun r M1 => px_T 0 232 5 [some (.ref 56), some (.int x1), none, none] (r.toList ++ []) M1 Q)) : px_T 0 232 0 [some (.ref 56), some (.int x1), none, none] [] M Q := by
  obtain ⟨n, h⟩ := px_T_cl (k := 232) (pc := 2) (y := 225) (st := [.int x1, .ref 56]) rfl (h1)
  exact ⟨n + 3, ⟨rfl, h⟩⟩
theorem sg_232_5 {x1 : Int32} {d2 : Option Value} {d3 : Option Value} {s0 : Int32} {M : px_Mem} {Q : px_Po} (h1 : (s0 = 0) → Q (some (.int (-2))) M) (h2 : (¬ (s0 = 0)) → px_T 0 232 15 [some (.ref 56), some (.int x1), some (.int 0), some (.int 0)] [] M Q) : px_T 0 232 5 [some (.ref 56), some (.int x1), d2, d3] [.int s0] M Q := by
  by_cases c1 : s0 = 0
  · exact ⟨3, ⟨fun q => absurd c1 q, fun _ => ⟨trivial, h1 c1⟩⟩⟩
  · obtain ⟨n, h⟩ := h2 c1
    exact ⟨n + 5, ⟨fun _ => h, fun q => absurd q c1⟩⟩
theorem sg_232_15 {x1 : Int32} {x2 : Int32} {x3 : Int32} {M : px_Mem} {Q : px_Po} (h1 : (x1 ≤ x3) → Q (some (.int x2)) M) (h2 : (¬ (x1 ≤ x3)) → vp_in x3 72) (h3 : (¬ (x1 ≤ x3)) → ((M.1 73 x3.toNatClampNeg) ≤ 0) → px_T 0 232 15 [some (.ref 56), some (.int x1), some (.int (x2 + 0)), some (.int (x3 + 1))] [] M Q) (h4 : (¬ (x1 ≤ x3)) → (¬ ((M.1 73 x3.toNatClampNeg) ≤ 0)) → px_T 0 232 15 [some (.ref 56), some (.int x1), some (.int (x2 + 1)), some (.int (x3 + 1))] [] M Q) : px_T 0 232 15 [some (.ref 56), some (.int x1), some (.int x2), some (.int x3)] [] M Q := by
  by_cases c1 : x1 ≤ x3
  · exact ⟨5, ⟨fun _ => ⟨trivial, h1 c1⟩, fun q => absurd c1 q⟩⟩
  · by_cases c2 : (M.1 73 x3.toNatClampNeg) ≤ 0
    · obtain ⟨n, h⟩ := h3 c1 c2
      exact ⟨n + 14, ⟨fun q => absurd q c1, fun _ => ⟨rfl, ⟨Or.inl ⟨0, 72, Or.inl rfl, rfl, (h2 c1)⟩, ⟨fun _ => h, fun q => absurd c2 q⟩⟩⟩⟩⟩
    · obtain ⟨n, h⟩ := h4 c1 c2
      exact ⟨n + 15, ⟨fun q => absurd q c1, fun _ => ⟨rfl, ⟨Or.inl ⟨0, 72, Or.inl rfl, rfl, (h2 c1)⟩, ⟨fun q => absurd q c2, fun _ => h⟩⟩⟩⟩⟩
theorem sg_233_0 {x1 : Int32} {M : px_Mem} {Q : px_Po} (h1 : px_T 0 225 0 [some (.ref 56), some (.int x1)] [] M (fun r M1 => px_T 0 233 5 [some (.ref 56), some (.int x1)] (r.toList ++ []) M1 Q)) : px_T 0 233 0 [some (.ref 56), some (.int x1)] [] M Q := by
  obtain ⟨n, h⟩ := px_T_cl (k := 233) (pc := 2) (y := 225) (st := [.int x1, .ref 56]) rfl (h1)
  exact ⟨n + 3, ⟨rfl, h⟩⟩
theorem sg_233_5 {x1 : Int32} {s0 : Int32} {M : px_Mem} {Q : px_Po} (h1 : (s0 = 0) → Q (some (.int (-2))) M) (h2 : (¬ (s0 = 0)) → vp_in x1 73) (h3 : (¬ (s0 = 0)) → Q (some (.int ((M.1 76 x1.toNatClampNeg) >>> (1 &&& 31)))) M) : px_T 0 233 5 [some (.ref 56), some (.int x1)] [.int s0] M Q := by
  by_cases c1 : s0 = 0
  · exact ⟨3, ⟨fun _ => ⟨trivial, h1 c1⟩, fun q => absurd c1 q⟩⟩
  · exact ⟨9, ⟨fun q => absurd q c1, fun _ => ⟨rfl, ⟨Or.inl ⟨0, 73, Or.inl rfl, rfl, (h2 c1)⟩, ⟨trivial, h3 c1⟩⟩⟩⟩⟩
theorem sg_234_0 {x1 : Int32} {x2 : Int32} {M : px_Mem} {Q : px_Po} (h1 : px_T 0 226 0 [some (.ref 56), some (.int x1), some (.int x2)] [] M (fun r M1 => px_T 0 234 6 [some (.ref 56), some (.int x1), some (.int x2)] (r.toList ++ []) M1 Q)) : px_T 0 234 0 [some (.ref 56), some (.int x1), some (.int x2)] [] M Q := by
  obtain ⟨n, h⟩ := px_T_cl (k := 234) (pc := 3) (y := 226) (st := [.int x2, .int x1, .ref 56]) rfl (h1)
  exact ⟨n + 4, ⟨rfl, h⟩⟩
theorem sg_234_6 {x1 : Int32} {x2 : Int32} {s0 : Int32} {M : px_Mem} {Q : px_Po} (h1 : (s0 = 0) → Q (some (.int (-2))) M) (h2 : (¬ (s0 = 0)) → px_T 0 228 0 [some (.ref 56), some (.int x1), some (.int x2)] [] M (fun r M1 => px_T 0 234 15 [some (.ref 56), some (.int x1), some (.int x2)] (r.toList ++ []) M1 Q)) : px_T 0 234 6 [some (.ref 56), some (.int x1), some (.int x2)] [.int s0] M Q := by
  by_cases c1 : s0 = 0
  · exact ⟨3, ⟨fun _ => ⟨trivial, h1 c1⟩, fun q => absurd c1 q⟩⟩
  · obtain ⟨n, h⟩ := px_T_cl (k := 234) (pc := 12) (y := 228) (st := [.int x2, .int x1, .ref 56]) rfl (h2 c1)
    exact ⟨n + 5, ⟨fun q => absurd q c1, fun _ => ⟨rfl, h⟩⟩⟩
theorem sg_234_15 {d0 : Option Value} {d1 : Option Value} {d2 : Option Value} {s0 : Int32} {M : px_Mem} {Q : px_Po} (h1 : Q (some (.int s0)) M) : px_T 0 234 15 [d0, d1, d2] [.int s0] M Q := by
  exact ⟨2, ⟨trivial, h1⟩⟩
theorem sg_235_0 {x1 : Int32} {x2 : Int32} {M : px_Mem} {Q : px_Po} (h1 : px_T 0 226 0 [some (.ref 56), some (.int x1), some (.int x2)] [] M (fun r M1 => px_T 0 235 6 [some (.ref 56), some (.int x1), some (.int x2)] (r.toList ++ []) M1 Q)) : px_T 0 235 0 [some (.ref 56), some (.int x1), some (.int x2)] [] M Q := by
  obtain ⟨n, h⟩ := px_T_cl (k := 235) (pc := 3) (y := 226) (st := [.int x2, .int x1, .ref 56]) rfl (h1)
  exact ⟨n + 4, ⟨rfl, h⟩⟩
theorem sg_235_6 {x1 : Int32} {x2 : Int32} {s0 : Int32} {M : px_Mem} {Q : px_Po} (h1 : (s0 = 0) → Q (some (.int (-2))) M) (h2 : (¬ (s0 = 0)) → px_T 0 229 0 [some (.ref 56), some (.int x1), some (.int x2)] [] M (fun r M1 => px_T 0 235 15 [some (.ref 56), some (.int x1), some (.int x2)] (r.toList ++ []) M1 Q)) : px_T 0 235 6 [some (.ref 56), some (.int x1), some (.int x2)] [.int s0] M Q := by
  by_cases c1 : s0 = 0
  · exact ⟨3, ⟨fun _ => ⟨trivial, h1 c1⟩, fun q => absurd c1 q⟩⟩
  · obtain ⟨n, h⟩ := px_T_cl (k := 235) (pc := 12) (y := 229) (st := [.int x2, .int x1, .ref 56]) rfl (h2 c1)
    exact ⟨n + 5, ⟨fun q => absurd q c1, fun _ => ⟨rfl, h⟩⟩⟩
theorem sg_235_15 {d0 : Option Value} {d1 : Option Value} {d2 : Option Value} {s0 : Int32} {M : px_Mem} {Q : px_Po} (h1 : Q (some (.int s0)) M) : px_T 0 235 15 [d0, d1, d2] [.int s0] M Q := by
  exact ⟨2, ⟨trivial, h1⟩⟩
theorem sg_236_0 {x1 : Int32} {x2 : Int32} {M : px_Mem} {Q : px_Po} (h1 : px_T 0 226 0 [some (.ref 56), some (.int x1), some (.int x2)] [] M (fun r M1 => px_T 0 236 6 [some (.ref 56), some (.int x1), some (.int x2), none, none] (r.toList ++ []) M1 Q)) : px_T 0 236 0 [some (.ref 56), some (.int x1), some (.int x2), none, none] [] M Q := by
  obtain ⟨n, h⟩ := px_T_cl (k := 236) (pc := 3) (y := 226) (st := [.int x2, .int x1, .ref 56]) rfl (h1)
  exact ⟨n + 4, ⟨rfl, h⟩⟩
theorem sg_236_6 {x1 : Int32} {x2 : Int32} {d3 : Option Value} {d4 : Option Value} {s0 : Int32} {M : px_Mem} {Q : px_Po} (h1 : (s0 = 0) → Q (some (.int (-2))) M) (h2 : (¬ (s0 = 0)) → px_T 0 236 17 [some (.ref 56), some (.int x1), some (.int x2), some (.int 0), some (.int 1)] [] M Q) : px_T 0 236 6 [some (.ref 56), some (.int x1), some (.int x2), d3, d4] [.int s0] M Q := by
  by_cases c1 : s0 = 0
  · exact ⟨3, ⟨fun q => absurd c1 q, fun _ => ⟨trivial, h1 c1⟩⟩⟩
  · obtain ⟨n, h⟩ := h2 c1
    exact ⟨n + 5, ⟨fun _ => h, fun q => absurd q c1⟩⟩
theorem sg_236_17 {x1 : Int32} {x2 : Int32} {x3 : Int32} {x4 : Int32} {M : px_Mem} {Q : px_Po} (h1 : ((16 : Int32) ≤ x4) → Q (some (.int x3)) M) (h2 : (¬ ((16 : Int32) ≤ x4)) → px_T 0 228 0 [some (.ref 56), some (.int x4), some (.int x2)] [] M (fun r M1 => px_T 0 236 32 [some (.ref 56), some (.int x1), some (.int x2), some (.int x3), some (.int x4)] (r.toList ++ [.int x3]) M1 Q)) : px_T 0 236 17 [some (.ref 56), some (.int x1), some (.int x2), some (.int x3), some (.int x4)] [] M Q := by
  by_cases c1 : (16 : Int32) ≤ x4
  · exact ⟨5, ⟨fun _ => ⟨trivial, h1 c1⟩, fun q => absurd c1 q⟩⟩
  · obtain ⟨n, h⟩ := px_T_cl (k := 236) (pc := 29) (y := 228) (st := [.int x2, .int x4, .ref 56, .int x3]) rfl (h2 c1)
    exact ⟨n + 8, ⟨fun q => absurd q c1, fun _ => ⟨rfl, h⟩⟩⟩
theorem sg_236_32 {x1 : Int32} {x2 : Int32} {d3 : Option Value} {x4 : Int32} {s0 : Int32} {s1 : Int32} {M : px_Mem} {Q : px_Po} (h1 : (s0 = x1) → px_T 0 236 17 [some (.ref 56), some (.int x1), some (.int x2), some (.int (s1 ||| (1 <<< ((x4 - 1) &&& 31)))), some (.int (x4 + 1))] [] M Q) (h2 : (¬ (s0 = x1)) → px_T 0 236 17 [some (.ref 56), some (.int x1), some (.int x2), some (.int (s1 ||| 0)), some (.int (x4 + 1))] [] M Q) : px_T 0 236 32 [some (.ref 56), some (.int x1), some (.int x2), d3, some (.int x4)] [.int s0, .int s1] M Q := by
  by_cases c1 : s0 = x1
  · obtain ⟨n, h⟩ := h1 c1
    exact ⟨n + 12, ⟨fun q => absurd c1 q, fun _ => h⟩⟩
  · obtain ⟨n, h⟩ := h2 c1
    exact ⟨n + 7, ⟨fun _ => h, fun q => absurd q c1⟩⟩
theorem sg_237_0 {x1 : Int32} {x2 : Int32} {M : px_Mem} {Q : px_Po} (h1 : px_T 0 237 5 [some (.ref 56), some (.int x1), some (.int x2), some (.int 0), some (.int 1)] [] M Q) : px_T 0 237 0 [some (.ref 56), some (.int x1), some (.int x2), none, none] [] M Q := by
  obtain ⟨n, h⟩ := h1
  exact ⟨n + 4, h⟩
theorem sg_237_5 {x1 : Int32} {x2 : Int32} {x3 : Int32} {x4 : Int32} {M : px_Mem} {Q : px_Po} (h1 : ((16 : Int32) ≤ x4) → Q (some (.int x3)) M) (h2 : (¬ ((16 : Int32) ≤ x4)) → px_T 0 227 0 [some (.ref 56), some (.int x4), some (.int x2)] [] M (fun r M1 => px_T 0 237 20 [some (.ref 56), some (.int x1), some (.int x2), some (.int x3), some (.int x4)] (r.toList ++ [.int x3]) M1 Q)) : px_T 0 237 5 [some (.ref 56), some (.int x1), some (.int x2), some (.int x3), some (.int x4)] [] M Q := by
  by_cases c1 : (16 : Int32) ≤ x4
  · exact ⟨5, ⟨fun _ => ⟨trivial, h1 c1⟩, fun q => absurd c1 q⟩⟩
  · obtain ⟨n, h⟩ := px_T_cl (k := 237) (pc := 17) (y := 227) (st := [.int x2, .int x4, .ref 56, .int x3]) rfl (h2 c1)
    exact ⟨n + 8, ⟨fun q => absurd q c1, fun _ => ⟨rfl, h⟩⟩⟩
theorem sg_237_20 {x1 : Int32} {x2 : Int32} {d3 : Option Value} {x4 : Int32} {s0 : Int32} {s1 : Int32} {M : px_Mem} {Q : px_Po} (h1 : (s0 = 0) → px_T 0 237 5 [some (.ref 56), some (.int x1), some (.int x2), some (.int (s1 + 0)), some (.int (x4 + 1))] [] M Q) (h2 : (¬ (s0 = 0)) → px_T 0 227 0 [some (.ref 56), some (.int x1), some (.int x2)] [] M (fun r M1 => px_T 0 237 29 [some (.ref 56), some (.int x1), some (.int x2), d3, some (.int x4)] (r.toList ++ [.int s1]) M1 Q)) : px_T 0 237 20 [some (.ref 56), some (.int x1), some (.int x2), d3, some (.int x4)] [.int s0, .int s1] M Q := by
  by_cases c1 : s0 = 0
  · obtain ⟨n, h⟩ := h1 c1
    exact ⟨n + 6, ⟨fun _ => h, fun q => absurd c1 q⟩⟩
  · obtain ⟨n, h⟩ := px_T_cl (k := 237) (pc := 26) (y := 227) (st := [.int x2, .int x1, .ref 56, .int s1]) rfl (h2 c1)
    exact ⟨n + 5, ⟨fun q => absurd q c1, fun _ => ⟨rfl, h⟩⟩⟩
theorem sg_237_29 {x1 : Int32} {x2 : Int32} {d3 : Option Value} {x4 : Int32} {s0 : Int32} {s1 : Int32} {M : px_Mem} {Q : px_Po} (h1 : (s0 = 0) → px_T 0 237 5 [some (.ref 56), some (.int x1), some (.int x2), some (.int (s1 + 0)), some (.int (x4 + 1))] [] M Q) (h2 : (¬ (s0 = 0)) → px_T 0 215 0 [some (.ref 56), some (.ref 78), some (.int (16 * x2)), some (.int x4), some (.int x1), none, none] [] M (fun r M1 => px_T 0 237 47 [some (.ref 56), some (.int x1), some (.int x2), d3, some (.int x4)] (r.toList ++ [.int s1]) M1 Q)) : px_T 0 237 29 [some (.ref 56), some (.int x1), some (.int x2), d3, some (.int x4)] [.int s0, .int s1] M Q := by
  by_cases c1 : s0 = 0
  · obtain ⟨n, h⟩ := h1 c1
    exact ⟨n + 6, ⟨fun _ => h, fun q => absurd c1 q⟩⟩
  · obtain ⟨n, h⟩ := px_T_cl (k := 237) (pc := 44) (y := 215) (st := [.int x1, .int x4, .int (16 * x2), .ref 78, .ref 56, .int s1]) rfl (h2 c1)
    exact ⟨n + 10, ⟨fun q => absurd q c1, fun _ => ⟨rfl, ⟨rfl, h⟩⟩⟩⟩
theorem sg_237_47 {x1 : Int32} {x2 : Int32} {d3 : Option Value} {x4 : Int32} {s0 : Int32} {s1 : Int32} {M : px_Mem} {Q : px_Po} (h1 : (s0 = 0) → px_T 0 237 5 [some (.ref 56), some (.int x1), some (.int x2), some (.int (s1 + 0)), some (.int (x4 + 1))] [] M Q) (h2 : (¬ (s0 = 0)) → px_T 0 237 5 [some (.ref 56), some (.int x1), some (.int x2), some (.int (s1 + 1)), some (.int (x4 + 1))] [] M Q) : px_T 0 237 47 [some (.ref 56), some (.int x1), some (.int x2), d3, some (.int x4)] [.int s0, .int s1] M Q := by
  by_cases c1 : s0 = 0
  · obtain ⟨n, h⟩ := h1 c1
    exact ⟨n + 6, ⟨fun _ => h, fun q => absurd c1 q⟩⟩
  · obtain ⟨n, h⟩ := h2 c1
    exact ⟨n + 7, ⟨fun q => absurd q c1, fun _ => h⟩⟩
theorem sg_238_0 {x1 : Int32} {x2 : Int32} {M : px_Mem} {Q : px_Po} (h1 : px_T 0 226 0 [some (.ref 56), some (.int x1), some (.int x2)] [] M (fun r M1 => px_T 0 238 6 [some (.ref 56), some (.int x1), some (.int x2)] (r.toList ++ []) M1 Q)) : px_T 0 238 0 [some (.ref 56), some (.int x1), some (.int x2)] [] M Q := by
  obtain ⟨n, h⟩ := px_T_cl (k := 238) (pc := 3) (y := 226) (st := [.int x2, .int x1, .ref 56]) rfl (h1)
  exact ⟨n + 4, ⟨rfl, h⟩⟩
theorem sg_238_6 {x1 : Int32} {x2 : Int32} {s0 : Int32} {M : px_Mem} {Q : px_Po} (h1 : (s0 = 0) → Q (some (.int (-2))) M) (h2 : (¬ (s0 = 0)) → px_T 0 237 0 [some (.ref 56), some (.int x1), some (.int x2), none, none] [] M (fun r M1 => px_T 0 238 15 [some (.ref 56), some (.int x1), some (.int x2)] (r.toList ++ []) M1 Q)) : px_T 0 238 6 [some (.ref 56), some (.int x1), some (.int x2)] [.int s0] M Q := by
  by_cases c1 : s0 = 0
  · exact ⟨3, ⟨fun _ => ⟨trivial, h1 c1⟩, fun q => absurd c1 q⟩⟩
  · obtain ⟨n, h⟩ := px_T_cl (k := 238) (pc := 12) (y := 237) (st := [.int x2, .int x1, .ref 56]) rfl (h2 c1)
    exact ⟨n + 5, ⟨fun q => absurd q c1, fun _ => ⟨rfl, h⟩⟩⟩
theorem sg_238_15 {d0 : Option Value} {d1 : Option Value} {d2 : Option Value} {s0 : Int32} {M : px_Mem} {Q : px_Po} (h1 : Q (some (.int s0)) M) : px_T 0 238 15 [d0, d1, d2] [.int s0] M Q := by
  exact ⟨2, ⟨trivial, h1⟩⟩
theorem sg_239_0 {x1 : Int32} {x2 : Int32} {M : px_Mem} {Q : px_Po} (h1 : px_T 0 226 0 [some (.ref 56), some (.int x1), some (.int x2)] [] M (fun r M1 => px_T 0 239 6 [some (.ref 56), some (.int x1), some (.int x2), none, none] (r.toList ++ []) M1 Q)) : px_T 0 239 0 [some (.ref 56), some (.int x1), some (.int x2), none, none] [] M Q := by
  obtain ⟨n, h⟩ := px_T_cl (k := 239) (pc := 3) (y := 226) (st := [.int x2, .int x1, .ref 56]) rfl (h1)
  exact ⟨n + 4, ⟨rfl, h⟩⟩
theorem sg_239_6 {x1 : Int32} {x2 : Int32} {d3 : Option Value} {d4 : Option Value} {s0 : Int32} {M : px_Mem} {Q : px_Po} (h1 : (s0 = 0) → Q (some (.int (-2))) M) (h2 : (¬ (s0 = 0)) → px_T 0 227 0 [some (.ref 56), some (.int x1), some (.int x2)] [] M (fun r M1 => px_T 0 239 18 [some (.ref 56), some (.int x1), some (.int x2), d3, d4] (r.toList ++ []) M1 Q)) : px_T 0 239 6 [some (.ref 56), some (.int x1), some (.int x2), d3, d4] [.int s0] M Q := by
  by_cases c1 : s0 = 0
  · exact ⟨3, ⟨fun q => absurd c1 q, fun _ => ⟨trivial, h1 c1⟩⟩⟩
  · obtain ⟨n, h⟩ := px_T_cl (k := 239) (pc := 15) (y := 227) (st := [.int x2, .int x1, .ref 56]) rfl (h2 c1)
    exact ⟨n + 5, ⟨fun _ => ⟨rfl, h⟩, fun q => absurd q c1⟩⟩
theorem sg_239_18 {x1 : Int32} {x2 : Int32} {d3 : Option Value} {d4 : Option Value} {s0 : Int32} {M : px_Mem} {Q : px_Po} (h1 : (s0 = 0) → Q (some (.int (-1))) M) (h2 : (¬ (s0 = 0)) → px_T 0 239 28 [some (.ref 56), some (.int x1), some (.int x2), some (.int 0), some (.int x1)] [] M Q) : px_T 0 239 18 [some (.ref 56), some (.int x1), some (.int x2), d3, d4] [.int s0] M Q := by
  by_cases c1 : s0 = 0
  · exact ⟨3, ⟨fun q => absurd c1 q, fun _ => ⟨trivial, h1 c1⟩⟩⟩
  · obtain ⟨n, h⟩ := h2 c1
    exact ⟨n + 5, ⟨fun _ => h, fun q => absurd q c1⟩⟩
theorem sg_239_28 {d1 : Option Value} {x2 : Int32} {x3 : Int32} {x4 : Int32} {M : px_Mem} {Q : px_Po} (h1 : (x4 = 0) → Q (some (.int x3)) M) (h2 : (¬ (x4 = 0)) → px_T 0 228 0 [some (.ref 56), some (.int x4), some (.int x2)] [] M (fun r M1 => px_T 0 239 43 [some (.ref 56), d1, some (.int x2), some (.int (x3 + 1)), some (.int x4)] (r.toList ++ []) M1 Q)) : px_T 0 239 28 [some (.ref 56), d1, some (.int x2), some (.int x3), some (.int x4)] [] M Q := by
  by_cases c1 : x4 = 0
  · exact ⟨4, ⟨fun _ => ⟨trivial, h1 c1⟩, fun q => absurd c1 q⟩⟩
  · obtain ⟨n, h⟩ := px_T_cl (k := 239) (pc := 40) (y := 228) (st := [.int x2, .int x4, .ref 56]) rfl (h2 c1)
    exact ⟨n + 7, ⟨fun q => absurd q c1, fun _ => ⟨rfl, h⟩⟩⟩
theorem sg_239_43 {d1 : Option Value} {x2 : Int32} {x3 : Int32} {d4 : Option Value} {s0 : Int32} {M : px_Mem} {Q : px_Po} (h1 : px_T 0 239 28 [some (.ref 56), d1, some (.int x2), some (.int x3), some (.int s0)] [] M Q) : px_T 0 239 43 [some (.ref 56), d1, some (.int x2), some (.int x3), d4] [.int s0] M Q := by
  obtain ⟨n, h⟩ := h1
  exact ⟨n + 2, h⟩
theorem sg_240_0 {x1 : Int32} {x2 : Int32} {M : px_Mem} {Q : px_Po} (h1 : px_T 0 240 5 [some (.ref 56), some (.int x1), some (.int x2), some (.int 0), some (.int 1)] [] M Q) : px_T 0 240 0 [some (.ref 56), some (.int x1), some (.int x2), none, none] [] M Q := by
  obtain ⟨n, h⟩ := h1
  exact ⟨n + 4, h⟩
theorem sg_240_5 {x1 : Int32} {x2 : Int32} {x3 : Int32} {x4 : Int32} {M : px_Mem} {Q : px_Po} (h1 : ((16 : Int32) ≤ x4) → Q (some (.int x3)) M) (h2 : (¬ ((16 : Int32) ≤ x4)) → px_T 0 229 0 [some (.ref 56), some (.int x4), some (.int x2)] [] M (fun r M1 => px_T 0 240 20 [some (.ref 56), some (.int x1), some (.int x2), some (.int x3), some (.int x4)] (r.toList ++ [.int x3]) M1 Q)) : px_T 0 240 5 [some (.ref 56), some (.int x1), some (.int x2), some (.int x3), some (.int x4)] [] M Q := by
  by_cases c1 : (16 : Int32) ≤ x4
  · exact ⟨5, ⟨fun _ => ⟨trivial, h1 c1⟩, fun q => absurd c1 q⟩⟩
  · obtain ⟨n, h⟩ := px_T_cl (k := 240) (pc := 17) (y := 229) (st := [.int x2, .int x4, .ref 56, .int x3]) rfl (h2 c1)
    exact ⟨n + 8, ⟨fun q => absurd q c1, fun _ => ⟨rfl, h⟩⟩⟩
theorem sg_240_20 {x1 : Int32} {x2 : Int32} {d3 : Option Value} {x4 : Int32} {s0 : Int32} {s1 : Int32} {M : px_Mem} {Q : px_Po} (h1 : (s0 = x1) → px_T 0 240 5 [some (.ref 56), some (.int x1), some (.int x2), some (.int (s1 ||| (1 <<< ((x4 - 1) &&& 31)))), some (.int (x4 + 1))] [] M Q) (h2 : (¬ (s0 = x1)) → px_T 0 240 5 [some (.ref 56), some (.int x1), some (.int x2), some (.int (s1 ||| 0)), some (.int (x4 + 1))] [] M Q) : px_T 0 240 20 [some (.ref 56), some (.int x1), some (.int x2), d3, some (.int x4)] [.int s0, .int s1] M Q := by
  by_cases c1 : s0 = x1
  · obtain ⟨n, h⟩ := h1 c1
    exact ⟨n + 12, ⟨fun q => absurd c1 q, fun _ => h⟩⟩
  · obtain ⟨n, h⟩ := h2 c1
    exact ⟨n + 7, ⟨fun _ => h, fun q => absurd q c1⟩⟩
theorem sg_241_0 {x1 : Int32} {x2 : Int32} {M : px_Mem} {Q : px_Po} (h1 : px_T 0 226 0 [some (.ref 56), some (.int x1), some (.int x2)] [] M (fun r M1 => px_T 0 241 6 [some (.ref 56), some (.int x1), some (.int x2)] (r.toList ++ []) M1 Q)) : px_T 0 241 0 [some (.ref 56), some (.int x1), some (.int x2)] [] M Q := by
  obtain ⟨n, h⟩ := px_T_cl (k := 241) (pc := 3) (y := 226) (st := [.int x2, .int x1, .ref 56]) rfl (h1)
  exact ⟨n + 4, ⟨rfl, h⟩⟩
theorem sg_241_6 {x1 : Int32} {x2 : Int32} {s0 : Int32} {M : px_Mem} {Q : px_Po} (h1 : (s0 = 0) → Q (some (.int (-2))) M) (h2 : (¬ (s0 = 0)) → px_T 0 240 0 [some (.ref 56), some (.int x1), some (.int x2), none, none] [] M (fun r M1 => px_T 0 241 15 [some (.ref 56), some (.int x1), some (.int x2)] (r.toList ++ []) M1 Q)) : px_T 0 241 6 [some (.ref 56), some (.int x1), some (.int x2)] [.int s0] M Q := by
  by_cases c1 : s0 = 0
  · exact ⟨3, ⟨fun _ => ⟨trivial, h1 c1⟩, fun q => absurd c1 q⟩⟩
  · obtain ⟨n, h⟩ := px_T_cl (k := 241) (pc := 12) (y := 240) (st := [.int x2, .int x1, .ref 56]) rfl (h2 c1)
    exact ⟨n + 5, ⟨fun q => absurd q c1, fun _ => ⟨rfl, h⟩⟩⟩
theorem sg_241_15 {d0 : Option Value} {d1 : Option Value} {d2 : Option Value} {s0 : Int32} {M : px_Mem} {Q : px_Po} (h1 : Q (some (.int s0)) M) : px_T 0 241 15 [d0, d1, d2] [.int s0] M Q := by
  exact ⟨2, ⟨trivial, h1⟩⟩
theorem sg_242_0 {x1 : Int32} {M : px_Mem} {Q : px_Po} (h1 : px_T 0 225 0 [some (.ref 56), some (.int x1)] [] M (fun r M1 => px_T 0 242 5 [some (.ref 56), some (.int x1), none, none] (r.toList ++ []) M1 Q)) : px_T 0 242 0 [some (.ref 56), some (.int x1), none, none] [] M Q := by
  obtain ⟨n, h⟩ := px_T_cl (k := 242) (pc := 2) (y := 225) (st := [.int x1, .ref 56]) rfl (h1)
  exact ⟨n + 3, ⟨rfl, h⟩⟩
theorem sg_242_5 {x1 : Int32} {d2 : Option Value} {d3 : Option Value} {s0 : Int32} {M : px_Mem} {Q : px_Po} (h1 : (s0 = 0) → Q (some (.int (-2))) M) (h2 : (¬ (s0 = 0)) → px_T 0 242 15 [some (.ref 56), some (.int x1), some (.int 0), some (.int 1)] [] M Q) : px_T 0 242 5 [some (.ref 56), some (.int x1), d2, d3] [.int s0] M Q := by
  by_cases c1 : s0 = 0
  · exact ⟨3, ⟨fun q => absurd c1 q, fun _ => ⟨trivial, h1 c1⟩⟩⟩
  · obtain ⟨n, h⟩ := h2 c1
    exact ⟨n + 5, ⟨fun _ => h, fun q => absurd q c1⟩⟩
theorem sg_242_15 {x1 : Int32} {x2 : Int32} {x3 : Int32} {M : px_Mem} {Q : px_Po} (h1 : ((16 : Int32) ≤ x3) → Q (some (.int x2)) M) (h2 : (¬ ((16 : Int32) ≤ x3)) → px_T 0 240 0 [some (.ref 56), some (.int x3), some (.int x1), none, none] [] M (fun r M1 => px_T 0 242 28 [some (.ref 56), some (.int x1), some (.int x2), some (.int x3)] (r.toList ++ [.int x2]) M1 Q)) : px_T 0 242 15 [some (.ref 56), some (.int x1), some (.int x2), some (.int x3)] [] M Q := by
  by_cases c1 : (16 : Int32) ≤ x3
  · exact ⟨5, ⟨fun _ => ⟨trivial, h1 c1⟩, fun q => absurd c1 q⟩⟩
  · obtain ⟨n, h⟩ := px_T_cl (k := 242) (pc := 25) (y := 240) (st := [.int x1, .int x3, .ref 56, .int x2]) rfl (h2 c1)
    exact ⟨n + 8, ⟨fun q => absurd q c1, fun _ => ⟨rfl, h⟩⟩⟩
theorem sg_242_28 {x1 : Int32} {d2 : Option Value} {x3 : Int32} {s0 : Int32} {s1 : Int32} {M : px_Mem} {Q : px_Po} (h1 : (s0 = 0) → px_T 0 242 15 [some (.ref 56), some (.int x1), some (.int (s1 + 0)), some (.int (x3 + 1))] [] M Q) (h2 : (¬ (s0 = 0)) → px_T 0 242 15 [some (.ref 56), some (.int x1), some (.int (s1 + 1)), some (.int (x3 + 1))] [] M Q) : px_T 0 242 28 [some (.ref 56), some (.int x1), d2, some (.int x3)] [.int s0, .int s1] M Q := by
  by_cases c1 : s0 = 0
  · obtain ⟨n, h⟩ := h1 c1
    exact ⟨n + 6, ⟨fun _ => h, fun q => absurd c1 q⟩⟩
  · obtain ⟨n, h⟩ := h2 c1
    exact ⟨n + 7, ⟨fun q => absurd q c1, fun _ => h⟩⟩
theorem sg_243_0 {x1 : Int32} {M : px_Mem} {Q : px_Po} (h1 : px_T 0 243 2 [some (.ref 56), some (.int x1), some (.int 0)] [] M Q) : px_T 0 243 0 [some (.ref 56), some (.int x1), none] [] M Q := by
  obtain ⟨n, h⟩ := h1
  exact ⟨n + 2, h⟩
theorem sg_243_2 {x1 : Int32} {x2 : Int32} {M : px_Mem} {Q : px_Po} (h1 : ((M.1 56 20) < x2) → Q (some (.int (-1))) M) (h2 : (¬ ((M.1 56 20) < x2)) → px_T 0 227 0 [some (.ref 56), some (.int x1), some (.int x2)] [] M (fun r M1 => px_T 0 243 16 [some (.ref 56), some (.int x1), some (.int x2)] (r.toList ++ []) M1 Q)) : px_T 0 243 2 [some (.ref 56), some (.int x1), some (.int x2)] [] M Q := by
  by_cases c1 : (M.1 56 20) < x2
  · exact ⟨6, ⟨rfl, ⟨fun _ => ⟨trivial, h1 c1⟩, fun q => absurd c1 q⟩⟩⟩
  · obtain ⟨n, h⟩ := px_T_cl (k := 243) (pc := 13) (y := 227) (st := [.int x2, .int x1, .ref 56]) rfl (h2 c1)
    exact ⟨n + 8, ⟨rfl, ⟨fun q => absurd q c1, fun _ => ⟨rfl, h⟩⟩⟩⟩
theorem sg_243_16 {x1 : Int32} {x2 : Int32} {s0 : Int32} {M : px_Mem} {Q : px_Po} (h1 : (s0 = 0) → px_T 0 243 2 [some (.ref 56), some (.int x1), some (.int (x2 + 1))] [] M Q) (h2 : (¬ (s0 = 0)) → Q (some (.int x2)) M) : px_T 0 243 16 [some (.ref 56), some (.int x1), some (.int x2)] [.int s0] M Q := by
  by_cases c1 : s0 = 0
  · obtain ⟨n, h⟩ := h1 c1
    exact ⟨n + 3, ⟨fun _ => h, fun q => absurd c1 q⟩⟩
  · exact ⟨3, ⟨fun q => absurd q c1, fun _ => ⟨trivial, h2 c1⟩⟩⟩
theorem sg_244_0 {x1 : Int32} {M : px_Mem} {Q : px_Po} (h1 : px_T 0 224 0 [some (.ref 56)] [] M (fun r M1 => px_T 0 244 4 [some (.ref 56), some (.int x1)] (r.toList ++ []) M1 Q)) : px_T 0 244 0 [some (.ref 56), some (.int x1)] [] M Q := by
  obtain ⟨n, h⟩ := px_T_cl (k := 244) (pc := 1) (y := 224) (st := [.ref 56]) rfl (h1)
  exact ⟨n + 2, ⟨rfl, h⟩⟩
theorem sg_244_4 {x1 : Int32} {s0 : Int32} {M : px_Mem} {Q : px_Po} (h1 : (s0 = 0) → Q (some (.int (-2))) M) (h2 : (¬ (s0 = 0)) → px_T 0 184 0 [some (.long x1.toInt64), none] [] M (fun r M1 => px_T 0 244 12 [some (.ref 56), some (.int x1)] (r.toList ++ []) M1 Q)) : px_T 0 244 4 [some (.ref 56), some (.int x1)] [.int s0] M Q := by
  by_cases c1 : s0 = 0
  · exact ⟨3, ⟨fun _ => ⟨trivial, h1 c1⟩, fun q => absurd c1 q⟩⟩
  · obtain ⟨n, h⟩ := px_T_cl (k := 244) (pc := 9) (y := 184) (st := [.long x1.toInt64]) rfl (h2 c1)
    exact ⟨n + 4, ⟨fun q => absurd q c1, fun _ => h⟩⟩
theorem sg_244_12 {x1 : Int32} {s0 : Int32} {M : px_Mem} {Q : px_Po} (h1 : (s0 = 0) → Q (some (.int (-2))) M) (h2 : (¬ (s0 = 0)) → px_T 0 243 0 [some (.ref 56), some (.int x1), none] [] M (fun r M1 => px_T 0 244 20 [some (.ref 56), some (.int x1)] (r.toList ++ []) M1 Q)) : px_T 0 244 12 [some (.ref 56), some (.int x1)] [.int s0] M Q := by
  by_cases c1 : s0 = 0
  · exact ⟨3, ⟨fun _ => ⟨trivial, h1 c1⟩, fun q => absurd c1 q⟩⟩
  · obtain ⟨n, h⟩ := px_T_cl (k := 244) (pc := 17) (y := 243) (st := [.int x1, .ref 56]) rfl (h2 c1)
    exact ⟨n + 4, ⟨fun q => absurd q c1, fun _ => ⟨rfl, h⟩⟩⟩
theorem sg_244_20 {d0 : Option Value} {d1 : Option Value} {s0 : Int32} {M : px_Mem} {Q : px_Po} (h1 : Q (some (.int s0)) M) : px_T 0 244 20 [d0, d1] [.int s0] M Q := by
  exact ⟨2, ⟨trivial, h1⟩⟩
theorem sg_245_0 {x1 : Int32} {M : px_Mem} {Q : px_Po} (h1 : px_T 0 224 0 [some (.ref 56)] [] M (fun r M1 => px_T 0 245 4 [some (.ref 56), some (.int x1), none] (r.toList ++ []) M1 Q)) : px_T 0 245 0 [some (.ref 56), some (.int x1), none] [] M Q := by
  obtain ⟨n, h⟩ := px_T_cl (k := 245) (pc := 1) (y := 224) (st := [.ref 56]) rfl (h1)
  exact ⟨n + 2, ⟨rfl, h⟩⟩
theorem sg_245_4 {x1 : Int32} {d2 : Option Value} {s0 : Int32} {M : px_Mem} {Q : px_Po} (h1 : (s0 = 0) → Q (some (.int (-2))) M) (h2 : (¬ (s0 = 0)) → px_T 0 184 0 [some (.long x1.toInt64), none] [] M (fun r M1 => px_T 0 245 12 [some (.ref 56), some (.int x1), d2] (r.toList ++ []) M1 Q)) : px_T 0 245 4 [some (.ref 56), some (.int x1), d2] [.int s0] M Q := by
  by_cases c1 : s0 = 0
  · exact ⟨3, ⟨fun _ => ⟨trivial, h1 c1⟩, fun q => absurd c1 q⟩⟩
  · obtain ⟨n, h⟩ := px_T_cl (k := 245) (pc := 9) (y := 184) (st := [.long x1.toInt64]) rfl (h2 c1)
    exact ⟨n + 4, ⟨fun q => absurd q c1, fun _ => h⟩⟩
theorem sg_245_12 {x1 : Int32} {d2 : Option Value} {s0 : Int32} {M : px_Mem} {Q : px_Po} (h1 : (s0 = 0) → Q (some (.int (-2))) M) (h2 : (¬ (s0 = 0)) → px_T 0 243 0 [some (.ref 56), some (.int x1), none] [] M (fun r M1 => px_T 0 245 23 [some (.ref 56), some (.int x1), d2] (r.toList ++ []) M1 Q)) : px_T 0 245 12 [some (.ref 56), some (.int x1), d2] [.int s0] M Q := by
  by_cases c1 : s0 = 0
  · exact ⟨3, ⟨fun q => absurd c1 q, fun _ => ⟨trivial, h1 c1⟩⟩⟩
  · obtain ⟨n, h⟩ := px_T_cl (k := 245) (pc := 20) (y := 243) (st := [.int x1, .ref 56]) rfl (h2 c1)
    exact ⟨n + 4, ⟨fun _ => ⟨rfl, h⟩, fun q => absurd q c1⟩⟩
theorem sg_245_23 {x1 : Int32} {d2 : Option Value} {s0 : Int32} {M : px_Mem} {Q : px_Po} (h1 : (s0 = (-1)) → Q (some (.int (-1))) M) (h2 : (¬ (s0 = (-1))) → px_T 0 243 0 [some (.ref 56), some (.int x1), none] [] M (fun r M1 => px_T 0 245 34 [some (.ref 56), some (.int x1), d2] (r.toList ++ []) M1 Q)) : px_T 0 245 23 [some (.ref 56), some (.int x1), d2] [.int s0] M Q := by
  by_cases c1 : s0 = (-1)
  · exact ⟨4, ⟨fun q => absurd c1 q, fun _ => ⟨trivial, h1 c1⟩⟩⟩
  · obtain ⟨n, h⟩ := px_T_cl (k := 245) (pc := 31) (y := 243) (st := [.int x1, .ref 56]) rfl (h2 c1)
    exact ⟨n + 5, ⟨fun _ => ⟨rfl, h⟩, fun q => absurd q c1⟩⟩
theorem sg_245_34 {x1 : Int32} {d2 : Option Value} {s0 : Int32} {M : px_Mem} {Q : px_Po} (h1 : px_T 0 245 35 [some (.ref 56), some (.int x1), some (.int s0)] [] M Q) : px_T 0 245 34 [some (.ref 56), some (.int x1), d2] [.int s0] M Q := by
  obtain ⟨n, h⟩ := h1
  exact ⟨n + 1, h⟩
theorem sg_245_35 {x1 : Int32} {x2 : Int32} {M : px_Mem} {Q : px_Po} (h1 : ((M.1 56 20) < x2) → Q (some (.int (-1))) M) (h2 : (¬ ((M.1 56 20) < x2)) → px_T 0 227 0 [some (.ref 56), some (.int x1), some (.int x2)] [] M (fun r M1 => px_T 0 245 49 [some (.ref 56), some (.int x1), some (.int x2)] (r.toList ++ []) M1 Q)) : px_T 0 245 35 [some (.ref 56), some (.int x1), some (.int x2)] [] M Q := by
  by_cases c1 : (M.1 56 20) < x2
  · exact ⟨6, ⟨rfl, ⟨fun _ => ⟨trivial, h1 c1⟩, fun q => absurd c1 q⟩⟩⟩
  · obtain ⟨n, h⟩ := px_T_cl (k := 245) (pc := 46) (y := 227) (st := [.int x2, .int x1, .ref 56]) rfl (h2 c1)
    exact ⟨n + 8, ⟨rfl, ⟨fun q => absurd q c1, fun _ => ⟨rfl, h⟩⟩⟩⟩
theorem sg_245_49 {x1 : Int32} {x2 : Int32} {s0 : Int32} {M : px_Mem} {Q : px_Po} (h1 : (s0 = 0) → Q (some (.int x2)) M) (h2 : (¬ (s0 = 0)) → px_T 0 245 35 [some (.ref 56), some (.int x1), some (.int (x2 + 1))] [] M Q) : px_T 0 245 49 [some (.ref 56), some (.int x1), some (.int x2)] [.int s0] M Q := by
  by_cases c1 : s0 = 0
  · exact ⟨3, ⟨fun q => absurd c1 q, fun _ => ⟨trivial, h1 c1⟩⟩⟩
  · obtain ⟨n, h⟩ := h2 c1
    exact ⟨n + 3, ⟨fun _ => h, fun q => absurd q c1⟩⟩
theorem sg_246_0 {x1 : Int32} {x2 : Int32} {x3 : Int32} {M : px_Mem} {Q : px_Po} (h1 : vp_in (((128 * x3) + (8 * x1)) + x2) 9344) (h2 : Q (some (.int (M.1 80 ((((128 * x3) + (8 * x1)) + x2).toNatClampNeg)))) M) : px_T 0 246 0 [some (.ref 56), some (.int x1), some (.int x2), some (.int x3)] [] M Q := by
  exact ⟨13, ⟨rfl, ⟨Or.inl ⟨0, 9344, Or.inl rfl, rfl, h1⟩, ⟨trivial, h2⟩⟩⟩⟩
theorem sg_247_0 {x1 : Int32} {x2 : Int32} {M : px_Mem} {Q : px_Po} (h1 : px_T 0 247 5 [some (.ref 56), some (.int x1), some (.int x2), some (.int 0), some (.int 0)] [] M Q) : px_T 0 247 0 [some (.ref 56), some (.int x1), some (.int x2), none, none] [] M Q := by
  obtain ⟨n, h⟩ := h1
  exact ⟨n + 4, h⟩
theorem sg_247_5 {x1 : Int32} {x2 : Int32} {x3 : Int32} {x4 : Int32} {M : px_Mem} {Q : px_Po} (h1 : ((128 : Int32) ≤ x4) → Q (some (.int x3)) M) (h2 : (¬ ((128 : Int32) ≤ x4)) → vp_in ((128 * x2) + x4) 9344) (h3 : (¬ ((128 : Int32) ≤ x4)) → ((M.1 80 (((128 * x2) + x4).toNatClampNeg)) = x1) → px_T 0 247 5 [some (.ref 56), some (.int x1), some (.int x2), some (.int (x3 + 1)), some (.int (x4 + 1))] [] M Q) (h4 : (¬ ((128 : Int32) ≤ x4)) → (¬ ((M.1 80 (((128 * x2) + x4).toNatClampNeg)) = x1)) → px_T 0 247 5 [some (.ref 56), some (.int x1), some (.int x2), some (.int (x3 + 0)), some (.int (x4 + 1))] [] M Q) : px_T 0 247 5 [some (.ref 56), some (.int x1), some (.int x2), some (.int x3), some (.int x4)] [] M Q := by
  by_cases c1 : (128 : Int32) ≤ x4
  · exact ⟨5, ⟨fun _ => ⟨trivial, h1 c1⟩, fun q => absurd c1 q⟩⟩
  · by_cases c2 : (M.1 80 (((128 * x2) + x4).toNatClampNeg)) = x1
    · obtain ⟨n, h⟩ := h3 c1 c2
      exact ⟨n + 20, ⟨fun q => absurd q c1, fun _ => ⟨rfl, ⟨Or.inl ⟨0, 9344, Or.inl rfl, rfl, (h2 c1)⟩, ⟨fun q => absurd c2 q, fun _ => h⟩⟩⟩⟩⟩
    · obtain ⟨n, h⟩ := h4 c1 c2
      exact ⟨n + 19, ⟨fun q => absurd q c1, fun _ => ⟨rfl, ⟨Or.inl ⟨0, 9344, Or.inl rfl, rfl, (h2 c1)⟩, ⟨fun _ => h, fun q => absurd q c2⟩⟩⟩⟩⟩
theorem sg_248_0 {x1 : Int32} {x2 : Int32} {x3 : Int32} {M : px_Mem} {Q : px_Po} (h1 : px_T 0 226 0 [some (.ref 56), some (.int x1), some (.int x3)] [] M (fun r M1 => px_T 0 248 6 [some (.ref 56), some (.int x1), some (.int x2), some (.int x3)] (r.toList ++ []) M1 Q)) : px_T 0 248 0 [some (.ref 56), some (.int x1), some (.int x2), some (.int x3)] [] M Q := by
  obtain ⟨n, h⟩ := px_T_cl (k := 248) (pc := 3) (y := 226) (st := [.int x3, .int x1, .ref 56]) rfl (h1)
  exact ⟨n + 4, ⟨rfl, h⟩⟩
theorem sg_248_6 {x1 : Int32} {x2 : Int32} {x3 : Int32} {s0 : Int32} {M : px_Mem} {Q : px_Po} (h1 : (s0 = 0) → Q (some (.int (-2))) M) (h2 : (¬ (s0 = 0)) → px_T 0 185 0 [some (.int x2)] [] M (fun r M1 => px_T 0 248 13 [some (.ref 56), some (.int x1), some (.int x2), some (.int x3)] (r.toList ++ []) M1 Q)) : px_T 0 248 6 [some (.ref 56), some (.int x1), some (.int x2), some (.int x3)] [.int s0] M Q := by
  by_cases c1 : s0 = 0
  · exact ⟨3, ⟨fun _ => ⟨trivial, h1 c1⟩, fun q => absurd c1 q⟩⟩
  · obtain ⟨n, h⟩ := px_T_cl (k := 248) (pc := 10) (y := 185) (st := [.int x2]) rfl (h2 c1)
    exact ⟨n + 3, ⟨fun q => absurd q c1, fun _ => h⟩⟩
theorem sg_248_13 {x1 : Int32} {x2 : Int32} {x3 : Int32} {s0 : Int32} {M : px_Mem} {Q : px_Po} (h1 : (s0 = 0) → Q (some (.int (-2))) M) (h2 : (¬ (s0 = 0)) → px_T 0 246 0 [some (.ref 56), some (.int x1), some (.int x2), some (.int x3)] [] M (fun r M1 => px_T 0 248 23 [some (.ref 56), some (.int x1), some (.int x2), some (.int x3)] (r.toList ++ []) M1 Q)) : px_T 0 248 13 [some (.ref 56), some (.int x1), some (.int x2), some (.int x3)] [.int s0] M Q := by
  by_cases c1 : s0 = 0
  · exact ⟨3, ⟨fun _ => ⟨trivial, h1 c1⟩, fun q => absurd c1 q⟩⟩
  · obtain ⟨n, h⟩ := px_T_cl (k := 248) (pc := 20) (y := 246) (st := [.int x3, .int x2, .int x1, .ref 56]) rfl (h2 c1)
    exact ⟨n + 6, ⟨fun q => absurd q c1, fun _ => ⟨rfl, h⟩⟩⟩
theorem sg_248_23 {d0 : Option Value} {d1 : Option Value} {d2 : Option Value} {d3 : Option Value} {s0 : Int32} {M : px_Mem} {Q : px_Po} (h1 : Q (some (.int s0)) M) : px_T 0 248 23 [d0, d1, d2, d3] [.int s0] M Q := by
  exact ⟨2, ⟨trivial, h1⟩⟩
theorem sg_249_0 {x1 : Int32} {x2 : Int32} {M : px_Mem} {Q : px_Po} (h1 : px_T 0 226 0 [some (.ref 56), some (.int x1), some (.int x2)] [] M (fun r M1 => px_T 0 249 6 [some (.ref 56), some (.int x1), some (.int x2), none, none] (r.toList ++ []) M1 Q)) : px_T 0 249 0 [some (.ref 56), some (.int x1), some (.int x2), none, none] [] M Q := by
  obtain ⟨n, h⟩ := px_T_cl (k := 249) (pc := 3) (y := 226) (st := [.int x2, .int x1, .ref 56]) rfl (h1)
  exact ⟨n + 4, ⟨rfl, h⟩⟩
theorem sg_249_6 {x1 : Int32} {x2 : Int32} {d3 : Option Value} {d4 : Option Value} {s0 : Int32} {M : px_Mem} {Q : px_Po} (h1 : (s0 = 0) → Q (some (.int (-2))) M) (h2 : (¬ (s0 = 0)) → px_T 0 249 17 [some (.ref 56), some (.int x1), some (.int x2), some (.int 0), some (.int 0)] [] M Q) : px_T 0 249 6 [some (.ref 56), some (.int x1), some (.int x2), d3, d4] [.int s0] M Q := by
  by_cases c1 : s0 = 0
  · exact ⟨3, ⟨fun q => absurd c1 q, fun _ => ⟨trivial, h1 c1⟩⟩⟩
  · obtain ⟨n, h⟩ := h2 c1
    exact ⟨n + 5, ⟨fun _ => h, fun q => absurd q c1⟩⟩
theorem sg_249_17 {x1 : Int32} {x2 : Int32} {x3 : Int32} {x4 : Int32} {M : px_Mem} {Q : px_Po} (h1 : ((8 : Int32) ≤ x4) → Q (some (.int x3)) M) (h2 : (¬ ((8 : Int32) ≤ x4)) → px_T 0 246 0 [some (.ref 56), some (.int x1), some (.int x4), some (.int x2)] [] M (fun r M1 => px_T 0 249 33 [some (.ref 56), some (.int x1), some (.int x2), some (.int x3), some (.int x4)] (r.toList ++ [.int x3]) M1 Q)) : px_T 0 249 17 [some (.ref 56), some (.int x1), some (.int x2), some (.int x3), some (.int x4)] [] M Q := by
  by_cases c1 : (8 : Int32) ≤ x4
  · exact ⟨5, ⟨fun _ => ⟨trivial, h1 c1⟩, fun q => absurd c1 q⟩⟩
  · obtain ⟨n, h⟩ := px_T_cl (k := 249) (pc := 30) (y := 246) (st := [.int x2, .int x4, .int x1, .ref 56, .int x3]) rfl (h2 c1)
    exact ⟨n + 9, ⟨fun q => absurd q c1, fun _ => ⟨rfl, h⟩⟩⟩
theorem sg_249_33 {x1 : Int32} {x2 : Int32} {d3 : Option Value} {x4 : Int32} {s0 : Int32} {s1 : Int32} {M : px_Mem} {Q : px_Po} (h1 : (s0 = (-1)) → px_T 0 249 17 [some (.ref 56), some (.int x1), some (.int x2), some (.int (s1 ||| 0)), some (.int (x4 + 1))] [] M Q) (h2 : (¬ (s0 = (-1))) → px_T 0 249 17 [some (.ref 56), some (.int x1), some (.int x2), some (.int (s1 ||| (1 <<< (x4 &&& 31)))), some (.int (x4 + 1))] [] M Q) : px_T 0 249 33 [some (.ref 56), some (.int x1), some (.int x2), d3, some (.int x4)] [.int s0, .int s1] M Q := by
  by_cases c1 : s0 = (-1)
  · obtain ⟨n, h⟩ := h1 c1
    exact ⟨n + 7, ⟨fun _ => h, fun q => absurd c1 q⟩⟩
  · obtain ⟨n, h⟩ := h2 c1
    exact ⟨n + 10, ⟨fun q => absurd q c1, fun _ => h⟩⟩
theorem sg_250_0 {x1 : Int32} {x2 : Int32} {M : px_Mem} {Q : px_Po} (h1 : px_T 0 225 0 [some (.ref 56), some (.int x2)] [] M (fun r M1 => px_T 0 250 5 [some (.ref 56), some (.int x1), some (.int x2)] (r.toList ++ []) M1 Q)) : px_T 0 250 0 [some (.ref 56), some (.int x1), some (.int x2)] [] M Q := by
  obtain ⟨n, h⟩ := px_T_cl (k := 250) (pc := 2) (y := 225) (st := [.int x2, .ref 56]) rfl (h1)
  exact ⟨n + 3, ⟨rfl, h⟩⟩
theorem sg_250_5 {x1 : Int32} {x2 : Int32} {s0 : Int32} {M : px_Mem} {Q : px_Po} (h1 : (s0 = 0) → Q (some (.int (-2))) M) (h2 : (¬ (s0 = 0)) → px_T 0 186 0 [some (.int x1)] [] M (fun r M1 => px_T 0 250 12 [some (.ref 56), some (.int x1), some (.int x2)] (r.toList ++ []) M1 Q)) : px_T 0 250 5 [some (.ref 56), some (.int x1), some (.int x2)] [.int s0] M Q := by
  by_cases c1 : s0 = 0
  · exact ⟨3, ⟨fun _ => ⟨trivial, h1 c1⟩, fun q => absurd c1 q⟩⟩
  · obtain ⟨n, h⟩ := px_T_cl (k := 250) (pc := 9) (y := 186) (st := [.int x1]) rfl (h2 c1)
    exact ⟨n + 3, ⟨fun q => absurd q c1, fun _ => h⟩⟩
theorem sg_250_12 {x1 : Int32} {x2 : Int32} {s0 : Int32} {M : px_Mem} {Q : px_Po} (h1 : (s0 = 0) → Q (some (.int (-2))) M) (h2 : (¬ (s0 = 0)) → px_T 0 247 0 [some (.ref 56), some (.int x1), some (.int x2), none, none] [] M (fun r M1 => px_T 0 250 21 [some (.ref 56), some (.int x1), some (.int x2)] (r.toList ++ []) M1 Q)) : px_T 0 250 12 [some (.ref 56), some (.int x1), some (.int x2)] [.int s0] M Q := by
  by_cases c1 : s0 = 0
  · exact ⟨3, ⟨fun _ => ⟨trivial, h1 c1⟩, fun q => absurd c1 q⟩⟩
  · obtain ⟨n, h⟩ := px_T_cl (k := 250) (pc := 18) (y := 247) (st := [.int x2, .int x1, .ref 56]) rfl (h2 c1)
    exact ⟨n + 5, ⟨fun q => absurd q c1, fun _ => ⟨rfl, h⟩⟩⟩
theorem sg_250_21 {d0 : Option Value} {d1 : Option Value} {d2 : Option Value} {s0 : Int32} {M : px_Mem} {Q : px_Po} (h1 : Q (some (.int s0)) M) : px_T 0 250 21 [d0, d1, d2] [.int s0] M Q := by
  exact ⟨2, ⟨trivial, h1⟩⟩
theorem sg_251_0 {x1 : Int32} {x2 : Int32} {M : px_Mem} {Q : px_Po} (h1 : px_T 0 225 0 [some (.ref 56), some (.int x2)] [] M (fun r M1 => px_T 0 251 5 [some (.ref 56), some (.int x1), some (.int x2)] (r.toList ++ []) M1 Q)) : px_T 0 251 0 [some (.ref 56), some (.int x1), some (.int x2)] [] M Q := by
  obtain ⟨n, h⟩ := px_T_cl (k := 251) (pc := 2) (y := 225) (st := [.int x2, .ref 56]) rfl (h1)
  exact ⟨n + 3, ⟨rfl, h⟩⟩
theorem sg_251_5 {x1 : Int32} {x2 : Int32} {s0 : Int32} {M : px_Mem} {Q : px_Po} (h1 : (s0 = 0) → Q (some (.int (-2))) M) (h2 : (¬ (s0 = 0)) → px_T 0 186 0 [some (.int x1)] [] M (fun r M1 => px_T 0 251 12 [some (.ref 56), some (.int x1), some (.int x2)] (r.toList ++ []) M1 Q)) : px_T 0 251 5 [some (.ref 56), some (.int x1), some (.int x2)] [.int s0] M Q := by
  by_cases c1 : s0 = 0
  · exact ⟨3, ⟨fun _ => ⟨trivial, h1 c1⟩, fun q => absurd c1 q⟩⟩
  · obtain ⟨n, h⟩ := px_T_cl (k := 251) (pc := 9) (y := 186) (st := [.int x1]) rfl (h2 c1)
    exact ⟨n + 3, ⟨fun q => absurd q c1, fun _ => h⟩⟩
theorem sg_251_12 {x1 : Int32} {x2 : Int32} {s0 : Int32} {M : px_Mem} {Q : px_Po} (h1 : (s0 = 0) → Q (some (.int (-2))) M) (h2 : (¬ (s0 = 0)) → vp_in x2 73) (h3 : (¬ (s0 = 0)) → ((M.1 77 x2.toNatClampNeg) ≤ x1) → Q (some (.int (-1))) M) (h4 : (¬ (s0 = 0)) → (¬ ((M.1 77 x2.toNatClampNeg) ≤ x1)) → vp_in x1 200) (h5 : (¬ (s0 = 0)) → (¬ ((M.1 77 x2.toNatClampNeg) ≤ x1)) → Q (some (.int (M.1 71 x1.toNatClampNeg))) M) : px_T 0 251 12 [some (.ref 56), some (.int x1), some (.int x2)] [.int s0] M Q := by
  by_cases c1 : s0 = 0
  · exact ⟨3, ⟨fun q => absurd c1 q, fun _ => ⟨trivial, h1 c1⟩⟩⟩
  · by_cases c2 : (M.1 77 x2.toNatClampNeg) ≤ x1
    · exact ⟨9, ⟨fun _ => ⟨rfl, ⟨Or.inl ⟨0, 73, Or.inl rfl, rfl, (h2 c1)⟩, ⟨fun _ => ⟨trivial, h3 c1 c2⟩, fun q => absurd c2 q⟩⟩⟩, fun q => absurd q c1⟩⟩
    · exact ⟨13, ⟨fun _ => ⟨rfl, ⟨Or.inl ⟨0, 73, Or.inl rfl, rfl, (h2 c1)⟩, ⟨fun q => absurd q c2, fun _ => ⟨rfl, ⟨Or.inl ⟨0, 200, Or.inl rfl, rfl, (h4 c1 c2)⟩, ⟨trivial, h5 c1 c2⟩⟩⟩⟩⟩⟩, fun q => absurd q c1⟩⟩
theorem sg_252_0 {x1 : Int32} {M : px_Mem} {Q : px_Po} (h1 : px_T 0 225 0 [some (.ref 56), some (.int x1)] [] M (fun r M1 => px_T 0 252 5 [some (.ref 56), some (.int x1), none, none] (r.toList ++ []) M1 Q)) : px_T 0 252 0 [some (.ref 56), some (.int x1), none, none] [] M Q := by
  obtain ⟨n, h⟩ := px_T_cl (k := 252) (pc := 2) (y := 225) (st := [.int x1, .ref 56]) rfl (h1)
  exact ⟨n + 3, ⟨rfl, h⟩⟩
theorem sg_252_5 {x1 : Int32} {d2 : Option Value} {d3 : Option Value} {s0 : Int32} {M : px_Mem} {Q : px_Po} (h1 : (s0 = 0) → Q (some (.int (-2))) M) (h2 : (¬ (s0 = 0)) → px_T 0 252 15 [some (.ref 56), some (.int x1), some (.int 0), some (.int 0)] [] M Q) : px_T 0 252 5 [some (.ref 56), some (.int x1), d2, d3] [.int s0] M Q := by
  by_cases c1 : s0 = 0
  · exact ⟨3, ⟨fun q => absurd c1 q, fun _ => ⟨trivial, h1 c1⟩⟩⟩
  · obtain ⟨n, h⟩ := h2 c1
    exact ⟨n + 5, ⟨fun _ => h, fun q => absurd q c1⟩⟩
theorem sg_252_15 {x1 : Int32} {x2 : Int32} {x3 : Int32} {M : px_Mem} {Q : px_Po} (h1 : vp_in x1 73) (h2 : ((M.1 77 x1.toNatClampNeg) ≤ x3) → Q (some (.int x2)) M) (h3 : (¬ ((M.1 77 x1.toNatClampNeg) ≤ x3)) → px_T 0 247 0 [some (.ref 56), some (.int x3), some (.int x1), none, none] [] M (fun r M1 => px_T 0 252 32 [some (.ref 56), some (.int x1), some (.int x2), some (.int x3)] (r.toList ++ [.int x2]) M1 Q)) : px_T 0 252 15 [some (.ref 56), some (.int x1), some (.int x2), some (.int x3)] [] M Q := by
  by_cases c1 : (M.1 77 x1.toNatClampNeg) ≤ x3
  · exact ⟨8, ⟨rfl, ⟨Or.inl ⟨0, 73, Or.inl rfl, rfl, h1⟩, ⟨fun _ => ⟨trivial, h2 c1⟩, fun q => absurd c1 q⟩⟩⟩⟩
  · obtain ⟨n, h⟩ := px_T_cl (k := 252) (pc := 29) (y := 247) (st := [.int x1, .int x3, .ref 56, .int x2]) rfl (h3 c1)
    exact ⟨n + 11, ⟨rfl, ⟨Or.inl ⟨0, 73, Or.inl rfl, rfl, h1⟩, ⟨fun q => absurd q c1, fun _ => ⟨rfl, h⟩⟩⟩⟩⟩
theorem sg_252_32 {x1 : Int32} {d2 : Option Value} {x3 : Int32} {s0 : Int32} {s1 : Int32} {M : px_Mem} {Q : px_Po} (h1 : (s0 ≤ 0) → px_T 0 252 15 [some (.ref 56), some (.int x1), some (.int (s1 + 0)), some (.int (x3 + 1))] [] M Q) (h2 : (¬ (s0 ≤ 0)) → px_T 0 252 15 [some (.ref 56), some (.int x1), some (.int (s1 + 1)), some (.int (x3 + 1))] [] M Q) : px_T 0 252 32 [some (.ref 56), some (.int x1), d2, some (.int x3)] [.int s0, .int s1] M Q := by
  by_cases c1 : s0 ≤ 0
  · obtain ⟨n, h⟩ := h1 c1
    exact ⟨n + 6, ⟨fun _ => h, fun q => absurd c1 q⟩⟩
  · obtain ⟨n, h⟩ := h2 c1
    exact ⟨n + 7, ⟨fun q => absurd q c1, fun _ => h⟩⟩
theorem sg_253_0 {x1 : Int32} {x2 : Int32} {M : px_Mem} {Q : px_Po} (h1 : vp_in x2 73) (h2 : ((M.1 77 x2.toNatClampNeg) ≤ x1) → Q (some (.int (-1))) M) (h3 : (¬ ((M.1 77 x2.toNatClampNeg) ≤ x1)) → vp_in x1 200) (h4 : (¬ ((M.1 77 x2.toNatClampNeg) ≤ x1)) → ((M.1 71 x1.toNatClampNeg) = 0) → Q (some (.int (-1))) M) (h5 : (¬ ((M.1 77 x2.toNatClampNeg) ≤ x1)) → (¬ ((M.1 71 x1.toNatClampNeg) = 0)) → ((M.1 71 x1.toNatClampNeg) = 1) → px_T 0 247 0 [some (.ref 56), some (.int x1), some (.int x2), none, none] [] M (fun r M1 => px_T 0 253 45 [some (.ref 56), some (.int x1), some (.int x2), some (.int x1)] (r.toList ++ []) M1 Q)) (h6 : (¬ ((M.1 77 x2.toNatClampNeg) ≤ x1)) → (¬ ((M.1 71 x1.toNatClampNeg) = 0)) → (¬ ((M.1 71 x1.toNatClampNeg) = 1)) → px_T 0 247 0 [some (.ref 56), some (.int (x1 - 1)), some (.int x2), none, none] [] M (fun r M1 => px_T 0 253 45 [some (.ref 56), some (.int x1), some (.int x2), some (.int (x1 - 1))] (r.toList ++ []) M1 Q)) : px_T 0 253 0 [some (.ref 56), some (.int x1), some (.int x2), none] [] M Q := by
  by_cases c1 : (M.1 77 x2.toNatClampNeg) ≤ x1
  · exact ⟨8, ⟨rfl, ⟨Or.inl ⟨0, 73, Or.inl rfl, rfl, h1⟩, ⟨fun _ => ⟨trivial, h2 c1⟩, fun q => absurd c1 q⟩⟩⟩⟩
  · by_cases c2 : (M.1 71 x1.toNatClampNeg) = 0
    · exact ⟨13, ⟨rfl, ⟨Or.inl ⟨0, 73, Or.inl rfl, rfl, h1⟩, ⟨fun q => absurd q c1, fun _ => ⟨rfl, ⟨Or.inl ⟨0, 200, Or.inl rfl, rfl, (h3 c1)⟩, ⟨fun q => absurd c2 q, fun _ => ⟨trivial, h4 c1 c2⟩⟩⟩⟩⟩⟩⟩⟩
    · by_cases c3 : (M.1 71 x1.toNatClampNeg) = 1
      · obtain ⟨n, h⟩ := px_T_cl (k := 253) (pc := 42) (y := 247) (st := [.int x2, .int x1, .ref 56]) rfl (h5 c1 c2 c3)
        exact ⟨n + 24, ⟨rfl, ⟨Or.inl ⟨0, 73, Or.inl rfl, rfl, h1⟩, ⟨fun q => absurd q c1, fun _ => ⟨rfl, ⟨Or.inl ⟨0, 200, Or.inl rfl, rfl, (h3 c1)⟩, ⟨fun _ => ⟨rfl, ⟨Or.inl ⟨0, 200, Or.inl rfl, rfl, (h3 c1)⟩, ⟨fun q => absurd c3 q, fun _ => ⟨rfl, h⟩⟩⟩⟩, fun q => absurd q c2⟩⟩⟩⟩⟩⟩⟩
      · obtain ⟨n, h⟩ := px_T_cl (k := 253) (pc := 42) (y := 247) (st := [.int x2, .int (x1 - 1), .ref 56]) rfl (h6 c1 c2 c3)
        exact ⟨n + 25, ⟨rfl, ⟨Or.inl ⟨0, 73, Or.inl rfl, rfl, h1⟩, ⟨fun q => absurd q c1, fun _ => ⟨rfl, ⟨Or.inl ⟨0, 200, Or.inl rfl, rfl, (h3 c1)⟩, ⟨fun _ => ⟨rfl, ⟨Or.inl ⟨0, 200, Or.inl rfl, rfl, (h3 c1)⟩, ⟨fun _ => ⟨rfl, h⟩, fun q => absurd q c3⟩⟩⟩, fun q => absurd q c2⟩⟩⟩⟩⟩⟩⟩
theorem sg_253_45 {d1 : Option Value} {x2 : Int32} {x3 : Int32} {s0 : Int32} {M : px_Mem} {Q : px_Po} (h1 : px_T 0 247 0 [some (.ref 56), some (.int (x3 + 1)), some (.int x2), none, none] [] M (fun r M1 => px_T 0 253 53 [some (.ref 56), d1, some (.int x2), some (.int x3)] (r.toList ++ [.int s0]) M1 Q)) : px_T 0 253 45 [some (.ref 56), d1, some (.int x2), some (.int x3)] [.int s0] M Q := by
  obtain ⟨n, h⟩ := px_T_cl (k := 253) (pc := 50) (y := 247) (st := [.int x2, .int (x3 + 1), .ref 56, .int s0]) rfl (h1)
  exact ⟨n + 6, ⟨rfl, h⟩⟩
