theorem sg_270_37 {x1 : Int32} {d2 : Option Value} {M : px_Mem} {Q : px_Po} (h1 : px_T 0 269 0 [some (.ref 56), some (.int x1), none] [] M (fun r M1 => px_T 0 270 42 [some (.ref 56), some (.int x1), d2] (r.toList ++ []) M1 Q)) : px_T 0 270 37 [some (.ref 56), some (.int x1), d2] [] M Q := by
  obtain ⟨n, h⟩ := px_T_cl (k := 270) (pc := 39) (y := 269) (st := [.int x1, .ref 56]) rfl (h1)
  exact ⟨n + 3, ⟨rfl, h⟩⟩
theorem sg_270_42 {x1 : Int32} {d2 : Option Value} {s0 : Int32} {M : px_Mem} {Q : px_Po} (h1 : px_T 0 270 43 [some (.ref 56), some (.int x1), some (.int s0)] [] M Q) : px_T 0 270 42 [some (.ref 56), some (.int x1), d2] [.int s0] M Q := by
  obtain ⟨n, h⟩ := h1
  exact ⟨n + 1, h⟩
theorem sg_270_43 {x1 : Int32} {x2 : Int32} {M : px_Mem} {Q : px_Po} (h1 : (x2 = (-1)) → Q none M) (h2 : (¬ (x2 = (-1))) → px_T 0 267 0 [some (.ref 56), some (.int x2), some (.int x1), none, none] [] M (fun r M1 => px_T 0 270 56 [some (.ref 56), some (.int x1), some (.int x2)] (r.toList ++ [.int x2, .ref 56]) M1 Q)) : px_T 0 270 43 [some (.ref 56), some (.int x1), some (.int x2)] [] M Q := by
  by_cases c1 : x2 = (-1)
  · exact ⟨4, ⟨fun _ => ⟨rfl, h1 c1⟩, fun q => absurd c1 q⟩⟩
  · obtain ⟨n, h⟩ := px_T_cl (k := 270) (pc := 53) (y := 267) (st := [.int x1, .int x2, .ref 56, .int x2, .ref 56]) rfl (h2 c1)
    exact ⟨n + 9, ⟨fun q => absurd q c1, fun _ => ⟨rfl, h⟩⟩⟩
theorem sg_270_56 {x1 : Int32} {d2 : Option Value} {s0 : Int32} {s1 : Int32} {M : px_Mem} {Q : px_Po} (h1 : px_T 0 268 0 [some (.ref 56), some (.int s1), some (.int s0)] [] M (fun r M1 => px_T 0 270 59 [some (.ref 56), some (.int x1), d2] (r.toList ++ []) M1 Q)) : px_T 0 270 56 [some (.ref 56), some (.int x1), d2] [.int s0, .int s1, .ref 56] M Q := by
  obtain ⟨n, h⟩ := px_T_cl (k := 270) (pc := 56) (y := 268) (st := [.int s0, .int s1, .ref 56]) rfl (h1)
  exact ⟨n + 1, ⟨rfl, h⟩⟩
theorem sg_270_59 {x1 : Int32} {d2 : Option Value} {M : px_Mem} {Q : px_Po} (h1 : px_T 0 269 0 [some (.ref 56), some (.int x1), none] [] M (fun r M1 => px_T 0 270 64 [some (.ref 56), some (.int x1), d2] (r.toList ++ []) M1 Q)) : px_T 0 270 59 [some (.ref 56), some (.int x1), d2] [] M Q := by
  obtain ⟨n, h⟩ := px_T_cl (k := 270) (pc := 61) (y := 269) (st := [.int x1, .ref 56]) rfl (h1)
  exact ⟨n + 3, ⟨rfl, h⟩⟩
theorem sg_270_64 {x1 : Int32} {d2 : Option Value} {s0 : Int32} {M : px_Mem} {Q : px_Po} (h1 : px_T 0 270 43 [some (.ref 56), some (.int x1), some (.int s0)] [] M Q) : px_T 0 270 64 [some (.ref 56), some (.int x1), d2] [.int s0] M Q := by
  obtain ⟨n, h⟩ := h1
  exact ⟨n + 2, h⟩
theorem sg_271_0 {x1 : Int32} {M : px_Mem} {Q : px_Po} (h1 : px_T 0 225 0 [some (.ref 56), some (.int x1)] [] M (fun r M1 => px_T 0 271 5 [some (.ref 56), some (.int x1)] (r.toList ++ []) M1 Q)) : px_T 0 271 0 [some (.ref 56), some (.int x1)] [] M Q := by
  obtain ⟨n, h⟩ := px_T_cl (k := 271) (pc := 2) (y := 225) (st := [.int x1, .ref 56]) rfl (h1)
  exact ⟨n + 3, ⟨rfl, h⟩⟩
theorem sg_271_5 {x1 : Int32} {s0 : Int32} {M : px_Mem} {Q : px_Po} (h1 : (s0 = 0) → Q (some (.int 0)) M) (h2 : (¬ (s0 = 0)) → px_T 0 270 0 [some (.ref 56), some (.int x1), none] [] M (fun r M1 => px_T 0 271 15 [some (.ref 56), some (.int x1)] (r.toList ++ []) M1 Q)) : px_T 0 271 5 [some (.ref 56), some (.int x1)] [.int s0] M Q := by
  by_cases c1 : s0 = 0
  · exact ⟨3, ⟨fun q => absurd c1 q, fun _ => ⟨Or.inl rfl, h1 c1⟩⟩⟩
  · obtain ⟨n, h⟩ := px_T_cl (k := 271) (pc := 12) (y := 270) (st := [.int x1, .ref 56]) rfl (h2 c1)
    exact ⟨n + 4, ⟨fun _ => ⟨rfl, h⟩, fun q => absurd q c1⟩⟩
theorem sg_271_15 {d0 : Option Value} {d1 : Option Value} {M : px_Mem} {Q : px_Po} (h1 : Q (some (.int 1)) M) : px_T 0 271 15 [d0, d1] [] M Q := by
  exact ⟨2, ⟨Or.inr rfl, h1⟩⟩
theorem sg_272_0 {x1 : Int32} {M : px_Mem} {Q : px_Po} (h1 : px_T 0 270 0 [some (.ref 56), some (.int x1), none] [] M (fun r M1 => px_T 0 272 5 [some (.ref 56), some (.int x1)] (r.toList ++ []) M1 Q)) : px_T 0 272 0 [some (.ref 56), some (.int x1)] [] M Q := by
  obtain ⟨n, h⟩ := px_T_cl (k := 272) (pc := 2) (y := 270) (st := [.int x1, .ref 56]) rfl (h1)
  exact ⟨n + 3, ⟨rfl, h⟩⟩
theorem sg_272_5 {x1 : Int32} {M : px_Mem} {Q : px_Po} (h1 : vp_in x1 73) (h2 : Q (some (.int ((M.1 76 x1.toNatClampNeg) &&& ((M.1 56 43) ^^^ (-1))))) M) : px_T 0 272 5 [some (.ref 56), some (.int x1)] [] M Q := by
  exact ⟨10, ⟨rfl, ⟨Or.inl ⟨0, 73, Or.inl rfl, rfl, h1⟩, ⟨rfl, ⟨trivial, h2⟩⟩⟩⟩⟩
theorem sg_273_0 {x1 : Int32} {x2 : Int32} {M : px_Mem} {Q : px_Po} (h1 : px_T 0 271 0 [some (.ref 56), some (.int x2)] [] M (fun r M1 => px_T 0 273 5 [some (.ref 56), some (.int x1), some (.int x2)] (r.toList ++ []) M1 Q)) : px_T 0 273 0 [some (.ref 56), some (.int x1), some (.int x2)] [] M Q := by
  obtain ⟨n, h⟩ := px_T_cl (k := 273) (pc := 2) (y := 271) (st := [.int x2, .ref 56]) rfl (h1)
  exact ⟨n + 3, ⟨rfl, h⟩⟩
theorem sg_273_5 {x1 : Int32} {x2 : Int32} {s0 : Int32} {M : px_Mem} {Q : px_Po} (h1 : (s0 = 0) → Q (some (.int (-2))) M) (h2 : (¬ (s0 = 0)) → px_T 0 184 0 [some (.long x1.toInt64), none] [] M (fun r M1 => px_T 0 273 13 [some (.ref 56), some (.int x1), some (.int x2)] (r.toList ++ []) M1 Q)) : px_T 0 273 5 [some (.ref 56), some (.int x1), some (.int x2)] [.int s0] M Q := by
  by_cases c1 : s0 = 0
  · exact ⟨3, ⟨fun _ => ⟨trivial, h1 c1⟩, fun q => absurd c1 q⟩⟩
  · obtain ⟨n, h⟩ := px_T_cl (k := 273) (pc := 10) (y := 184) (st := [.long x1.toInt64]) rfl (h2 c1)
    exact ⟨n + 4, ⟨fun q => absurd q c1, fun _ => h⟩⟩
theorem sg_273_13 {x1 : Int32} {x2 : Int32} {s0 : Int32} {M : px_Mem} {Q : px_Po} (h1 : (s0 = 0) → Q (some (.int (-2))) M) (h2 : (¬ (s0 = 0)) → px_T 0 227 0 [some (.ref 56), some (.int x1), some (.int x2)] [] M (fun r M1 => px_T 0 273 25 [some (.ref 56), some (.int x1), some (.int x2)] (r.toList ++ []) M1 Q)) : px_T 0 273 13 [some (.ref 56), some (.int x1), some (.int x2)] [.int s0] M Q := by
  by_cases c1 : s0 = 0
  · exact ⟨3, ⟨fun q => absurd c1 q, fun _ => ⟨trivial, h1 c1⟩⟩⟩
  · obtain ⟨n, h⟩ := px_T_cl (k := 273) (pc := 22) (y := 227) (st := [.int x2, .int x1, .ref 56]) rfl (h2 c1)
    exact ⟨n + 5, ⟨fun _ => ⟨rfl, h⟩, fun q => absurd q c1⟩⟩
theorem sg_273_25 {x1 : Int32} {d2 : Option Value} {s0 : Int32} {M : px_Mem} {Q : px_Po} (h1 : (s0 = 0) → Q (some (.int (-1))) M) (h2 : (¬ (s0 = 0)) → vp_in x1 16) (h3 : (¬ (s0 = 0)) → Q (some (.int (M.1 85 x1.toNatClampNeg))) M) : px_T 0 273 25 [some (.ref 56), some (.int x1), d2] [.int s0] M Q := by
  by_cases c1 : s0 = 0
  · exact ⟨3, ⟨fun _ => ⟨trivial, h1 c1⟩, fun q => absurd c1 q⟩⟩
  · exact ⟨7, ⟨fun q => absurd q c1, fun _ => ⟨rfl, ⟨Or.inl ⟨0, 16, Or.inl rfl, rfl, (h2 c1)⟩, ⟨trivial, h3 c1⟩⟩⟩⟩⟩
theorem sg_274_0 {x1 : Int32} {M : px_Mem} {Q : px_Po} (h1 : px_T 0 225 0 [some (.ref 56), some (.int x1)] [] M (fun r M1 => px_T 0 274 5 [some (.ref 56), some (.int x1)] (r.toList ++ []) M1 Q)) : px_T 0 274 0 [some (.ref 56), some (.int x1)] [] M Q := by
  obtain ⟨n, h⟩ := px_T_cl (k := 274) (pc := 2) (y := 225) (st := [.int x1, .ref 56]) rfl (h1)
  exact ⟨n + 3, ⟨rfl, h⟩⟩
theorem sg_274_5 {x1 : Int32} {s0 : Int32} {M : px_Mem} {Q : px_Po} (h1 : (s0 = 0) → Q (some (.int (-2))) M) (h2 : (¬ (s0 = 0)) → px_T 0 272 0 [some (.ref 56), some (.int x1)] [] M (fun r M1 => px_T 0 274 13 [some (.ref 56), some (.int x1)] (r.toList ++ []) M1 Q)) : px_T 0 274 5 [some (.ref 56), some (.int x1)] [.int s0] M Q := by
  by_cases c1 : s0 = 0
  · exact ⟨3, ⟨fun _ => ⟨trivial, h1 c1⟩, fun q => absurd c1 q⟩⟩
  · obtain ⟨n, h⟩ := px_T_cl (k := 274) (pc := 10) (y := 272) (st := [.int x1, .ref 56]) rfl (h2 c1)
    exact ⟨n + 4, ⟨fun q => absurd q c1, fun _ => ⟨rfl, h⟩⟩⟩
theorem sg_274_13 {d0 : Option Value} {d1 : Option Value} {s0 : Int32} {M : px_Mem} {Q : px_Po} (h1 : Q (some (.int (s0 >>> (1 &&& 31)))) M) : px_T 0 274 13 [d0, d1] [.int s0] M Q := by
  exact ⟨4, ⟨trivial, h1⟩⟩
theorem sg_275_0 {x1 : Int32} {M : px_Mem} {Q : px_Po} (h1 : px_T 0 271 0 [some (.ref 56), some (.int x1)] [] M (fun r M1 => px_T 0 275 5 [some (.ref 56), some (.int x1), none, none] (r.toList ++ []) M1 Q)) : px_T 0 275 0 [some (.ref 56), some (.int x1), none, none] [] M Q := by
  obtain ⟨n, h⟩ := px_T_cl (k := 275) (pc := 2) (y := 271) (st := [.int x1, .ref 56]) rfl (h1)
  exact ⟨n + 3, ⟨rfl, h⟩⟩
theorem sg_275_5 {d1 : Option Value} {d2 : Option Value} {d3 : Option Value} {s0 : Int32} {M : px_Mem} {Q : px_Po} (h1 : (s0 = 0) → Q (some (.int (-2))) M) (h2 : (¬ (s0 = 0)) → px_T 0 275 15 [some (.ref 56), d1, some (.int 0), some (.int 1)] [] M Q) : px_T 0 275 5 [some (.ref 56), d1, d2, d3] [.int s0] M Q := by
  by_cases c1 : s0 = 0
  · exact ⟨3, ⟨fun q => absurd c1 q, fun _ => ⟨trivial, h1 c1⟩⟩⟩
  · obtain ⟨n, h⟩ := h2 c1
    exact ⟨n + 5, ⟨fun _ => h, fun q => absurd q c1⟩⟩
theorem sg_275_15 {d1 : Option Value} {x2 : Int32} {x3 : Int32} {M : px_Mem} {Q : px_Po} (h1 : ((M.1 56 46) ≤ x3) → Q (some (.int x2)) M) (h2 : (¬ ((M.1 56 46) ≤ x3)) → vp_in x3 16) (h3 : (¬ ((M.1 56 46) ≤ x3)) → vp_in (M.1 86 x3.toNatClampNeg) 16) (h4 : (¬ ((M.1 56 46) ≤ x3)) → ((M.1 85 ((M.1 86 x3.toNatClampNeg).toNatClampNeg)) = 1) → px_T 0 275 15 [some (.ref 56), d1, some (.int (x2 + 2)), some (.int (x3 + 1))] [] M Q) (h5 : (¬ ((M.1 56 46) ≤ x3)) → (¬ ((M.1 85 ((M.1 86 x3.toNatClampNeg).toNatClampNeg)) = 1)) → ((M.1 85 ((M.1 86 x3.toNatClampNeg).toNatClampNeg)) = 4) → px_T 0 275 15 [some (.ref 56), d1, some (.int (x2 + 3)), some (.int (x3 + 1))] [] M Q) (h6 : (¬ ((M.1 56 46) ≤ x3)) → (¬ ((M.1 85 ((M.1 86 x3.toNatClampNeg).toNatClampNeg)) = 1)) → (¬ ((M.1 85 ((M.1 86 x3.toNatClampNeg).toNatClampNeg)) = 4)) → px_T 0 275 15 [some (.ref 56), d1, some (.int (x2 + 1)), some (.int (x3 + 1))] [] M Q) : px_T 0 275 15 [some (.ref 56), d1, some (.int x2), some (.int x3)] [] M Q := by
  by_cases c1 : (M.1 56 46) ≤ x3
  · exact ⟨6, ⟨rfl, ⟨fun _ => ⟨trivial, h1 c1⟩, fun q => absurd c1 q⟩⟩⟩
  · by_cases c2 : (M.1 85 ((M.1 86 x3.toNatClampNeg).toNatClampNeg)) = 1
    · obtain ⟨n, h⟩ := h4 c1 c2
      exact ⟨n + 20, ⟨rfl, ⟨fun q => absurd q c1, fun _ => ⟨rfl, ⟨rfl, ⟨Or.inl ⟨0, 16, Or.inl rfl, rfl, (h2 c1)⟩, ⟨Or.inl ⟨0, 16, Or.inl rfl, rfl, (h3 c1)⟩, ⟨fun q => absurd c2 q, fun _ => h⟩⟩⟩⟩⟩⟩⟩⟩
    · by_cases c3 : (M.1 85 ((M.1 86 x3.toNatClampNeg).toNatClampNeg)) = 4
      · obtain ⟨n, h⟩ := h5 c1 c2 c3
        exact ⟨n + 29, ⟨rfl, ⟨fun q => absurd q c1, fun _ => ⟨rfl, ⟨rfl, ⟨Or.inl ⟨0, 16, Or.inl rfl, rfl, (h2 c1)⟩, ⟨Or.inl ⟨0, 16, Or.inl rfl, rfl, (h3 c1)⟩, ⟨fun _ => ⟨rfl, ⟨rfl, ⟨Or.inl ⟨0, 16, Or.inl rfl, rfl, (h2 c1)⟩, ⟨Or.inl ⟨0, 16, Or.inl rfl, rfl, (h3 c1)⟩, ⟨fun q => absurd c3 q, fun _ => h⟩⟩⟩⟩⟩, fun q => absurd q c2⟩⟩⟩⟩⟩⟩⟩⟩
      · obtain ⟨n, h⟩ := h6 c1 c2 c3
        exact ⟨n + 28, ⟨rfl, ⟨fun q => absurd q c1, fun _ => ⟨rfl, ⟨rfl, ⟨Or.inl ⟨0, 16, Or.inl rfl, rfl, (h2 c1)⟩, ⟨Or.inl ⟨0, 16, Or.inl rfl, rfl, (h3 c1)⟩, ⟨fun _ => ⟨rfl, ⟨rfl, ⟨Or.inl ⟨0, 16, Or.inl rfl, rfl, (h2 c1)⟩, ⟨Or.inl ⟨0, 16, Or.inl rfl, rfl, (h3 c1)⟩, ⟨fun _ => h, fun q => absurd q c3⟩⟩⟩⟩⟩, fun q => absurd q c2⟩⟩⟩⟩⟩⟩⟩⟩
theorem sg_276_0 {x1 : Int32} {x2 : Int32} {M : px_Mem} {Q : px_Po} (h1 : px_T 0 271 0 [some (.ref 56), some (.int x2)] [] M (fun r M1 => px_T 0 276 5 [some (.ref 56), some (.int x1), some (.int x2)] (r.toList ++ []) M1 Q)) : px_T 0 276 0 [some (.ref 56), some (.int x1), some (.int x2)] [] M Q := by
  obtain ⟨n, h⟩ := px_T_cl (k := 276) (pc := 2) (y := 271) (st := [.int x2, .ref 56]) rfl (h1)
  exact ⟨n + 3, ⟨rfl, h⟩⟩
theorem sg_276_5 {x1 : Int32} {d2 : Option Value} {s0 : Int32} {M : px_Mem} {Q : px_Po} (h1 : (s0 = 0) → Q (some (.int (-2))) M) (h2 : (¬ (s0 = 0)) → ((0 : Int32) ≤ x1) → ((M.1 56 46) ≤ x1) → Q (some (.int (-1))) M) (h3 : (¬ (s0 = 0)) → ((0 : Int32) ≤ x1) → (¬ ((M.1 56 46) ≤ x1)) → vp_in x1 16) (h4 : (¬ (s0 = 0)) → ((0 : Int32) ≤ x1) → (¬ ((M.1 56 46) ≤ x1)) → Q (some (.int (M.1 86 x1.toNatClampNeg))) M) (h5 : (¬ (s0 = 0)) → (¬ ((0 : Int32) ≤ x1)) → Q (some (.int (-2))) M) : px_T 0 276 5 [some (.ref 56), some (.int x1), d2] [.int s0] M Q := by
  by_cases c1 : s0 = 0
  · exact ⟨3, ⟨fun _ => ⟨trivial, h1 c1⟩, fun q => absurd c1 q⟩⟩
  · by_cases c2 : (0 : Int32) ≤ x1
    · by_cases c3 : (M.1 56 46) ≤ x1
      · exact ⟨9, ⟨fun q => absurd q c1, fun _ => ⟨fun _ => ⟨rfl, ⟨fun _ => ⟨trivial, h2 c1 c2 c3⟩, fun q => absurd c3 q⟩⟩, fun q => absurd c2 q⟩⟩⟩
      · exact ⟨13, ⟨fun q => absurd q c1, fun _ => ⟨fun _ => ⟨rfl, ⟨fun q => absurd q c3, fun _ => ⟨rfl, ⟨Or.inl ⟨0, 16, Or.inl rfl, rfl, (h3 c1 c2 c3)⟩, ⟨trivial, h4 c1 c2 c3⟩⟩⟩⟩⟩, fun q => absurd c2 q⟩⟩⟩
    · exact ⟨5, ⟨fun q => absurd q c1, fun _ => ⟨fun q => absurd q c2, fun _ => ⟨trivial, h5 c1 c2⟩⟩⟩⟩
theorem sg_277_0 {x1 : Int32} {M : px_Mem} {Q : px_Po} (h1 : px_T 0 271 0 [some (.ref 56), some (.int x1)] [] M (fun r M1 => px_T 0 277 5 [some (.ref 56), some (.int x1), none, none] (r.toList ++ []) M1 Q)) : px_T 0 277 0 [some (.ref 56), some (.int x1), none, none] [] M Q := by
  obtain ⟨n, h⟩ := px_T_cl (k := 277) (pc := 2) (y := 271) (st := [.int x1, .ref 56]) rfl (h1)
  exact ⟨n + 3, ⟨rfl, h⟩⟩
theorem sg_277_5 {d1 : Option Value} {d2 : Option Value} {d3 : Option Value} {s0 : Int32} {M : px_Mem} {Q : px_Po} (h1 : (s0 = 0) → Q (some (.int (-2))) M) (h2 : (¬ (s0 = 0)) → px_T 0 277 15 [some (.ref 56), d1, some (.int 0), some (.int 0)] [] M Q) : px_T 0 277 5 [some (.ref 56), d1, d2, d3] [.int s0] M Q := by
  by_cases c1 : s0 = 0
  · exact ⟨3, ⟨fun q => absurd c1 q, fun _ => ⟨trivial, h1 c1⟩⟩⟩
  · obtain ⟨n, h⟩ := h2 c1
    exact ⟨n + 5, ⟨fun _ => h, fun q => absurd q c1⟩⟩
theorem sg_277_15 {d1 : Option Value} {x2 : Int32} {x3 : Int32} {M : px_Mem} {Q : px_Po} (h1 : ((M.1 56 46) ≤ x3) → Q (some (.int x2)) M) (h2 : (¬ ((M.1 56 46) ≤ x3)) → vp_in x3 16) (h3 : (¬ ((M.1 56 46) ≤ x3)) → vp_in (M.1 86 x3.toNatClampNeg) 16) (h4 : (¬ ((M.1 56 46) ≤ x3)) → ((M.1 85 ((M.1 86 x3.toNatClampNeg).toNatClampNeg)) = 4) → px_T 0 277 15 [some (.ref 56), d1, some (.int (x2 + 1)), some (.int (x3 + 1))] [] M Q) (h5 : (¬ ((M.1 56 46) ≤ x3)) → (¬ ((M.1 85 ((M.1 86 x3.toNatClampNeg).toNatClampNeg)) = 4)) → px_T 0 277 15 [some (.ref 56), d1, some (.int (x2 + 0)), some (.int (x3 + 1))] [] M Q) : px_T 0 277 15 [some (.ref 56), d1, some (.int x2), some (.int x3)] [] M Q := by
  by_cases c1 : (M.1 56 46) ≤ x3
  · exact ⟨6, ⟨rfl, ⟨fun _ => ⟨trivial, h1 c1⟩, fun q => absurd c1 q⟩⟩⟩
  · by_cases c2 : (M.1 85 ((M.1 86 x3.toNatClampNeg).toNatClampNeg)) = 4
    · obtain ⟨n, h⟩ := h4 c1 c2
      exact ⟨n + 20, ⟨rfl, ⟨fun q => absurd q c1, fun _ => ⟨rfl, ⟨rfl, ⟨Or.inl ⟨0, 16, Or.inl rfl, rfl, (h2 c1)⟩, ⟨Or.inl ⟨0, 16, Or.inl rfl, rfl, (h3 c1)⟩, ⟨fun q => absurd c2 q, fun _ => h⟩⟩⟩⟩⟩⟩⟩⟩
    · obtain ⟨n, h⟩ := h5 c1 c2
      exact ⟨n + 19, ⟨rfl, ⟨fun q => absurd q c1, fun _ => ⟨rfl, ⟨rfl, ⟨Or.inl ⟨0, 16, Or.inl rfl, rfl, (h2 c1)⟩, ⟨Or.inl ⟨0, 16, Or.inl rfl, rfl, (h3 c1)⟩, ⟨fun _ => h, fun q => absurd q c2⟩⟩⟩⟩⟩⟩⟩⟩
theorem sg_278_0 {M : px_Mem} {Q : px_Po} (h1 : px_T 0 224 0 [some (.ref 56)] [] M (fun r M1 => px_T 0 278 4 [some (.ref 56), none] (r.toList ++ []) M1 Q)) : px_T 0 278 0 [some (.ref 56), none] [] M Q := by
  obtain ⟨n, h⟩ := px_T_cl (k := 278) (pc := 1) (y := 224) (st := [.ref 56]) rfl (h1)
  exact ⟨n + 2, ⟨rfl, h⟩⟩
theorem sg_278_4 {d1 : Option Value} {s0 : Int32} {M : px_Mem} {Q : px_Po} (h1 : (s0 = 0) → Q (some (.int (-2))) M) (h2 : (¬ (s0 = 0)) → px_T 0 278 15 [some (.ref 56), some (.int (M.1 56 20))] [] M Q) : px_T 0 278 4 [some (.ref 56), d1] [.int s0] M Q := by
  by_cases c1 : s0 = 0
  · exact ⟨3, ⟨fun q => absurd c1 q, fun _ => ⟨trivial, h1 c1⟩⟩⟩
  · obtain ⟨n, h⟩ := h2 c1
    exact ⟨n + 4, ⟨fun _ => ⟨rfl, h⟩, fun q => absurd q c1⟩⟩
theorem sg_278_15 {x1 : Int32} {M : px_Mem} {Q : px_Po} (h1 : px_T 0 272 0 [some (.ref 56), some (.int x1)] [] M (fun r M1 => px_T 0 278 20 [some (.ref 56), some (.int x1)] (r.toList ++ []) M1 Q)) : px_T 0 278 15 [some (.ref 56), some (.int x1)] [] M Q := by
  obtain ⟨n, h⟩ := px_T_cl (k := 278) (pc := 17) (y := 272) (st := [.int x1, .ref 56]) rfl (h1)
  exact ⟨n + 3, ⟨rfl, h⟩⟩
theorem sg_278_20 {x1 : Int32} {s0 : Int32} {M : px_Mem} {Q : px_Po} (h1 : (s0 = 0) → Q (some (.int x1)) M) (h2 : (¬ (s0 = 0)) → px_T 0 278 23 [some (.ref 56), some (.int x1)] [] M Q) : px_T 0 278 20 [some (.ref 56), some (.int x1)] [.int s0] M Q := by
  by_cases c1 : s0 = 0
  · exact ⟨3, ⟨fun _ => ⟨trivial, h1 c1⟩, fun q => absurd c1 q⟩⟩
  · obtain ⟨n, h⟩ := h2 c1
    exact ⟨n + 1, ⟨fun q => absurd q c1, fun _ => h⟩⟩
theorem sg_278_26 {y : Int32} {M : px_Mem} {Q : px_Po} (h1 : px_T 0 278 15 [some (.ref 56), some (.int y)] [] M Q) : px_T 0 278 26 [some (.ref 56), some (.int y)] [] M Q := by
  obtain ⟨n, h⟩ := h1
  exact ⟨n + 1, h⟩
theorem sg_278_23 {x1 : Int32} {M : px_Mem} {Q : px_Po} (h1 : px_T 0 278 15 [some (.ref 56), some (.int (x1 + (Int32.ofInt (-1))))] [] M Q) : px_T 0 278 23 [some (.ref 56), some (.int x1)] [] M Q :=
  px_T_ii (j := 1) (c := -1) (len := 3) rfl rfl (sg_278_26 h1)
theorem sg_279_0 {x1 : Int32} {x2 : Int32} {x3 : Int32} {M : px_Mem} {Q : px_Po} (h1 : px_T 0 279 6 [some (.ref 56), some (.int x1), some (.int x2), some (.int x3), some (.int 0), some (.int x2)] [] M Q) : px_T 0 279 0 [some (.ref 56), some (.int x1), some (.int x2), some (.int x3), none, none] [] M Q := by
  obtain ⟨n, h⟩ := h1
  exact ⟨n + 4, h⟩
theorem sg_279_6 {x1 : Int32} {d2 : Option Value} {x3 : Int32} {x4 : Int32} {x5 : Int32} {M : px_Mem} {Q : px_Po} (h1 : (x3 ≤ x5) → px_T 0 227 0 [some (.ref 56), some (.int x1), some (.int x3)] [] M (fun r M1 => px_T 0 279 61 [some (.ref 56), some (.int x1), d2, some (.int x3), some (.int x4), some (.int x5)] (r.toList ++ []) M1 Q)) (h2 : (¬ (x3 ≤ x5)) → vp_in x5 72) (h3 : (¬ (x3 ≤ x5)) → ((M.1 74 x5.toNatClampNeg) = 0) → px_T 0 279 6 [some (.ref 56), some (.int x1), d2, some (.int x3), some (.int (x4 ||| 0)), some (.int (x5 + 1))] [] M Q) (h4 : (¬ (x3 ≤ x5)) → (¬ ((M.1 74 x5.toNatClampNeg) = 0)) → ((M.1 75 x5.toNatClampNeg) = x1) → px_T 0 279 6 [some (.ref 56), some (.int x1), d2, some (.int x3), some (.int (x4 ||| (M.1 74 x5.toNatClampNeg))), some (.int (x5 + 1))] [] M Q) (h5 : (¬ (x3 ≤ x5)) → (¬ ((M.1 74 x5.toNatClampNeg) = 0)) → (¬ ((M.1 75 x5.toNatClampNeg) = x1)) → px_T 0 279 6 [some (.ref 56), some (.int x1), d2, some (.int x3), some (.int (x4 ||| 0)), some (.int (x5 + 1))] [] M Q) : px_T 0 279 6 [some (.ref 56), some (.int x1), d2, some (.int x3), some (.int x4), some (.int x5)] [] M Q := by
  by_cases c1 : x3 ≤ x5
  · obtain ⟨n, h⟩ := px_T_cl (k := 279) (pc := 58) (y := 227) (st := [.int x3, .int x1, .ref 56]) rfl (h1 c1)
    exact ⟨n + 7, ⟨fun _ => ⟨rfl, h⟩, fun q => absurd c1 q⟩⟩
  · by_cases c2 : (M.1 74 x5.toNatClampNeg) = 0
    · obtain ⟨n, h⟩ := h3 c1 c2
      exact ⟨n + 14, ⟨fun q => absurd q c1, fun _ => ⟨rfl, ⟨Or.inl ⟨0, 72, Or.inl rfl, rfl, (h2 c1)⟩, ⟨fun _ => h, fun q => absurd c2 q⟩⟩⟩⟩⟩
    · by_cases c3 : (M.1 75 x5.toNatClampNeg) = x1
      · obtain ⟨n, h⟩ := h4 c1 c2 c3
        exact ⟨n + 24, ⟨fun q => absurd q c1, fun _ => ⟨rfl, ⟨Or.inl ⟨0, 72, Or.inl rfl, rfl, (h2 c1)⟩, ⟨fun q => absurd q c2, fun _ => ⟨rfl, ⟨Or.inl ⟨0, 72, Or.inl rfl, rfl, (h2 c1)⟩, ⟨fun q => absurd c3 q, fun _ => ⟨rfl, ⟨Or.inl ⟨0, 72, Or.inl rfl, rfl, (h2 c1)⟩, h⟩⟩⟩⟩⟩⟩⟩⟩⟩⟩
      · obtain ⟨n, h⟩ := h5 c1 c2 c3
        exact ⟨n + 20, ⟨fun q => absurd q c1, fun _ => ⟨rfl, ⟨Or.inl ⟨0, 72, Or.inl rfl, rfl, (h2 c1)⟩, ⟨fun q => absurd q c2, fun _ => ⟨rfl, ⟨Or.inl ⟨0, 72, Or.inl rfl, rfl, (h2 c1)⟩, ⟨fun _ => h, fun q => absurd q c3⟩⟩⟩⟩⟩⟩⟩⟩
theorem sg_279_61 {d0 : Option Value} {d1 : Option Value} {d2 : Option Value} {d3 : Option Value} {x4 : Int32} {d5 : Option Value} {s0 : Int32} {M : px_Mem} {Q : px_Po} (h1 : (s0 = 0) → Q (some (.int 0)) M) (h2 : (¬ (s0 = 0)) → Q (some (.int x4)) M) : px_T 0 279 61 [d0, d1, d2, d3, some (.int x4), d5] [.int s0] M Q := by
  by_cases c1 : s0 = 0
  · exact ⟨3, ⟨fun _ => ⟨trivial, h1 c1⟩, fun q => absurd c1 q⟩⟩
  · exact ⟨4, ⟨fun q => absurd q c1, fun _ => ⟨trivial, h2 c1⟩⟩⟩
theorem sg_280_0 {x1 : Int32} {x2 : Int32} {x3 : Int32} {M : px_Mem} {Q : px_Po} (h1 : px_T 0 226 0 [some (.ref 56), some (.int x1), some (.int x2)] [] M (fun r M1 => px_T 0 280 6 [some (.ref 56), some (.int x1), some (.int x2), some (.int x3)] (r.toList ++ []) M1 Q)) : px_T 0 280 0 [some (.ref 56), some (.int x1), some (.int x2), some (.int x3)] [] M Q := by
  obtain ⟨n, h⟩ := px_T_cl (k := 280) (pc := 3) (y := 226) (st := [.int x2, .int x1, .ref 56]) rfl (h1)
  exact ⟨n + 4, ⟨rfl, h⟩⟩
theorem sg_280_6 {x1 : Int32} {x2 : Int32} {x3 : Int32} {s0 : Int32} {M : px_Mem} {Q : px_Po} (h1 : (s0 = 0) → Q (some (.int (-2))) M) (h2 : (¬ (s0 = 0)) → px_T 0 183 0 [some (.ref 56), some (.long x3.toInt64), none] [] M (fun r M1 => px_T 0 280 15 [some (.ref 56), some (.int x1), some (.int x2), some (.int x3)] (r.toList ++ []) M1 Q)) : px_T 0 280 6 [some (.ref 56), some (.int x1), some (.int x2), some (.int x3)] [.int s0] M Q := by
  by_cases c1 : s0 = 0
  · exact ⟨3, ⟨fun _ => ⟨trivial, h1 c1⟩, fun q => absurd c1 q⟩⟩
  · obtain ⟨n, h⟩ := px_T_cl (k := 280) (pc := 12) (y := 183) (st := [.long x3.toInt64, .ref 56]) rfl (h2 c1)
    exact ⟨n + 5, ⟨fun q => absurd q c1, fun _ => ⟨rfl, h⟩⟩⟩
theorem sg_280_15 {x1 : Int32} {x2 : Int32} {x3 : Int32} {s0 : Int32} {M : px_Mem} {Q : px_Po} (h1 : (s0 = 0) → Q (some (.int (-2))) M) (h2 : (¬ (s0 = 0)) → (x3 < x2) → Q (some (.int (-2))) M) (h3 : (¬ (s0 = 0)) → (¬ (x3 < x2)) → px_T 0 279 0 [some (.ref 56), some (.int x1), some (.int x2), some (.int x3), none, none] [] M (fun r M1 => px_T 0 280 30 [some (.ref 56), some (.int x1), some (.int x2), some (.int x3)] (r.toList ++ []) M1 Q)) : px_T 0 280 15 [some (.ref 56), some (.int x1), some (.int x2), some (.int x3)] [.int s0] M Q := by
  by_cases c1 : s0 = 0
  · exact ⟨3, ⟨fun _ => ⟨trivial, h1 c1⟩, fun q => absurd c1 q⟩⟩
  · by_cases c2 : x3 < x2
    · exact ⟨6, ⟨fun q => absurd q c1, fun _ => ⟨fun _ => ⟨trivial, h2 c1 c2⟩, fun q => absurd c2 q⟩⟩⟩
    · obtain ⟨n, h⟩ := px_T_cl (k := 280) (pc := 27) (y := 279) (st := [.int x3, .int x2, .int x1, .ref 56]) rfl (h3 c1 c2)
      exact ⟨n + 9, ⟨fun q => absurd q c1, fun _ => ⟨fun q => absurd q c2, fun _ => ⟨rfl, h⟩⟩⟩⟩
theorem sg_280_30 {d0 : Option Value} {d1 : Option Value} {d2 : Option Value} {d3 : Option Value} {s0 : Int32} {M : px_Mem} {Q : px_Po} (h1 : Q (some (.int s0)) M) : px_T 0 280 30 [d0, d1, d2, d3] [.int s0] M Q := by
  exact ⟨2, ⟨trivial, h1⟩⟩
theorem sg_281_0 {x1 : Int32} {x2 : Int32} {M : px_Mem} {Q : px_Po} (h1 : px_T 0 281 5 [some (.ref 56), some (.int x1), some (.int x2), some (.int 0), some (.int 1)] [] M Q) : px_T 0 281 0 [some (.ref 56), some (.int x1), some (.int x2), none, none] [] M Q := by
  obtain ⟨n, h⟩ := h1
  exact ⟨n + 4, h⟩
theorem sg_281_5 {x1 : Int32} {x2 : Int32} {x3 : Int32} {x4 : Int32} {M : px_Mem} {Q : px_Po} (h1 : ((16 : Int32) ≤ x4) → Q (some (.int x3)) M) (h2 : (¬ ((16 : Int32) ≤ x4)) → px_T 0 279 0 [some (.ref 56), some (.int x4), some (.int x1), some (.int x2), none, none] [] M (fun r M1 => px_T 0 281 21 [some (.ref 56), some (.int x1), some (.int x2), some (.int x3), some (.int x4)] (r.toList ++ [.int x3]) M1 Q)) : px_T 0 281 5 [some (.ref 56), some (.int x1), some (.int x2), some (.int x3), some (.int x4)] [] M Q := by
  by_cases c1 : (16 : Int32) ≤ x4
  · exact ⟨5, ⟨fun _ => ⟨trivial, h1 c1⟩, fun q => absurd c1 q⟩⟩
  · obtain ⟨n, h⟩ := px_T_cl (k := 281) (pc := 18) (y := 279) (st := [.int x2, .int x1, .int x4, .ref 56, .int x3]) rfl (h2 c1)
    exact ⟨n + 9, ⟨fun q => absurd q c1, fun _ => ⟨rfl, h⟩⟩⟩
theorem sg_281_21 {x1 : Int32} {x2 : Int32} {d3 : Option Value} {x4 : Int32} {s0 : Int32} {s1 : Int32} {M : px_Mem} {Q : px_Po} (h1 : px_T 0 176 0 [some (.int s0), none, none] [] M (fun r M1 => px_T 0 281 24 [some (.ref 56), some (.int x1), some (.int x2), d3, some (.int x4)] (r.toList ++ [.int s1]) M1 Q)) : px_T 0 281 21 [some (.ref 56), some (.int x1), some (.int x2), d3, some (.int x4)] [.int s0, .int s1] M Q := by
  obtain ⟨n, h⟩ := px_T_cl (k := 281) (pc := 21) (y := 176) (st := [.int s0, .int s1]) rfl (h1)
  exact ⟨n + 1, h⟩
theorem sg_281_24 {x1 : Int32} {x2 : Int32} {d3 : Option Value} {x4 : Int32} {s0 : Int32} {s1 : Int32} {M : px_Mem} {Q : px_Po} (h1 : px_T 0 281 5 [some (.ref 56), some (.int x1), some (.int x2), some (.int (s1 + s0)), some (.int (x4 + 1))] [] M Q) : px_T 0 281 24 [some (.ref 56), some (.int x1), some (.int x2), d3, some (.int x4)] [.int s0, .int s1] M Q := by
  obtain ⟨n, h⟩ := h1
  exact ⟨n + 4, h⟩
theorem sg_282_0 {x1 : Int32} {x2 : Int32} {x3 : Int32} {M : px_Mem} {Q : px_Po} (h1 : ¬ x2 = 0) (h2 : Q (some (.int ((((x3 - x1) - 1) / x2) + 1))) M) : px_T 0 282 0 [some (.ref 56), some (.int x1), some (.int x2), some (.int x3)] [] M Q := by
  exact ⟨10, ⟨h1, ⟨trivial, h2⟩⟩⟩
theorem sg_283_0 {x1 : Int32} {x2 : Int32} {x3 : Int32} {x4 : Int32} {M : px_Mem} {Q : px_Po} (h1 : (x4 = 0) → px_T 0 230 0 [some (.ref 56), some (.int x1)] [] M (fun r M1 => px_T 0 283 12 [some (.ref 56), some (.int x1), some (.int x2), some (.int x3), some (.int x4)] (r.toList ++ [.int 8]) M1 Q)) (h2 : (¬ (x4 = 0)) → px_T 0 282 0 [some (.ref 56), some (.int x1), some (.int x2), some (.int x3)] [] M (fun r M1 => px_T 0 283 32 [some (.ref 56), some (.int x1), some (.int x2), some (.int x3), some (.int x4)] (r.toList ++ [.int x4, .int (x1 + ((x4 - 1) * x2)), .ref 56]) M1 Q)) : px_T 0 283 0 [some (.ref 56), some (.int x1), some (.int x2), some (.int x3), some (.int x4)] [] M Q := by
  by_cases c1 : x4 = 0
  · obtain ⟨n, h⟩ := px_T_cl (k := 283) (pc := 9) (y := 230) (st := [.int x1, .ref 56, .int 8]) rfl (h1 c1)
    exact ⟨n + 6, ⟨fun q => absurd c1 q, fun _ => ⟨rfl, h⟩⟩⟩
  · obtain ⟨n, h⟩ := px_T_cl (k := 283) (pc := 29) (y := 282) (st := [.int x3, .int x2, .int x1, .ref 56, .int x4, .int (x1 + ((x4 - 1) * x2)), .ref 56]) rfl (h2 c1)
    exact ⟨n + 16, ⟨fun _ => ⟨rfl, h⟩, fun q => absurd q c1⟩⟩
theorem sg_283_12 {d0 : Option Value} {d1 : Option Value} {d2 : Option Value} {d3 : Option Value} {d4 : Option Value} {s0 : Int32} {s1 : Int32} {M : px_Mem} {Q : px_Po} (h1 : Q (some (.int (s1 * s0))) M) : px_T 0 283 12 [d0, d1, d2, d3, d4] [.int s0, .int s1] M Q := by
  exact ⟨2, ⟨trivial, h1⟩⟩
theorem sg_283_32 {d0 : Option Value} {x1 : Int32} {x2 : Int32} {x3 : Int32} {x4 : Int32} {s0 : Int32} {s1 : Int32} {s2 : Int32} {M : px_Mem} {Q : px_Po} (h1 : (s1 = s0) → px_T 0 281 0 [some (.ref 56), some (.int s2), some (.int x3), none, none] [] M (fun r M1 => px_T 0 283 48 [d0, some (.int x1), some (.int x2), some (.int x3), some (.int x4)] (r.toList ++ []) M1 Q)) (h2 : (¬ (s1 = s0)) → px_T 0 281 0 [some (.ref 56), some (.int s2), some (.int (x1 + (x4 * x2))), none, none] [] M (fun r M1 => px_T 0 283 48 [d0, some (.int x1), some (.int x2), some (.int x3), some (.int x4)] (r.toList ++ []) M1 Q)) : px_T 0 283 32 [d0, some (.int x1), some (.int x2), some (.int x3), some (.int x4)] [.int s0, .int s1, .int s2, .ref 56] M Q := by
  by_cases c1 : s1 = s0
  · obtain ⟨n, h⟩ := px_T_cl (k := 283) (pc := 45) (y := 281) (st := [.int x3, .int s2, .ref 56]) rfl (h1 c1)
    exact ⟨n + 4, ⟨fun q => absurd c1 q, fun _ => ⟨rfl, h⟩⟩⟩
  · obtain ⟨n, h⟩ := px_T_cl (k := 283) (pc := 45) (y := 281) (st := [.int (x1 + (x4 * x2)), .int s2, .ref 56]) rfl (h2 c1)
    exact ⟨n + 7, ⟨fun _ => ⟨rfl, h⟩, fun q => absurd q c1⟩⟩
theorem sg_283_48 {d0 : Option Value} {d1 : Option Value} {d2 : Option Value} {d3 : Option Value} {d4 : Option Value} {s0 : Int32} {M : px_Mem} {Q : px_Po} (h1 : Q (some (.int s0)) M) : px_T 0 283 48 [d0, d1, d2, d3, d4] [.int s0] M Q := by
  exact ⟨1, ⟨trivial, h1⟩⟩
theorem sg_284_0 {x1 : Int32} {x2 : Int32} {x3 : Int32} {M : px_Mem} {Q : px_Po} (h1 : px_T 0 284 6 [some (.ref 56), some (.int x1), some (.int x2), some (.int x3), some (.int 0), some (.int 0)] [] M Q) : px_T 0 284 0 [some (.ref 56), some (.int x1), some (.int x2), some (.int x3), none, none] [] M Q := by
  obtain ⟨n, h⟩ := h1
  exact ⟨n + 4, h⟩
theorem sg_284_6 {x1 : Int32} {x2 : Int32} {x3 : Int32} {x4 : Int32} {x5 : Int32} {M : px_Mem} {Q : px_Po} (h1 : px_T 0 282 0 [some (.ref 56), some (.int x1), some (.int x2), some (.int x3)] [] M (fun r M1 => px_T 0 284 15 [some (.ref 56), some (.int x1), some (.int x2), some (.int x3), some (.int x4), some (.int x5)] (r.toList ++ [.int x5]) M1 Q)) : px_T 0 284 6 [some (.ref 56), some (.int x1), some (.int x2), some (.int x3), some (.int x4), some (.int x5)] [] M Q := by
  obtain ⟨n, h⟩ := px_T_cl (k := 284) (pc := 12) (y := 282) (st := [.int x3, .int x2, .int x1, .ref 56, .int x5]) rfl (h1)
  exact ⟨n + 6, ⟨rfl, h⟩⟩
theorem sg_284_15 {x1 : Int32} {x2 : Int32} {x3 : Int32} {x4 : Int32} {x5 : Int32} {s0 : Int32} {s1 : Int32} {M : px_Mem} {Q : px_Po} (h1 : (s0 < s1) → Q (some (.int x4)) M) (h2 : (¬ (s0 < s1)) → px_T 0 283 0 [some (.ref 56), some (.int x1), some (.int x2), some (.int x3), some (.int x5)] [] M (fun r M1 => px_T 0 284 29 [some (.ref 56), some (.int x1), some (.int x2), some (.int x3), some (.int x4), some (.int x5)] (r.toList ++ [.int x4]) M1 Q)) : px_T 0 284 15 [some (.ref 56), some (.int x1), some (.int x2), some (.int x3), some (.int x4), some (.int x5)] [.int s0, .int s1] M Q := by
  by_cases c1 : s0 < s1
  · exact ⟨3, ⟨fun _ => ⟨trivial, h1 c1⟩, fun q => absurd c1 q⟩⟩
  · obtain ⟨n, h⟩ := px_T_cl (k := 284) (pc := 26) (y := 283) (st := [.int x5, .int x3, .int x2, .int x1, .ref 56, .int x4]) rfl (h2 c1)
    exact ⟨n + 8, ⟨fun q => absurd q c1, fun _ => ⟨rfl, h⟩⟩⟩
theorem sg_284_29 {x1 : Int32} {x2 : Int32} {x3 : Int32} {d4 : Option Value} {x5 : Int32} {s0 : Int32} {s1 : Int32} {M : px_Mem} {Q : px_Po} (h1 : px_T 0 284 6 [some (.ref 56), some (.int x1), some (.int x2), some (.int x3), some (.int (s1 + s0)), some (.int (x5 + 1))] [] M Q) : px_T 0 284 29 [some (.ref 56), some (.int x1), some (.int x2), some (.int x3), d4, some (.int x5)] [.int s0, .int s1] M Q := by
  obtain ⟨n, h⟩ := h1
  exact ⟨n + 4, h⟩
theorem sg_285_0 {x1 : Int32} {x2 : Int32} {M : px_Mem} {Q : px_Po} (h1 : px_T 0 225 0 [some (.ref 56), some (.int x1)] [] M (fun r M1 => px_T 0 285 5 [some (.ref 56), some (.int x1), some (.int x2)] (r.toList ++ []) M1 Q)) : px_T 0 285 0 [some (.ref 56), some (.int x1), some (.int x2)] [] M Q := by
  obtain ⟨n, h⟩ := px_T_cl (k := 285) (pc := 2) (y := 225) (st := [.int x1, .ref 56]) rfl (h1)
  exact ⟨n + 3, ⟨rfl, h⟩⟩
theorem sg_285_5 {x1 : Int32} {x2 : Int32} {s0 : Int32} {M : px_Mem} {Q : px_Po} (h1 : (s0 = 0) → Q (some (.int 0)) M) (h2 : (¬ (s0 = 0)) → px_T 0 183 0 [some (.ref 56), some (.long x2.toInt64), none] [] M (fun r M1 => px_T 0 285 14 [some (.ref 56), some (.int x1), some (.int x2)] (r.toList ++ []) M1 Q)) : px_T 0 285 5 [some (.ref 56), some (.int x1), some (.int x2)] [.int s0] M Q := by
  by_cases c1 : s0 = 0
  · exact ⟨3, ⟨fun _ => ⟨Or.inl rfl, h1 c1⟩, fun q => absurd c1 q⟩⟩
  · obtain ⟨n, h⟩ := px_T_cl (k := 285) (pc := 11) (y := 183) (st := [.long x2.toInt64, .ref 56]) rfl (h2 c1)
    exact ⟨n + 5, ⟨fun q => absurd q c1, fun _ => ⟨rfl, h⟩⟩⟩
theorem sg_285_14 {d0 : Option Value} {x1 : Int32} {x2 : Int32} {s0 : Int32} {M : px_Mem} {Q : px_Po} (h1 : (s0 = 0) → Q (some (.int 0)) M) (h2 : (¬ (s0 = 0)) → (x2 ≤ x1) → Q (some (.int 0)) M) (h3 : (¬ (s0 = 0)) → (¬ (x2 ≤ x1)) → Q (some (.int 1)) M) : px_T 0 285 14 [d0, some (.int x1), some (.int x2)] [.int s0] M Q := by
  by_cases c1 : s0 = 0
  · exact ⟨3, ⟨fun _ => ⟨Or.inl rfl, h1 c1⟩, fun q => absurd c1 q⟩⟩
  · by_cases c2 : x2 ≤ x1
    · exact ⟨6, ⟨fun q => absurd q c1, fun _ => ⟨fun _ => ⟨Or.inl rfl, h2 c1 c2⟩, fun q => absurd c2 q⟩⟩⟩
    · exact ⟨7, ⟨fun q => absurd q c1, fun _ => ⟨fun q => absurd q c2, fun _ => ⟨Or.inr rfl, h3 c1 c2⟩⟩⟩⟩
theorem sg_286_0 {x1 : Int32} {x2 : Int32} {x3 : Int32} {x4 : Int32} {M : px_Mem} {Q : px_Po} (h1 : px_T 0 285 0 [some (.ref 56), some (.int x1), some (.int x3)] [] M (fun r M1 => px_T 0 286 6 [some (.ref 56), some (.int x1), some (.int x2), some (.int x3), some (.int x4)] (r.toList ++ []) M1 Q)) : px_T 0 286 0 [some (.ref 56), some (.int x1), some (.int x2), some (.int x3), some (.int x4)] [] M Q := by
  obtain ⟨n, h⟩ := px_T_cl (k := 286) (pc := 3) (y := 285) (st := [.int x3, .int x1, .ref 56]) rfl (h1)
  exact ⟨n + 4, ⟨rfl, h⟩⟩
theorem sg_286_6 {x1 : Int32} {x2 : Int32} {x3 : Int32} {x4 : Int32} {s0 : Int32} {M : px_Mem} {Q : px_Po} (h1 : (s0 = 0) → Q (some (.int (-2))) M) (h2 : (¬ (s0 = 0)) → px_T 0 175 0 [some (.long x2.toInt64), none, some (.long 1), none, some (.long 40), none] [] M (fun r M1 => px_T 0 286 18 [some (.ref 56), some (.int x1), some (.int x2), some (.int x3), some (.int x4)] (r.toList ++ []) M1 Q)) : px_T 0 286 6 [some (.ref 56), some (.int x1), some (.int x2), some (.int x3), some (.int x4)] [.int s0] M Q := by
  by_cases c1 : s0 = 0
  · exact ⟨3, ⟨fun _ => ⟨trivial, h1 c1⟩, fun q => absurd c1 q⟩⟩
  · obtain ⟨n, h⟩ := px_T_cl (k := 286) (pc := 15) (y := 175) (st := [.long 40, .long 1, .long x2.toInt64]) rfl (h2 c1)
    exact ⟨n + 6, ⟨fun q => absurd q c1, fun _ => h⟩⟩
theorem sg_286_18 {x1 : Int32} {x2 : Int32} {x3 : Int32} {x4 : Int32} {s0 : Int32} {M : px_Mem} {Q : px_Po} (h1 : (s0 = 0) → Q (some (.int (-2))) M) (h2 : (¬ (s0 = 0)) → ((0 : Int32) ≤ x4) → px_T 0 282 0 [some (.ref 56), some (.int x1), some (.int x2), some (.int x3)] [] M (fun r M1 => px_T 0 286 38 [some (.ref 56), some (.int x1), some (.int x2), some (.int x3), some (.int x4)] (r.toList ++ [.int x4]) M1 Q)) (h3 : (¬ (s0 = 0)) → (¬ ((0 : Int32) ≤ x4)) → Q (some (.int (-2))) M) : px_T 0 286 18 [some (.ref 56), some (.int x1), some (.int x2), some (.int x3), some (.int x4)] [.int s0] M Q := by
  by_cases c1 : s0 = 0
  · exact ⟨3, ⟨fun _ => ⟨trivial, h1 c1⟩, fun q => absurd c1 q⟩⟩
  · by_cases c2 : (0 : Int32) ≤ x4
    · obtain ⟨n, h⟩ := px_T_cl (k := 286) (pc := 35) (y := 282) (st := [.int x3, .int x2, .int x1, .ref 56, .int x4]) rfl (h2 c1 c2)
      exact ⟨n + 9, ⟨fun q => absurd q c1, fun _ => ⟨fun _ => ⟨rfl, h⟩, fun q => absurd c2 q⟩⟩⟩
    · exact ⟨5, ⟨fun q => absurd q c1, fun _ => ⟨fun q => absurd q c2, fun _ => ⟨trivial, h3 c1 c2⟩⟩⟩⟩
theorem sg_286_38 {x1 : Int32} {x2 : Int32} {x3 : Int32} {x4 : Int32} {s0 : Int32} {s1 : Int32} {M : px_Mem} {Q : px_Po} (h1 : (s1 ≤ s0) → px_T 0 283 0 [some (.ref 56), some (.int x1), some (.int x2), some (.int x3), some (.int x4)] [] M (fun r M1 => px_T 0 286 54 [some (.ref 56), some (.int x1), some (.int x2), some (.int x3), some (.int x4)] (r.toList ++ []) M1 Q)) (h2 : (¬ (s1 ≤ s0)) → Q (some (.int (-1))) M) : px_T 0 286 38 [some (.ref 56), some (.int x1), some (.int x2), some (.int x3), some (.int x4)] [.int s0, .int s1] M Q := by
  by_cases c1 : s1 ≤ s0
  · obtain ⟨n, h⟩ := px_T_cl (k := 286) (pc := 51) (y := 283) (st := [.int x4, .int x3, .int x2, .int x1, .ref 56]) rfl (h1 c1)
    exact ⟨n + 7, ⟨fun _ => ⟨rfl, h⟩, fun q => absurd c1 q⟩⟩
  · exact ⟨4, ⟨fun q => absurd q c1, fun _ => ⟨trivial, h2 c1⟩⟩⟩
theorem sg_286_54 {d0 : Option Value} {d1 : Option Value} {d2 : Option Value} {d3 : Option Value} {d4 : Option Value} {s0 : Int32} {M : px_Mem} {Q : px_Po} (h1 : Q (some (.int s0)) M) : px_T 0 286 54 [d0, d1, d2, d3, d4] [.int s0] M Q := by
  exact ⟨1, ⟨trivial, h1⟩⟩
theorem sg_287_0 {x1 : Int32} {x2 : Int32} {x3 : Int32} {M : px_Mem} {Q : px_Po} (h1 : px_T 0 285 0 [some (.ref 56), some (.int x1), some (.int x3)] [] M (fun r M1 => px_T 0 287 6 [some (.ref 56), some (.int x1), some (.int x2), some (.int x3)] (r.toList ++ []) M1 Q)) : px_T 0 287 0 [some (.ref 56), some (.int x1), some (.int x2), some (.int x3)] [] M Q := by
  obtain ⟨n, h⟩ := px_T_cl (k := 287) (pc := 3) (y := 285) (st := [.int x3, .int x1, .ref 56]) rfl (h1)
  exact ⟨n + 4, ⟨rfl, h⟩⟩
theorem sg_287_6 {x1 : Int32} {x2 : Int32} {x3 : Int32} {s0 : Int32} {M : px_Mem} {Q : px_Po} (h1 : (s0 = 0) → Q (some (.int (-2))) M) (h2 : (¬ (s0 = 0)) → px_T 0 175 0 [some (.long x2.toInt64), none, some (.long 1), none, some (.long 40), none] [] M (fun r M1 => px_T 0 287 18 [some (.ref 56), some (.int x1), some (.int x2), some (.int x3)] (r.toList ++ []) M1 Q)) : px_T 0 287 6 [some (.ref 56), some (.int x1), some (.int x2), some (.int x3)] [.int s0] M Q := by
  by_cases c1 : s0 = 0
  · exact ⟨3, ⟨fun _ => ⟨trivial, h1 c1⟩, fun q => absurd c1 q⟩⟩
  · obtain ⟨n, h⟩ := px_T_cl (k := 287) (pc := 15) (y := 175) (st := [.long 40, .long 1, .long x2.toInt64]) rfl (h2 c1)
    exact ⟨n + 6, ⟨fun q => absurd q c1, fun _ => h⟩⟩
theorem sg_287_18 {x1 : Int32} {x2 : Int32} {x3 : Int32} {s0 : Int32} {M : px_Mem} {Q : px_Po} (h1 : (s0 = 0) → Q (some (.int (-2))) M) (h2 : (¬ (s0 = 0)) → px_T 0 284 0 [some (.ref 56), some (.int x1), some (.int x2), some (.int x3), none, none] [] M (fun r M1 => px_T 0 287 28 [some (.ref 56), some (.int x1), some (.int x2), some (.int x3)] (r.toList ++ []) M1 Q)) : px_T 0 287 18 [some (.ref 56), some (.int x1), some (.int x2), some (.int x3)] [.int s0] M Q := by
  by_cases c1 : s0 = 0
  · exact ⟨3, ⟨fun _ => ⟨trivial, h1 c1⟩, fun q => absurd c1 q⟩⟩
  · obtain ⟨n, h⟩ := px_T_cl (k := 287) (pc := 25) (y := 284) (st := [.int x3, .int x2, .int x1, .ref 56]) rfl (h2 c1)
    exact ⟨n + 6, ⟨fun q => absurd q c1, fun _ => ⟨rfl, h⟩⟩⟩
theorem sg_287_28 {d0 : Option Value} {d1 : Option Value} {d2 : Option Value} {d3 : Option Value} {s0 : Int32} {M : px_Mem} {Q : px_Po} (h1 : Q (some (.int s0)) M) : px_T 0 287 28 [d0, d1, d2, d3] [.int s0] M Q := by
  exact ⟨2, ⟨trivial, h1⟩⟩
theorem sg_288_0 {x1 : Int32} {x2 : Int32} {M : px_Mem} {Q : px_Po} (h1 : px_T 0 285 0 [some (.ref 56), some (.int x1), some (.int x2)] [] M (fun r M1 => px_T 0 288 6 [some (.ref 56), some (.int x1), some (.int x2), none, none, none] (r.toList ++ []) M1 Q)) : px_T 0 288 0 [some (.ref 56), some (.int x1), some (.int x2), none, none, none] [] M Q := by
  obtain ⟨n, h⟩ := px_T_cl (k := 288) (pc := 3) (y := 285) (st := [.int x2, .int x1, .ref 56]) rfl (h1)
  exact ⟨n + 4, ⟨rfl, h⟩⟩
theorem sg_288_6 {x1 : Int32} {x2 : Int32} {d3 : Option Value} {d4 : Option Value} {d5 : Option Value} {s0 : Int32} {M : px_Mem} {Q : px_Po} (h1 : (s0 = 0) → Q (some (.int (-2))) M) (h2 : (¬ (s0 = 0)) → px_T 0 288 17 [some (.ref 56), some (.int x1), some (.int x2), some (.int 1), some (.int 2), d5] [] M Q) : px_T 0 288 6 [some (.ref 56), some (.int x1), some (.int x2), d3, d4, d5] [.int s0] M Q := by
  by_cases c1 : s0 = 0
  · exact ⟨3, ⟨fun q => absurd c1 q, fun _ => ⟨trivial, h1 c1⟩⟩⟩
  · obtain ⟨n, h⟩ := h2 c1
    exact ⟨n + 5, ⟨fun _ => h, fun q => absurd q c1⟩⟩
theorem sg_288_17 {x1 : Int32} {x2 : Int32} {x3 : Int32} {x4 : Int32} {d5 : Option Value} {M : px_Mem} {Q : px_Po} (h1 : ((40 : Int32) < x4) → Q (some (.int x3)) M) (h2 : (¬ ((40 : Int32) < x4)) → px_T 0 282 0 [some (.ref 56), some (.int x1), some (.int x4), some (.int x2)] [] M (fun r M1 => px_T 0 288 37 [some (.ref 56), some (.int x1), some (.int x2), some (.int x3), some (.int x4), d5] (r.toList ++ [.int x2, .int x4, .int x1, .ref 56]) M1 Q)) : px_T 0 288 17 [some (.ref 56), some (.int x1), some (.int x2), some (.int x3), some (.int x4), d5] [] M Q := by
  by_cases c1 : (40 : Int32) < x4
  · exact ⟨5, ⟨fun _ => ⟨trivial, h1 c1⟩, fun q => absurd c1 q⟩⟩
  · obtain ⟨n, h⟩ := px_T_cl (k := 288) (pc := 34) (y := 282) (st := [.int x2, .int x4, .int x1, .ref 56, .int x2, .int x4, .int x1, .ref 56]) rfl (h2 c1)
    exact ⟨n + 12, ⟨fun q => absurd q c1, fun _ => ⟨rfl, h⟩⟩⟩
theorem sg_288_37 {x1 : Int32} {x2 : Int32} {x3 : Int32} {x4 : Int32} {d5 : Option Value} {s0 : Int32} {s1 : Int32} {s2 : Int32} {s3 : Int32} {M : px_Mem} {Q : px_Po} (h1 : px_T 0 283 0 [some (.ref 56), some (.int s3), some (.int s2), some (.int s1), some (.int s0)] [] M (fun r M1 => px_T 0 288 40 [some (.ref 56), some (.int x1), some (.int x2), some (.int x3), some (.int x4), d5] (r.toList ++ []) M1 Q)) : px_T 0 288 37 [some (.ref 56), some (.int x1), some (.int x2), some (.int x3), some (.int x4), d5] [.int s0, .int s1, .int s2, .int s3, .ref 56] M Q := by
  obtain ⟨n, h⟩ := px_T_cl (k := 288) (pc := 37) (y := 283) (st := [.int s0, .int s1, .int s2, .int s3, .ref 56]) rfl (h1)
  exact ⟨n + 1, ⟨rfl, h⟩⟩
theorem sg_288_40 {x1 : Int32} {x2 : Int32} {x3 : Int32} {x4 : Int32} {d5 : Option Value} {s0 : Int32} {M : px_Mem} {Q : px_Po} (h1 : px_T 0 282 0 [some (.ref 56), some (.int x1), some (.int x3), some (.int x2)] [] M (fun r M1 => px_T 0 288 51 [some (.ref 56), some (.int x1), some (.int x2), some (.int x3), some (.int x4), d5] (r.toList ++ [.int x2, .int x3, .int x1, .ref 56, .int s0]) M1 Q)) : px_T 0 288 40 [some (.ref 56), some (.int x1), some (.int x2), some (.int x3), some (.int x4), d5] [.int s0] M Q := by
  obtain ⟨n, h⟩ := px_T_cl (k := 288) (pc := 48) (y := 282) (st := [.int x2, .int x3, .int x1, .ref 56, .int x2, .int x3, .int x1, .ref 56, .int s0]) rfl (h1)
  exact ⟨n + 9, ⟨rfl, h⟩⟩
theorem sg_288_51 {x1 : Int32} {x2 : Int32} {x3 : Int32} {x4 : Int32} {d5 : Option Value} {s0 : Int32} {s1 : Int32} {s2 : Int32} {s3 : Int32} {s5 : Int32} {M : px_Mem} {Q : px_Po} (h1 : px_T 0 283 0 [some (.ref 56), some (.int s3), some (.int s2), some (.int s1), some (.int s0)] [] M (fun r M1 => px_T 0 288 54 [some (.ref 56), some (.int x1), some (.int x2), some (.int x3), some (.int x4), d5] (r.toList ++ [.int s5]) M1 Q)) : px_T 0 288 51 [some (.ref 56), some (.int x1), some (.int x2), some (.int x3), some (.int x4), d5] [.int s0, .int s1, .int s2, .int s3, .ref 56, .int s5] M Q := by
  obtain ⟨n, h⟩ := px_T_cl (k := 288) (pc := 51) (y := 283) (st := [.int s0, .int s1, .int s2, .int s3, .ref 56, .int s5]) rfl (h1)
  exact ⟨n + 1, ⟨rfl, h⟩⟩
theorem sg_288_54 {x1 : Int32} {x2 : Int32} {x3 : Int32} {x4 : Int32} {d5 : Option Value} {s0 : Int32} {s1 : Int32} {M : px_Mem} {Q : px_Po} (h1 : ((s1 - s0) < 0) → px_T 0 288 17 [some (.ref 56), some (.int x1), some (.int x2), some (.int x4), some (.int (x4 + 1)), some (.int (s1 - s0))] [] M Q) (h2 : (¬ ((s1 - s0) < 0)) → ((s1 - s0) = 0) → px_T 0 284 0 [some (.ref 56), some (.int x1), some (.int x4), some (.int x2), none, none] [] M (fun r M1 => px_T 0 288 75 [some (.ref 56), some (.int x1), some (.int x2), some (.int x3), some (.int x4), some (.int (s1 - s0))] (r.toList ++ []) M1 Q)) (h3 : (¬ ((s1 - s0) < 0)) → (¬ ((s1 - s0) = 0)) → px_T 0 288 17 [some (.ref 56), some (.int x1), some (.int x2), some (.int x3), some (.int (x4 + 1)), some (.int (s1 - s0))] [] M Q) : px_T 0 288 54 [some (.ref 56), some (.int x1), some (.int x2), some (.int x3), some (.int x4), d5] [.int s0, .int s1] M Q := by
  by_cases c1 : (s1 - s0) < 0
  · obtain ⟨n, h⟩ := h1 c1
    exact ⟨n + 8, ⟨fun _ => h, fun q => absurd c1 q⟩⟩
  · by_cases c2 : (s1 - s0) = 0
    · obtain ⟨n, h⟩ := px_T_cl (k := 288) (pc := 72) (y := 284) (st := [.int x2, .int x4, .int x1, .ref 56]) rfl (h2 c1 c2)
      exact ⟨n + 11, ⟨fun q => absurd q c1, fun _ => ⟨fun q => absurd c2 q, fun _ => ⟨rfl, h⟩⟩⟩⟩
    · obtain ⟨n, h⟩ := h3 c1 c2
      exact ⟨n + 8, ⟨fun q => absurd q c1, fun _ => ⟨fun _ => h, fun q => absurd q c2⟩⟩⟩
theorem sg_288_75 {x1 : Int32} {x2 : Int32} {x3 : Int32} {x4 : Int32} {d5 : Option Value} {s0 : Int32} {M : px_Mem} {Q : px_Po} (h1 : px_T 0 284 0 [some (.ref 56), some (.int x1), some (.int x3), some (.int x2), none, none] [] M (fun r M1 => px_T 0 288 82 [some (.ref 56), some (.int x1), some (.int x2), some (.int x3), some (.int x4), d5] (r.toList ++ [.int s0]) M1 Q)) : px_T 0 288 75 [some (.ref 56), some (.int x1), some (.int x2), some (.int x3), some (.int x4), d5] [.int s0] M Q := by
  obtain ⟨n, h⟩ := px_T_cl (k := 288) (pc := 79) (y := 284) (st := [.int x2, .int x3, .int x1, .ref 56, .int s0]) rfl (h1)
  exact ⟨n + 5, ⟨rfl, h⟩⟩
theorem sg_288_82 {x1 : Int32} {x2 : Int32} {x3 : Int32} {x4 : Int32} {d5 : Option Value} {s0 : Int32} {s1 : Int32} {M : px_Mem} {Q : px_Po} (h1 : (s0 < s1) → px_T 0 288 17 [some (.ref 56), some (.int x1), some (.int x2), some (.int x3), some (.int (x4 + 1)), d5] [] M Q) (h2 : (¬ (s0 < s1)) → px_T 0 288 17 [some (.ref 56), some (.int x1), some (.int x2), some (.int x4), some (.int (x4 + 1)), d5] [] M Q) : px_T 0 288 82 [some (.ref 56), some (.int x1), some (.int x2), some (.int x3), some (.int x4), d5] [.int s0, .int s1] M Q := by
  by_cases c1 : s0 < s1
  · obtain ⟨n, h⟩ := h1 c1
    exact ⟨n + 3, ⟨fun _ => h, fun q => absurd c1 q⟩⟩
  · obtain ⟨n, h⟩ := h2 c1
    exact ⟨n + 5, ⟨fun q => absurd q c1, fun _ => h⟩⟩
theorem sg_289_0 {x1 : Int32} {M : px_Mem} {Q : px_Po} (h1 : (x1 = (-1)) → px_T 0 223 0 [some (.ref 56), none] [] M (fun r M1 => px_T 0 289 16 [some (.ref 56), some (.int x1)] (r.toList ++ []) M1 Q)) (h2 : (¬ (x1 = (-1))) → vp_in x1 72) (h3 : (¬ (x1 = (-1))) → px_T 0 223 0 [some (.ref 56), none] [] (px_wI M 67 x1.toNatClampNeg (vp_nar .boolean 1)) (fun r M1 => px_T 0 289 16 [some (.ref 56), some (.int x1)] (r.toList ++ []) M1 Q)) : px_T 0 289 0 [some (.ref 56), some (.int x1)] [] M Q := by
  by_cases c1 : x1 = (-1)
  · obtain ⟨n, h⟩ := px_T_cl (k := 289) (pc := 13) (y := 223) (st := [.ref 56]) rfl (h1 c1)
    exact ⟨n + 5, ⟨fun _ => ⟨rfl, h⟩, fun q => absurd c1 q⟩⟩
  · obtain ⟨n, h⟩ := px_T_cl (k := 289) (pc := 13) (y := 223) (st := [.ref 56]) rfl (h3 c1)
    exact ⟨n + 10, ⟨fun q => absurd q c1, fun _ => ⟨rfl, (Or.inr ⟨⟨72, rfl, (h2 c1)⟩, ⟨rfl, h⟩⟩)⟩⟩⟩
theorem sg_289_16 {x1 : Int32} {M : px_Mem} {Q : px_Po} (h1 : (x1 = (-1)) → Q none M) (h2 : (¬ (x1 = (-1))) → vp_in x1 72) (h3 : (¬ (x1 = (-1))) → Q none (px_wI M 67 x1.toNatClampNeg (vp_nar .boolean 0))) : px_T 0 289 16 [some (.ref 56), some (.int x1)] [] M Q := by
  by_cases c1 : x1 = (-1)
  · exact ⟨4, ⟨fun _ => ⟨rfl, h1 c1⟩, fun q => absurd c1 q⟩⟩
  · exact ⟨9, ⟨fun q => absurd q c1, fun _ => ⟨rfl, (Or.inr ⟨⟨72, rfl, (h2 c1)⟩, ⟨rfl, h3 c1⟩⟩)⟩⟩⟩
theorem sg_290_0 {M : px_Mem} {Q : px_Po} (h1 : px_T 0 224 0 [some (.ref 56)] [] M (fun r M1 => px_T 0 290 4 [some (.ref 56), none, none, none] (r.toList ++ []) M1 Q)) : px_T 0 290 0 [some (.ref 56), none, none, none] [] M Q := by
  obtain ⟨n, h⟩ := px_T_cl (k := 290) (pc := 1) (y := 224) (st := [.ref 56]) rfl (h1)
  exact ⟨n + 2, ⟨rfl, h⟩⟩
theorem sg_290_4 {d1 : Option Value} {d2 : Option Value} {d3 : Option Value} {s0 : Int32} {M : px_Mem} {Q : px_Po} (h1 : (s0 = 0) → Q (some (.int (-2))) M) (h2 : (¬ (s0 = 0)) → px_T 0 230 0 [some (.ref 56), some (.int (M.1 56 20))] [] M (fun r M1 => px_T 0 290 18 [some (.ref 56), d1, d2, d3] (r.toList ++ []) M1 Q)) : px_T 0 290 4 [some (.ref 56), d1, d2, d3] [.int s0] M Q := by
  by_cases c1 : s0 = 0
  · exact ⟨3, ⟨fun q => absurd c1 q, fun _ => ⟨trivial, h1 c1⟩⟩⟩
  · obtain ⟨n, h⟩ := px_T_cl (k := 290) (pc := 15) (y := 230) (st := [.int (M.1 56 20), .ref 56]) rfl (h2 c1)
    exact ⟨n + 5, ⟨fun _ => ⟨rfl, ⟨rfl, h⟩⟩, fun q => absurd q c1⟩⟩
theorem sg_290_18 {d1 : Option Value} {d2 : Option Value} {d3 : Option Value} {s0 : Int32} {M : px_Mem} {Q : px_Po} (h1 : px_T 0 290 23 [some (.ref 56), some (.int s0), some (.int (-1)), some (.int 0)] [] M Q) : px_T 0 290 18 [some (.ref 56), d1, d2, d3] [.int s0] M Q := by
  obtain ⟨n, h⟩ := h1
  exact ⟨n + 5, h⟩
theorem sg_290_23 {x1 : Int32} {x2 : Int32} {x3 : Int32} {M : px_Mem} {Q : px_Po} (h1 : ((M.1 57 2) ≤ x3) → Q (some (.int x2)) M) (h2 : (¬ ((M.1 57 2) ≤ x3)) → px_T 0 289 0 [some (.ref 56), some (.int x3)] [] M (fun r M1 => px_T 0 290 38 [some (.ref 56), some (.int x1), some (.int x2), some (.int x3)] (r.toList ++ []) M1 Q)) : px_T 0 290 23 [some (.ref 56), some (.int x1), some (.int x2), some (.int x3)] [] M Q := by
  by_cases c1 : (M.1 57 2) ≤ x3
  · exact ⟨8, ⟨rfl, ⟨Or.inl ⟨0, 285, Or.inl rfl, rfl, (vp_in_nI (n := 2) (by decide) (by decide))⟩, ⟨fun _ => ⟨trivial, h1 c1⟩, fun q => absurd c1 q⟩⟩⟩⟩
  · obtain ⟨n, h⟩ := px_T_cl (k := 290) (pc := 35) (y := 289) (st := [.int x3, .ref 56]) rfl (h2 c1)
    exact ⟨n + 9, ⟨rfl, ⟨Or.inl ⟨0, 285, Or.inl rfl, rfl, (vp_in_nI (n := 2) (by decide) (by decide))⟩, ⟨fun q => absurd q c1, fun _ => ⟨rfl, h⟩⟩⟩⟩⟩
theorem sg_290_38 {x1 : Int32} {x2 : Int32} {x3 : Int32} {M : px_Mem} {Q : px_Po} (h1 : px_T 0 230 0 [some (.ref 56), some (.int (M.1 56 20))] [] M (fun r M1 => px_T 0 290 46 [some (.ref 56), some (.int x1), some (.int x2), some (.int x3)] (r.toList ++ []) M1 Q)) : px_T 0 290 38 [some (.ref 56), some (.int x1), some (.int x2), some (.int x3)] [] M Q := by
  obtain ⟨n, h⟩ := px_T_cl (k := 290) (pc := 43) (y := 230) (st := [.int (M.1 56 20), .ref 56]) rfl (h1)
  exact ⟨n + 4, ⟨rfl, ⟨rfl, h⟩⟩⟩
theorem sg_290_46 {x1 : Int32} {x2 : Int32} {x3 : Int32} {s0 : Int32} {M : px_Mem} {Q : px_Po} (h1 : (x1 < s0) → px_T 0 230 0 [some (.ref 56), some (.int (M.1 56 20))] [] M (fun r M1 => px_T 0 290 61 [some (.ref 56), some (.int x1), some (.int x2), some (.int x3)] (r.toList ++ []) M1 Q)) (h2 : (¬ (x1 < s0)) → px_T 0 290 23 [some (.ref 56), some (.int x1), some (.int x2), some (.int (x3 + 1))] [] M Q) : px_T 0 290 46 [some (.ref 56), some (.int x1), some (.int x2), some (.int x3)] [.int s0] M Q := by
  by_cases c1 : x1 < s0
  · obtain ⟨n, h⟩ := px_T_cl (k := 290) (pc := 58) (y := 230) (st := [.int (M.1 56 20), .ref 56]) rfl (h1 c1)
    exact ⟨n + 6, ⟨fun _ => ⟨rfl, ⟨rfl, h⟩⟩, fun q => absurd c1 q⟩⟩
  · obtain ⟨n, h⟩ := h2 c1
    exact ⟨n + 5, ⟨fun q => absurd q c1, fun _ => h⟩⟩
theorem sg_290_61 {d1 : Option Value} {d2 : Option Value} {x3 : Int32} {s0 : Int32} {M : px_Mem} {Q : px_Po} (h1 : px_T 0 290 23 [some (.ref 56), some (.int s0), some (.int x3), some (.int (x3 + 1))] [] M Q) : px_T 0 290 61 [some (.ref 56), d1, d2, some (.int x3)] [.int s0] M Q := by
  obtain ⟨n, h⟩ := h1
  exact ⟨n + 5, h⟩
theorem sg_291_0 {x1 : Int32} {M : px_Mem} {Q : px_Po} (h1 : px_T 0 291 4 [some (.ref 56), some (.int x1), some (.int 0), some (.int 0)] [] M Q) : px_T 0 291 0 [some (.ref 56), some (.int x1), none, none] [] M Q := by
  obtain ⟨n, h⟩ := h1
  exact ⟨n + 4, h⟩
theorem sg_291_4 {x1 : Int32} {x2 : Int32} {x3 : Int32} {M : px_Mem} {Q : px_Po} (h1 : ((M.1 56 20) ≤ x3) → Q (some (.int x2)) M) (h2 : (¬ ((M.1 56 20) ≤ x3)) → (x3 = x1) → px_T 0 291 4 [some (.ref 56), some (.int x1), some (.int (x2 + 0)), some (.int (x3 + 1))] [] M Q) (h3 : (¬ ((M.1 56 20) ≤ x3)) → (¬ (x3 = x1)) → vp_in x3 72) (h4 : (¬ ((M.1 56 20) ≤ x3)) → (¬ (x3 = x1)) → ((M.1 73 x3.toNatClampNeg) ≤ 0) → px_T 0 291 4 [some (.ref 56), some (.int x1), some (.int (x2 + 0)), some (.int (x3 + 1))] [] M Q) (h5 : (¬ ((M.1 56 20) ≤ x3)) → (¬ (x3 = x1)) → (¬ ((M.1 73 x3.toNatClampNeg) ≤ 0)) → px_T 0 291 4 [some (.ref 56), some (.int x1), some (.int (x2 + 1)), some (.int (x3 + 1))] [] M Q) : px_T 0 291 4 [some (.ref 56), some (.int x1), some (.int x2), some (.int x3)] [] M Q := by
  by_cases c1 : (M.1 56 20) ≤ x3
  · exact ⟨6, ⟨rfl, ⟨fun _ => ⟨trivial, h1 c1⟩, fun q => absurd c1 q⟩⟩⟩
  · by_cases c2 : x3 = x1
    · obtain ⟨n, h⟩ := h2 c1 c2
      exact ⟨n + 13, ⟨rfl, ⟨fun q => absurd q c1, fun _ => ⟨fun _ => h, fun q => absurd c2 q⟩⟩⟩⟩
    · by_cases c3 : (M.1 73 x3.toNatClampNeg) ≤ 0
      · obtain ⟨n, h⟩ := h4 c1 c2 c3
        exact ⟨n + 18, ⟨rfl, ⟨fun q => absurd q c1, fun _ => ⟨fun q => absurd q c2, fun _ => ⟨rfl, ⟨Or.inl ⟨0, 72, Or.inl rfl, rfl, (h3 c1 c2)⟩, ⟨fun _ => h, fun q => absurd c3 q⟩⟩⟩⟩⟩⟩⟩
      · obtain ⟨n, h⟩ := h5 c1 c2 c3
        exact ⟨n + 19, ⟨rfl, ⟨fun q => absurd q c1, fun _ => ⟨fun q => absurd q c2, fun _ => ⟨rfl, ⟨Or.inl ⟨0, 72, Or.inl rfl, rfl, (h3 c1 c2)⟩, ⟨fun q => absurd q c3, fun _ => h⟩⟩⟩⟩⟩⟩⟩
theorem sg_292_0 {M : px_Mem} {Q : px_Po} (h1 : px_T 0 224 0 [some (.ref 56)] [] M (fun r M1 => px_T 0 292 4 [some (.ref 56), none, none, none, none, none] (r.toList ++ []) M1 Q)) : px_T 0 292 0 [some (.ref 56), none, none, none, none, none] [] M Q := by
  obtain ⟨n, h⟩ := px_T_cl (k := 292) (pc := 1) (y := 224) (st := [.ref 56]) rfl (h1)
  exact ⟨n + 2, ⟨rfl, h⟩⟩
theorem sg_292_4 {d1 : Option Value} {d2 : Option Value} {d3 : Option Value} {d4 : Option Value} {d5 : Option Value} {s0 : Int32} {M : px_Mem} {Q : px_Po} (h1 : (s0 = 0) → Q (some (.int (-2))) M) (h2 : (¬ (s0 = 0)) → px_T 0 292 16 [some (.ref 56), some (.int 0), some (.int (-1)), some (.int 0), d4, d5] [] M Q) : px_T 0 292 4 [some (.ref 56), d1, d2, d3, d4, d5] [.int s0] M Q := by
  by_cases c1 : s0 = 0
  · exact ⟨3, ⟨fun q => absurd c1 q, fun _ => ⟨trivial, h1 c1⟩⟩⟩
  · obtain ⟨n, h⟩ := h2 c1
    exact ⟨n + 7, ⟨fun _ => h, fun q => absurd q c1⟩⟩
theorem sg_292_16 {x1 : Int32} {x2 : Int32} {x3 : Int32} {d4 : Option Value} {d5 : Option Value} {M : px_Mem} {Q : px_Po} (h1 : ((M.1 57 2) ≤ x3) → Q (some (.int x2)) M) (h2 : (¬ ((M.1 57 2) ≤ x3)) → px_T 0 289 0 [some (.ref 56), some (.int (-1))] [] M (fun r M1 => px_T 0 292 31 [some (.ref 56), some (.int x1), some (.int x2), some (.int x3), d4, d5] (r.toList ++ []) M1 Q)) : px_T 0 292 16 [some (.ref 56), some (.int x1), some (.int x2), some (.int x3), d4, d5] [] M Q := by
  by_cases c1 : (M.1 57 2) ≤ x3
  · exact ⟨8, ⟨rfl, ⟨Or.inl ⟨0, 285, Or.inl rfl, rfl, (vp_in_nI (n := 2) (by decide) (by decide))⟩, ⟨fun _ => ⟨trivial, h1 c1⟩, fun q => absurd c1 q⟩⟩⟩⟩
  · obtain ⟨n, h⟩ := px_T_cl (k := 292) (pc := 28) (y := 289) (st := [.int (-1), .ref 56]) rfl (h2 c1)
    exact ⟨n + 9, ⟨rfl, ⟨Or.inl ⟨0, 285, Or.inl rfl, rfl, (vp_in_nI (n := 2) (by decide) (by decide))⟩, ⟨fun q => absurd q c1, fun _ => ⟨rfl, h⟩⟩⟩⟩⟩
theorem sg_292_31 {x1 : Int32} {x2 : Int32} {x3 : Int32} {d4 : Option Value} {d5 : Option Value} {M : px_Mem} {Q : px_Po} (h1 : px_T 0 291 0 [some (.ref 56), some (.int x3), none, none] [] M (fun r M1 => px_T 0 292 36 [some (.ref 56), some (.int x1), some (.int x2), some (.int x3), d4, d5] (r.toList ++ []) M1 Q)) : px_T 0 292 31 [some (.ref 56), some (.int x1), some (.int x2), some (.int x3), d4, d5] [] M Q := by
  obtain ⟨n, h⟩ := px_T_cl (k := 292) (pc := 33) (y := 291) (st := [.int x3, .ref 56]) rfl (h1)
  exact ⟨n + 3, ⟨rfl, h⟩⟩
theorem sg_292_36 {x1 : Int32} {x2 : Int32} {x3 : Int32} {d4 : Option Value} {d5 : Option Value} {s0 : Int32} {M : px_Mem} {Q : px_Po} (h1 : px_T 0 289 0 [some (.ref 56), some (.int x3)] [] M (fun r M1 => px_T 0 292 43 [some (.ref 56), some (.int x1), some (.int x2), some (.int x3), some (.int s0), d5] (r.toList ++ []) M1 Q)) : px_T 0 292 36 [some (.ref 56), some (.int x1), some (.int x2), some (.int x3), d4, d5] [.int s0] M Q := by
  obtain ⟨n, h⟩ := px_T_cl (k := 292) (pc := 40) (y := 289) (st := [.int x3, .ref 56]) rfl (h1)
  exact ⟨n + 4, ⟨rfl, h⟩⟩
theorem sg_292_43 {x1 : Int32} {x2 : Int32} {x3 : Int32} {x4 : Int32} {d5 : Option Value} {M : px_Mem} {Q : px_Po} (h1 : px_T 0 291 0 [some (.ref 56), some (.int x3), none, none] [] M (fun r M1 => px_T 0 292 48 [some (.ref 56), some (.int x1), some (.int x2), some (.int x3), some (.int x4), d5] (r.toList ++ []) M1 Q)) : px_T 0 292 43 [some (.ref 56), some (.int x1), some (.int x2), some (.int x3), some (.int x4), d5] [] M Q := by
  obtain ⟨n, h⟩ := px_T_cl (k := 292) (pc := 45) (y := 291) (st := [.int x3, .ref 56]) rfl (h1)
  exact ⟨n + 3, ⟨rfl, h⟩⟩
theorem sg_292_48 {x1 : Int32} {x2 : Int32} {x3 : Int32} {x4 : Int32} {d5 : Option Value} {s0 : Int32} {M : px_Mem} {Q : px_Po} (h1 : (x1 < (s0 - x4)) → px_T 0 292 16 [some (.ref 56), some (.int (s0 - x4)), some (.int x3), some (.int (x3 + 1)), some (.int x4), some (.int (s0 - x4))] [] M Q) (h2 : (¬ (x1 < (s0 - x4))) → px_T 0 292 16 [some (.ref 56), some (.int x1), some (.int x2), some (.int (x3 + 1)), some (.int x4), some (.int (s0 - x4))] [] M Q) : px_T 0 292 48 [some (.ref 56), some (.int x1), some (.int x2), some (.int x3), some (.int x4), d5] [.int s0] M Q := by
  by_cases c1 : x1 < (s0 - x4)
  · obtain ⟨n, h⟩ := h1 c1
    exact ⟨n + 12, ⟨fun _ => h, fun q => absurd c1 q⟩⟩
  · obtain ⟨n, h⟩ := h2 c1
    exact ⟨n + 9, ⟨fun q => absurd q c1, fun _ => h⟩⟩
theorem sg_293_0 {x1 : Int32} {x2 : Int32} {M : px_Mem} {Q : px_Po} (h1 : vp_in ((60 * x1) + x2) 240) (h2 : Q (some (.long (M.2 90 (((60 * x1) + x2).toNatClampNeg)))) M) : px_T 0 293 0 [some (.ref 56), some (.int x1), some (.int x2)] [] M Q := by
  exact ⟨9, ⟨rfl, ⟨⟨240, rfl, h1⟩, ⟨rfl, h2⟩⟩⟩⟩
theorem sg_294_0 {x1 : Int32} {M : px_Mem} {Q : px_Po} (h1 : px_T 0 327 0 [some (.int x1)] [] M (fun r M1 => px_T 0 294 4 [some (.ref 56), some (.int x1), none] (r.toList ++ []) M1 Q)) : px_T 0 294 0 [some (.ref 56), some (.int x1), none] [] M Q := by
  obtain ⟨n, h⟩ := px_T_cl (k := 294) (pc := 1) (y := 327) (st := [.int x1]) rfl (h1)
  exact ⟨n + 2, h⟩
theorem sg_294_4 {x1 : Int32} {d2 : Option Value} {s0 : Int32} {M : px_Mem} {Q : px_Po} (h1 : (s0 = 0) → Q (some (.int (-2))) M) (h2 : (¬ (s0 = 0)) → px_T 0 180 0 [some (.ref 56)] [] M (fun r M1 => px_T 0 294 11 [some (.ref 56), some (.int x1), d2] (r.toList ++ []) M1 Q)) : px_T 0 294 4 [some (.ref 56), some (.int x1), d2] [.int s0] M Q := by
  by_cases c1 : s0 = 0
  · exact ⟨3, ⟨fun _ => ⟨trivial, h1 c1⟩, fun q => absurd c1 q⟩⟩
  · obtain ⟨n, h⟩ := px_T_cl (k := 294) (pc := 8) (y := 180) (st := [.ref 56]) rfl (h2 c1)
    exact ⟨n + 3, ⟨fun q => absurd q c1, fun _ => ⟨rfl, h⟩⟩⟩
theorem sg_294_11 {x1 : Int32} {d2 : Option Value} {s0 : Int32} {M : px_Mem} {Q : px_Po} (h1 : (s0 = 0) → Q (some (.int (-2))) M) (h2 : (¬ (s0 = 0)) → vp_in x1 4) (h3 : (¬ (s0 = 0)) → ((M.1 88 x1.toNatClampNeg) = (-1)) → Q (some (.int (-6))) M) (h4 : (¬ (s0 = 0)) → (¬ ((M.1 88 x1.toNatClampNeg) = (-1))) → (((M.1 88 x1.toNatClampNeg) - (M.1 88 x1.toNatClampNeg) / 3 * 3) = 0) → px_T 0 294 46 [some (.ref 56), some (.int x1), some (.int 0)] [] M Q) (h5 : (¬ (s0 = 0)) → (¬ ((M.1 88 x1.toNatClampNeg) = (-1))) → (¬ (((M.1 88 x1.toNatClampNeg) - (M.1 88 x1.toNatClampNeg) / 3 * 3) = 0)) → Q (some (.int (-2))) M) : px_T 0 294 11 [some (.ref 56), some (.int x1), d2] [.int s0] M Q := by
  by_cases c1 : s0 = 0
  · exact ⟨3, ⟨fun q => absurd c1 q, fun _ => ⟨trivial, h1 c1⟩⟩⟩
  · by_cases c2 : (M.1 88 x1.toNatClampNeg) = (-1)
    · exact ⟨9, ⟨fun _ => ⟨rfl, ⟨Or.inl ⟨0, 4, Or.inl rfl, rfl, (h2 c1)⟩, ⟨fun q => absurd c2 q, fun _ => ⟨trivial, h3 c1 c2⟩⟩⟩⟩, fun q => absurd q c1⟩⟩
    · by_cases c3 : ((M.1 88 x1.toNatClampNeg) - (M.1 88 x1.toNatClampNeg) / 3 * 3) = 0
      · obtain ⟨n, h⟩ := h4 c1 c2 c3
        exact ⟨n + 16, ⟨fun _ => ⟨rfl, ⟨Or.inl ⟨0, 4, Or.inl rfl, rfl, (h2 c1)⟩, ⟨fun _ => ⟨rfl, ⟨Or.inl ⟨0, 4, Or.inl rfl, rfl, (h2 c1)⟩, ⟨(by decide), ⟨fun _ => h, fun q => absurd c3 q⟩⟩⟩⟩, fun q => absurd q c2⟩⟩⟩, fun q => absurd q c1⟩⟩
      · exact ⟨16, ⟨fun _ => ⟨rfl, ⟨Or.inl ⟨0, 4, Or.inl rfl, rfl, (h2 c1)⟩, ⟨fun _ => ⟨rfl, ⟨Or.inl ⟨0, 4, Or.inl rfl, rfl, (h2 c1)⟩, ⟨(by decide), ⟨fun q => absurd q c3, fun _ => ⟨trivial, h5 c1 c2 c3⟩⟩⟩⟩⟩, fun q => absurd q c2⟩⟩⟩, fun q => absurd q c1⟩⟩
theorem sg_294_46 {x1 : Int32} {x2 : Int32} {M : px_Mem} {Q : px_Po} (h1 : vp_in x1 4) (h2 : ((M.1 88 x1.toNatClampNeg) ≤ x2) → px_T 0 209 0 [some (.ref 56), none] [] M (fun r M1 => px_T 0 294 116 [some (.ref 56), some (.int x1), some (.int x2)] (r.toList ++ []) M1 Q)) (h3 : (¬ ((M.1 88 x1.toNatClampNeg) ≤ x2)) → px_T 0 293 0 [some (.ref 56), some (.int x1), some (.int x2)] [] M (fun r M1 => px_T 0 294 63 [some (.ref 56), some (.int x1), some (.int x2)] (r.toList ++ [.ref 56]) M1 Q)) : px_T 0 294 46 [some (.ref 56), some (.int x1), some (.int x2)] [] M Q := by
  by_cases c1 : (M.1 88 x1.toNatClampNeg) ≤ x2
  · obtain ⟨n, h⟩ := px_T_cl (k := 294) (pc := 113) (y := 209) (st := [.ref 56]) rfl (h2 c1)
    exact ⟨n + 8, ⟨rfl, ⟨Or.inl ⟨0, 4, Or.inl rfl, rfl, h1⟩, ⟨fun _ => ⟨rfl, h⟩, fun q => absurd c1 q⟩⟩⟩⟩
  · obtain ⟨n, h⟩ := px_T_cl (k := 294) (pc := 60) (y := 293) (st := [.int x2, .int x1, .ref 56, .ref 56]) rfl (h3 c1)
    exact ⟨n + 11, ⟨rfl, ⟨Or.inl ⟨0, 4, Or.inl rfl, rfl, h1⟩, ⟨fun q => absurd q c1, fun _ => ⟨rfl, h⟩⟩⟩⟩⟩
theorem sg_294_116 {d0 : Option Value} {d1 : Option Value} {d2 : Option Value} {M : px_Mem} {Q : px_Po} (h1 : Q (some (.int 0)) M) : px_T 0 294 116 [d0, d1, d2] [] M Q := by
  exact ⟨2, ⟨trivial, h1⟩⟩
theorem sg_294_63 {x1 : Int32} {x2 : Int32} {s0 : Int64} {M : px_Mem} {Q : px_Po} (h1 : px_T 0 183 0 [some (.ref 56), some (.long s0), none] [] M (fun r M1 => px_T 0 294 66 [some (.ref 56), some (.int x1), some (.int x2)] (r.toList ++ []) M1 Q)) : px_T 0 294 63 [some (.ref 56), some (.int x1), some (.int x2)] [.long s0, .ref 56] M Q := by
  obtain ⟨n, h⟩ := px_T_cl (k := 294) (pc := 63) (y := 183) (st := [.long s0, .ref 56]) rfl (h1)
  exact ⟨n + 1, ⟨rfl, h⟩⟩
theorem sg_294_66 {x1 : Int32} {x2 : Int32} {s0 : Int32} {M : px_Mem} {Q : px_Po} (h1 : (s0 = 0) → Q (some (.int (-2))) M) (h2 : (¬ (s0 = 0)) → px_T 0 293 0 [some (.ref 56), some (.int x1), some (.int (x2 + 1))] [] M (fun r M1 => px_T 0 294 77 [some (.ref 56), some (.int x1), some (.int x2)] (r.toList ++ []) M1 Q)) : px_T 0 294 66 [some (.ref 56), some (.int x1), some (.int x2)] [.int s0] M Q := by
  by_cases c1 : s0 = 0
  · exact ⟨3, ⟨fun _ => ⟨trivial, h1 c1⟩, fun q => absurd c1 q⟩⟩
  · obtain ⟨n, h⟩ := px_T_cl (k := 294) (pc := 74) (y := 293) (st := [.int (x2 + 1), .int x1, .ref 56]) rfl (h2 c1)
    exact ⟨n + 7, ⟨fun q => absurd q c1, fun _ => ⟨rfl, h⟩⟩⟩
