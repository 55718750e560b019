theorem sg_253_53 {d1 : Option Value} {x2 : Int32} {x3 : Int32} {s0 : Int32} {s1 : Int32} {M : px_Mem} {Q : px_Po} (h1 : ((s1 + s0) ≤ 0) → Q (some (.int (-1))) M) (h2 : (¬ ((s1 + s0) ≤ 0)) → vp_in ((200 * x2) + x3) 14600) (h3 : (¬ ((s1 + s0) ≤ 0)) → Q (some (.int (M.1 81 (((200 * x2) + x3).toNatClampNeg)))) M) : px_T 0 253 53 [some (.ref 56), d1, some (.int x2), some (.int x3)] [.int s0, .int s1] M Q := by
  by_cases c1 : (s1 + s0) ≤ 0
  · exact ⟨4, ⟨fun _ => ⟨trivial, h1 c1⟩, fun q => absurd c1 q⟩⟩
  · exact ⟨12, ⟨fun q => absurd q c1, fun _ => ⟨rfl, ⟨Or.inl ⟨0, 14600, Or.inl rfl, rfl, (h2 c1)⟩, ⟨trivial, h3 c1⟩⟩⟩⟩⟩
theorem sg_254_0 {x1 : Int32} {x2 : Int32} {M : px_Mem} {Q : px_Po} (h1 : px_T 0 225 0 [some (.ref 56), some (.int x2)] [] M (fun r M1 => px_T 0 254 5 [some (.ref 56), some (.int x1), some (.int x2)] (r.toList ++ []) M1 Q)) : px_T 0 254 0 [some (.ref 56), some (.int x1), some (.int x2)] [] M Q := by
  obtain ⟨n, h⟩ := px_T_cl (k := 254) (pc := 2) (y := 225) (st := [.int x2, .ref 56]) rfl (h1)
  exact ⟨n + 3, ⟨rfl, h⟩⟩
theorem sg_254_5 {x1 : Int32} {x2 : Int32} {s0 : Int32} {M : px_Mem} {Q : px_Po} (h1 : (s0 = 0) → Q (some (.int (-2))) M) (h2 : (¬ (s0 = 0)) → px_T 0 186 0 [some (.int x1)] [] M (fun r M1 => px_T 0 254 12 [some (.ref 56), some (.int x1), some (.int x2)] (r.toList ++ []) M1 Q)) : px_T 0 254 5 [some (.ref 56), some (.int x1), some (.int x2)] [.int s0] M Q := by
  by_cases c1 : s0 = 0
  · exact ⟨3, ⟨fun _ => ⟨trivial, h1 c1⟩, fun q => absurd c1 q⟩⟩
  · obtain ⟨n, h⟩ := px_T_cl (k := 254) (pc := 9) (y := 186) (st := [.int x1]) rfl (h2 c1)
    exact ⟨n + 3, ⟨fun q => absurd q c1, fun _ => h⟩⟩
theorem sg_254_12 {x1 : Int32} {x2 : Int32} {s0 : Int32} {M : px_Mem} {Q : px_Po} (h1 : (s0 = 0) → Q (some (.int (-2))) M) (h2 : (¬ (s0 = 0)) → px_T 0 253 0 [some (.ref 56), some (.int x1), some (.int x2), none] [] M (fun r M1 => px_T 0 254 21 [some (.ref 56), some (.int x1), some (.int x2)] (r.toList ++ []) M1 Q)) : px_T 0 254 12 [some (.ref 56), some (.int x1), some (.int x2)] [.int s0] M Q := by
  by_cases c1 : s0 = 0
  · exact ⟨3, ⟨fun _ => ⟨trivial, h1 c1⟩, fun q => absurd c1 q⟩⟩
  · obtain ⟨n, h⟩ := px_T_cl (k := 254) (pc := 18) (y := 253) (st := [.int x2, .int x1, .ref 56]) rfl (h2 c1)
    exact ⟨n + 5, ⟨fun q => absurd q c1, fun _ => ⟨rfl, h⟩⟩⟩
theorem sg_254_21 {d0 : Option Value} {d1 : Option Value} {d2 : Option Value} {s0 : Int32} {M : px_Mem} {Q : px_Po} (h1 : Q (some (.int s0)) M) : px_T 0 254 21 [d0, d1, d2] [.int s0] M Q := by
  exact ⟨2, ⟨trivial, h1⟩⟩
theorem sg_255_0 {x1 : Int32} {M : px_Mem} {Q : px_Po} (h1 : px_T 0 225 0 [some (.ref 56), some (.int x1)] [] M (fun r M1 => px_T 0 255 5 [some (.ref 56), some (.int x1), none, none] (r.toList ++ []) M1 Q)) : px_T 0 255 0 [some (.ref 56), some (.int x1), none, none] [] M Q := by
  obtain ⟨n, h⟩ := px_T_cl (k := 255) (pc := 2) (y := 225) (st := [.int x1, .ref 56]) rfl (h1)
  exact ⟨n + 3, ⟨rfl, h⟩⟩
theorem sg_255_5 {x1 : Int32} {d2 : Option Value} {d3 : Option Value} {s0 : Int32} {M : px_Mem} {Q : px_Po} (h1 : (s0 = 0) → Q (some (.int (-2))) M) (h2 : (¬ (s0 = 0)) → px_T 0 255 15 [some (.ref 56), some (.int x1), some (.int 0), some (.int 0)] [] M Q) : px_T 0 255 5 [some (.ref 56), some (.int x1), d2, d3] [.int s0] M Q := by
  by_cases c1 : s0 = 0
  · exact ⟨3, ⟨fun q => absurd c1 q, fun _ => ⟨trivial, h1 c1⟩⟩⟩
  · obtain ⟨n, h⟩ := h2 c1
    exact ⟨n + 5, ⟨fun _ => h, fun q => absurd q c1⟩⟩
theorem sg_255_15 {x1 : Int32} {x2 : Int32} {x3 : Int32} {M : px_Mem} {Q : px_Po} (h1 : vp_in x1 73) (h2 : ((M.1 77 x1.toNatClampNeg) ≤ x3) → Q (some (.int x2)) M) (h3 : (¬ ((M.1 77 x1.toNatClampNeg) ≤ x3)) → vp_in x3 200) (h4 : (¬ ((M.1 77 x1.toNatClampNeg) ≤ x3)) → ((M.1 71 x3.toNatClampNeg) = 1) → px_T 0 253 0 [some (.ref 56), some (.int x3), some (.int x1), none] [] M (fun r M1 => px_T 0 255 43 [some (.ref 56), some (.int x1), some (.int x2), some (.int x3)] (r.toList ++ [.int 0, .int x2]) M1 Q)) (h5 : (¬ ((M.1 77 x1.toNatClampNeg) ≤ x3)) → (¬ ((M.1 71 x3.toNatClampNeg) = 1)) → px_T 0 255 15 [some (.ref 56), some (.int x1), some (.int (x2 + 0)), some (.int (x3 + 1))] [] M Q) : px_T 0 255 15 [some (.ref 56), some (.int x1), some (.int x2), some (.int x3)] [] M Q := by
  by_cases c1 : (M.1 77 x1.toNatClampNeg) ≤ x3
  · exact ⟨8, ⟨rfl, ⟨Or.inl ⟨0, 73, Or.inl rfl, rfl, h1⟩, ⟨fun _ => ⟨trivial, h2 c1⟩, fun q => absurd c1 q⟩⟩⟩⟩
  · by_cases c2 : (M.1 71 x3.toNatClampNeg) = 1
    · obtain ⟨n, h⟩ := px_T_cl (k := 255) (pc := 40) (y := 253) (st := [.int x1, .int x3, .ref 56, .int 0, .int x2]) rfl (h4 c1 c2)
      exact ⟨n + 18, ⟨rfl, ⟨Or.inl ⟨0, 73, Or.inl rfl, rfl, h1⟩, ⟨fun q => absurd q c1, fun _ => ⟨rfl, ⟨Or.inl ⟨0, 200, Or.inl rfl, rfl, (h3 c1)⟩, ⟨fun q => absurd c2 q, fun _ => ⟨rfl, h⟩⟩⟩⟩⟩⟩⟩⟩
    · obtain ⟨n, h⟩ := h5 c1 c2
      exact ⟨n + 18, ⟨rfl, ⟨Or.inl ⟨0, 73, Or.inl rfl, rfl, h1⟩, ⟨fun q => absurd q c1, fun _ => ⟨rfl, ⟨Or.inl ⟨0, 200, Or.inl rfl, rfl, (h3 c1)⟩, ⟨fun _ => h, fun q => absurd q c2⟩⟩⟩⟩⟩⟩⟩
theorem sg_255_43 {x1 : Int32} {d2 : Option Value} {x3 : Int32} {s0 : Int32} {s1 : Int32} {s2 : Int32} {M : px_Mem} {Q : px_Po} (h1 : px_T 0 255 15 [some (.ref 56), some (.int x1), some (.int (s2 + (if s1 < s0 then s0 else s1))), some (.int (x3 + 1))] [] M Q) : px_T 0 255 43 [some (.ref 56), some (.int x1), d2, some (.int x3)] [.int s0, .int s1, .int s2] M Q := by
  obtain ⟨n, h⟩ := h1
  exact ⟨n + 6, ⟨(Nat.le_of_ble_eq_true rfl), (Nat.le_of_ble_eq_true rfl), (Nat.le_of_ble_eq_true rfl), h⟩⟩
theorem sg_256_0 {x1 : Int32} {M : px_Mem} {Q : px_Po} (h1 : px_T 0 256 7 [some (.ref 56), some (.int x1), some (.int 0), none, none] [] (px_wI M 56 41 0) Q) : px_T 0 256 0 [some (.ref 56), some (.int x1), none, none, none] [] M Q := by
  obtain ⟨n, h⟩ := h1
  exact ⟨n + 5, ⟨rfl, h⟩⟩
theorem sg_256_7 {x1 : Int32} {x2 : Int32} {d3 : Option Value} {d4 : Option Value} {M : px_Mem} {Q : px_Po} (h1 : ((200 : Int32) ≤ x2) → px_T 0 256 29 [some (.ref 56), some (.int x1), some (.int 1), d3, d4] [] M Q) (h2 : (¬ ((200 : Int32) ≤ x2)) → vp_in x2 200) (h3 : (¬ ((200 : Int32) ≤ x2)) → px_T 0 256 7 [some (.ref 56), some (.int x1), some (.int (x2 + 1)), d3, d4] [] (px_wI M 82 x2.toNatClampNeg (-1)) Q) : px_T 0 256 7 [some (.ref 56), some (.int x1), some (.int x2), d3, d4] [] M Q := by
  by_cases c1 : (200 : Int32) ≤ x2
  · obtain ⟨n, h⟩ := h1 c1
    exact ⟨n + 5, ⟨fun _ => h, fun q => absurd c1 q⟩⟩
  · obtain ⟨n, h⟩ := h3 c1
    exact ⟨n + 10, ⟨fun q => absurd q c1, fun _ => ⟨rfl, ⟨⟨200, rfl, (h2 c1)⟩, h⟩⟩⟩⟩
theorem sg_256_29 {x1 : Int32} {x2 : Int32} {d3 : Option Value} {d4 : Option Value} {M : px_Mem} {Q : px_Po} (h1 : ((16 : Int32) ≤ x2) → Q none M) (h2 : (¬ ((16 : Int32) ≤ x2)) → px_T 0 256 37 [some (.ref 56), some (.int x1), some (.int x2), some (.int 0), d4] [] M Q) : px_T 0 256 29 [some (.ref 56), some (.int x1), some (.int x2), d3, d4] [] M Q := by
  by_cases c1 : (16 : Int32) ≤ x2
  · exact ⟨4, ⟨fun _ => ⟨rfl, h1 c1⟩, fun q => absurd c1 q⟩⟩
  · obtain ⟨n, h⟩ := h2 c1
    exact ⟨n + 5, ⟨fun q => absurd q c1, fun _ => h⟩⟩
theorem sg_256_37 {x1 : Int32} {x2 : Int32} {x3 : Int32} {d4 : Option Value} {M : px_Mem} {Q : px_Po} (h1 : ((8 : Int32) ≤ x3) → px_T 0 256 29 [some (.ref 56), some (.int x1), some (.int (x2 + 1)), some (.int x3), d4] [] M Q) (h2 : (¬ ((8 : Int32) ≤ x3)) → px_T 0 246 0 [some (.ref 56), some (.int x2), some (.int x3), some (.int x1)] [] M (fun r M1 => px_T 0 256 50 [some (.ref 56), some (.int x1), some (.int x2), some (.int x3), d4] (r.toList ++ []) M1 Q)) : px_T 0 256 37 [some (.ref 56), some (.int x1), some (.int x2), some (.int x3), d4] [] M Q := by
  by_cases c1 : (8 : Int32) ≤ x3
  · obtain ⟨n, h⟩ := h1 c1
    exact ⟨n + 5, ⟨fun _ => h, fun q => absurd c1 q⟩⟩
  · obtain ⟨n, h⟩ := px_T_cl (k := 256) (pc := 47) (y := 246) (st := [.int x1, .int x3, .int x2, .ref 56]) rfl (h2 c1)
    exact ⟨n + 8, ⟨fun q => absurd q c1, fun _ => ⟨rfl, h⟩⟩⟩
theorem sg_256_50 {x1 : Int32} {x2 : Int32} {x3 : Int32} {d4 : Option Value} {s0 : Int32} {M : px_Mem} {Q : px_Po} (h1 : (s0 = (-1)) → px_T 0 256 37 [some (.ref 56), some (.int x1), some (.int x2), some (.int (x3 + 1)), some (.int s0)] [] M Q) (h2 : (¬ (s0 = (-1))) → vp_in s0 200) (h3 : (¬ (s0 = (-1))) → ((M.1 82 s0.toNatClampNeg) = (-1)) → vp_in (M.1 56 41) 120) (h4 : (¬ (s0 = (-1))) → ((M.1 82 s0.toNatClampNeg) = (-1)) → px_T 0 256 104 [some (.ref 56), some (.int x1), some (.int x2), some (.int x3), some (.int s0)] [] (px_wI (px_wI (px_wI M 83 ((M.1 56 41).toNatClampNeg) s0) 82 s0.toNatClampNeg (M.1 56 41)) 56 41 ((M.1 56 41) + 1)) Q) (h5 : (¬ (s0 = (-1))) → (¬ ((M.1 82 s0.toNatClampNeg) = (-1))) → px_T 0 256 104 [some (.ref 56), some (.int x1), some (.int x2), some (.int x3), some (.int s0)] [] M Q) : px_T 0 256 50 [some (.ref 56), some (.int x1), some (.int x2), some (.int x3), d4] [.int s0] M Q := by
  by_cases c1 : s0 = (-1)
  · obtain ⟨n, h⟩ := h1 c1
    exact ⟨n + 6, ⟨fun _ => h, fun q => absurd c1 q⟩⟩
  · by_cases c2 : (M.1 82 s0.toNatClampNeg) = (-1)
    · obtain ⟨n, h⟩ := h4 c1 c2
      exact ⟨n + 28, ⟨fun q => absurd q c1, fun _ => ⟨rfl, ⟨Or.inl ⟨0, 200, Or.inl rfl, rfl, (h2 c1)⟩, ⟨fun _ => ⟨rfl, ⟨rfl, ⟨⟨120, rfl, (h3 c1 c2)⟩, ⟨rfl, ⟨rfl, ⟨⟨200, rfl, (h2 c1)⟩, ⟨rfl, ⟨rfl, h⟩⟩⟩⟩⟩⟩⟩⟩, fun q => absurd c2 q⟩⟩⟩⟩⟩
    · obtain ⟨n, h⟩ := h5 c1 c2
      exact ⟨n + 11, ⟨fun q => absurd q c1, fun _ => ⟨rfl, ⟨Or.inl ⟨0, 200, Or.inl rfl, rfl, (h2 c1)⟩, ⟨fun q => absurd q c2, fun _ => h⟩⟩⟩⟩⟩
theorem sg_256_104 {x1 : Int32} {x2 : Int32} {x3 : Int32} {d4 : Option Value} {M : px_Mem} {Q : px_Po} (h1 : px_T 0 256 37 [some (.ref 56), some (.int x1), some (.int x2), some (.int (x3 + 1)), d4] [] M Q) : px_T 0 256 104 [some (.ref 56), some (.int x1), some (.int x2), some (.int x3), d4] [] M Q := by
  obtain ⟨n, h⟩ := h1
  exact ⟨n + 2, h⟩
theorem sg_257_0 {x1 : Int32} {x2 : Int32} {x3 : Int32} {M : px_Mem} {Q : px_Po} (h1 : px_T 0 226 0 [some (.ref 56), some (.int x1), some (.int x3)] [] M (fun r M1 => px_T 0 257 6 [some (.ref 56), some (.int x1), some (.int x2), some (.int x3)] (r.toList ++ []) M1 Q)) : px_T 0 257 0 [some (.ref 56), some (.int x1), some (.int x2), some (.int x3)] [] M Q := by
  obtain ⟨n, h⟩ := px_T_cl (k := 257) (pc := 3) (y := 226) (st := [.int x3, .int x1, .ref 56]) rfl (h1)
  exact ⟨n + 4, ⟨rfl, h⟩⟩
theorem sg_257_6 {x1 : Int32} {x2 : Int32} {x3 : Int32} {s0 : Int32} {M : px_Mem} {Q : px_Po} (h1 : (s0 = 0) → Q (some (.int (-2))) M) (h2 : (¬ (s0 = 0)) → px_T 0 185 0 [some (.int x2)] [] M (fun r M1 => px_T 0 257 13 [some (.ref 56), some (.int x1), some (.int x2), some (.int x3)] (r.toList ++ []) M1 Q)) : px_T 0 257 6 [some (.ref 56), some (.int x1), some (.int x2), some (.int x3)] [.int s0] M Q := by
  by_cases c1 : s0 = 0
  · exact ⟨3, ⟨fun _ => ⟨trivial, h1 c1⟩, fun q => absurd c1 q⟩⟩
  · obtain ⟨n, h⟩ := px_T_cl (k := 257) (pc := 10) (y := 185) (st := [.int x2]) rfl (h2 c1)
    exact ⟨n + 3, ⟨fun q => absurd q c1, fun _ => h⟩⟩
theorem sg_257_13 {x1 : Int32} {x2 : Int32} {x3 : Int32} {s0 : Int32} {M : px_Mem} {Q : px_Po} (h1 : (s0 = 0) → Q (some (.int (-2))) M) (h2 : (¬ (s0 = 0)) → px_T 0 256 0 [some (.ref 56), some (.int x3), none, none, none] [] M (fun r M1 => px_T 0 257 24 [some (.ref 56), some (.int x1), some (.int x2), some (.int x3)] (r.toList ++ []) M1 Q)) : px_T 0 257 13 [some (.ref 56), some (.int x1), some (.int x2), some (.int x3)] [.int s0] M Q := by
  by_cases c1 : s0 = 0
  · exact ⟨3, ⟨fun q => absurd c1 q, fun _ => ⟨trivial, h1 c1⟩⟩⟩
  · obtain ⟨n, h⟩ := px_T_cl (k := 257) (pc := 21) (y := 256) (st := [.int x3, .ref 56]) rfl (h2 c1)
    exact ⟨n + 4, ⟨fun _ => ⟨rfl, h⟩, fun q => absurd q c1⟩⟩
theorem sg_257_24 {x1 : Int32} {x2 : Int32} {x3 : Int32} {M : px_Mem} {Q : px_Po} (h1 : px_T 0 246 0 [some (.ref 56), some (.int x1), some (.int x2), some (.int x3)] [] M (fun r M1 => px_T 0 257 31 [some (.ref 56), some (.int x1), some (.int x2), some (.int x3)] (r.toList ++ []) M1 Q)) : px_T 0 257 24 [some (.ref 56), some (.int x1), some (.int x2), some (.int x3)] [] M Q := by
  obtain ⟨n, h⟩ := px_T_cl (k := 257) (pc := 28) (y := 246) (st := [.int x3, .int x2, .int x1, .ref 56]) rfl (h1)
  exact ⟨n + 5, ⟨rfl, h⟩⟩
theorem sg_257_31 {x1 : Int32} {x2 : Int32} {x3 : Int32} {s0 : Int32} {M : px_Mem} {Q : px_Po} (h1 : (s0 = (-1)) → Q (some (.int (-1))) M) (h2 : (¬ (s0 = (-1))) → px_T 0 246 0 [some (.ref 56), some (.int x1), some (.int x2), some (.int x3)] [] M (fun r M1 => px_T 0 257 50 [some (.ref 56), some (.int x1), some (.int x2), some (.int x3)] (r.toList ++ [.ref 82]) M1 Q)) : px_T 0 257 31 [some (.ref 56), some (.int x1), some (.int x2), some (.int x3)] [.int s0] M Q := by
  by_cases c1 : s0 = (-1)
  · exact ⟨5, ⟨fun q => absurd c1 q, fun _ => ⟨trivial, h1 c1⟩⟩⟩
  · obtain ⟨n, h⟩ := px_T_cl (k := 257) (pc := 47) (y := 246) (st := [.int x3, .int x2, .int x1, .ref 56, .ref 82]) rfl (h2 c1)
    exact ⟨n + 9, ⟨fun _ => ⟨rfl, ⟨rfl, h⟩⟩, fun q => absurd q c1⟩⟩
theorem sg_257_50 {d0 : Option Value} {d1 : Option Value} {d2 : Option Value} {d3 : Option Value} {s0 : Int32} {M : px_Mem} {Q : px_Po} (h1 : vp_in s0 200) (h2 : Q (some (.int (M.1 82 s0.toNatClampNeg))) M) : px_T 0 257 50 [d0, d1, d2, d3] [.int s0, .ref 82] M Q := by
  exact ⟨2, ⟨Or.inl ⟨0, 200, Or.inl rfl, rfl, h1⟩, ⟨trivial, h2⟩⟩⟩
theorem sg_258_0 {x1 : Int32} {x2 : Int32} {x3 : Int32} {M : px_Mem} {Q : px_Po} (h1 : px_T 0 226 0 [some (.ref 56), some (.int x1), some (.int x3)] [] M (fun r M1 => px_T 0 258 6 [some (.ref 56), some (.int x1), some (.int x2), some (.int x3), none, none, none, none] (r.toList ++ []) M1 Q)) : px_T 0 258 0 [some (.ref 56), some (.int x1), some (.int x2), some (.int x3), none, none, none, none] [] M Q := by
  obtain ⟨n, h⟩ := px_T_cl (k := 258) (pc := 3) (y := 226) (st := [.int x3, .int x1, .ref 56]) rfl (h1)
  exact ⟨n + 4, ⟨rfl, h⟩⟩
theorem sg_258_6 {x1 : Int32} {x2 : Int32} {x3 : Int32} {d4 : Option Value} {d5 : Option Value} {d6 : Option Value} {d7 : Option Value} {s0 : Int32} {M : px_Mem} {Q : px_Po} (h1 : (s0 = 0) → Q (some (.int (-2))) M) (h2 : (¬ (s0 = 0)) → px_T 0 185 0 [some (.int x2)] [] M (fun r M1 => px_T 0 258 13 [some (.ref 56), some (.int x1), some (.int x2), some (.int x3), d4, d5, d6, d7] (r.toList ++ []) M1 Q)) : px_T 0 258 6 [some (.ref 56), some (.int x1), some (.int x2), some (.int x3), d4, d5, d6, d7] [.int s0] M Q := by
  by_cases c1 : s0 = 0
  · exact ⟨3, ⟨fun _ => ⟨trivial, h1 c1⟩, fun q => absurd c1 q⟩⟩
  · obtain ⟨n, h⟩ := px_T_cl (k := 258) (pc := 10) (y := 185) (st := [.int x2]) rfl (h2 c1)
    exact ⟨n + 3, ⟨fun q => absurd q c1, fun _ => h⟩⟩
theorem sg_258_13 {x1 : Int32} {x2 : Int32} {x3 : Int32} {d4 : Option Value} {d5 : Option Value} {d6 : Option Value} {d7 : Option Value} {s0 : Int32} {M : px_Mem} {Q : px_Po} (h1 : (s0 = 0) → Q (some (.int (-2))) M) (h2 : (¬ (s0 = 0)) → px_T 0 246 0 [some (.ref 56), some (.int x1), some (.int x2), some (.int x3)] [] M (fun r M1 => px_T 0 258 29 [some (.ref 56), some (.int x1), some (.int x2), some (.int x3), some (.int 0), d5, d6, d7] (r.toList ++ []) M1 Q)) : px_T 0 258 13 [some (.ref 56), some (.int x1), some (.int x2), some (.int x3), d4, d5, d6, d7] [.int s0] M Q := by
  by_cases c1 : s0 = 0
  · exact ⟨3, ⟨fun q => absurd c1 q, fun _ => ⟨trivial, h1 c1⟩⟩⟩
  · obtain ⟨n, h⟩ := px_T_cl (k := 258) (pc := 26) (y := 246) (st := [.int x3, .int x2, .int x1, .ref 56]) rfl (h2 c1)
    exact ⟨n + 8, ⟨fun _ => ⟨rfl, h⟩, fun q => absurd q c1⟩⟩
theorem sg_258_29 {d1 : Option Value} {d2 : Option Value} {x3 : Int32} {x4 : Int32} {d5 : Option Value} {d6 : Option Value} {d7 : Option Value} {s0 : Int32} {M : px_Mem} {Q : px_Po} (h1 : (s0 = (-1)) → Q (some (.int 0)) M) (h2 : (¬ (s0 = (-1))) → px_T 0 258 42 [some (.ref 56), d1, d2, some (.int x3), some (.int x4), some (.int s0), some (.int 1), d7] [] M Q) : px_T 0 258 29 [some (.ref 56), d1, d2, some (.int x3), some (.int x4), d5, d6, d7] [.int s0] M Q := by
  by_cases c1 : s0 = (-1)
  · exact ⟨6, ⟨fun q => absurd c1 q, fun _ => ⟨trivial, h1 c1⟩⟩⟩
  · obtain ⟨n, h⟩ := h2 c1
    exact ⟨n + 6, ⟨fun _ => h, fun q => absurd q c1⟩⟩
theorem sg_258_42 {d1 : Option Value} {d2 : Option Value} {x3 : Int32} {x4 : Int32} {x5 : Int32} {x6 : Int32} {d7 : Option Value} {M : px_Mem} {Q : px_Po} (h1 : ((16 : Int32) ≤ x6) → Q (some (.int x4)) M) (h2 : (¬ ((16 : Int32) ≤ x6)) → px_T 0 258 52 [some (.ref 56), d1, d2, some (.int x3), some (.int x4), some (.int x5), some (.int x6), some (.int 0)] [] M Q) : px_T 0 258 42 [some (.ref 56), d1, d2, some (.int x3), some (.int x4), some (.int x5), some (.int x6), d7] [] M Q := by
  by_cases c1 : (16 : Int32) ≤ x6
  · exact ⟨5, ⟨fun _ => ⟨trivial, h1 c1⟩, fun q => absurd c1 q⟩⟩
  · obtain ⟨n, h⟩ := h2 c1
    exact ⟨n + 5, ⟨fun q => absurd q c1, fun _ => h⟩⟩
theorem sg_258_52 {d1 : Option Value} {d2 : Option Value} {x3 : Int32} {x4 : Int32} {x5 : Int32} {x6 : Int32} {x7 : Int32} {M : px_Mem} {Q : px_Po} (h1 : ((8 : Int32) ≤ x7) → px_T 0 258 42 [some (.ref 56), d1, d2, some (.int x3), some (.int x4), some (.int x5), some (.int (x6 + 1)), some (.int x7)] [] M Q) (h2 : (¬ ((8 : Int32) ≤ x7)) → px_T 0 246 0 [some (.ref 56), some (.int x6), some (.int x7), some (.int x3)] [] M (fun r M1 => px_T 0 258 70 [some (.ref 56), d1, d2, some (.int x3), some (.int x4), some (.int x5), some (.int x6), some (.int x7)] (r.toList ++ [.int x4]) M1 Q)) : px_T 0 258 52 [some (.ref 56), d1, d2, some (.int x3), some (.int x4), some (.int x5), some (.int x6), some (.int x7)] [] M Q := by
  by_cases c1 : (8 : Int32) ≤ x7
  · obtain ⟨n, h⟩ := h1 c1
    exact ⟨n + 5, ⟨fun _ => h, fun q => absurd c1 q⟩⟩
  · obtain ⟨n, h⟩ := px_T_cl (k := 258) (pc := 67) (y := 246) (st := [.int x3, .int x7, .int x6, .ref 56, .int x4]) rfl (h2 c1)
    exact ⟨n + 9, ⟨fun q => absurd q c1, fun _ => ⟨rfl, h⟩⟩⟩
theorem sg_258_70 {d1 : Option Value} {d2 : Option Value} {x3 : Int32} {d4 : Option Value} {x5 : Int32} {x6 : Int32} {x7 : Int32} {s0 : Int32} {s1 : Int32} {M : px_Mem} {Q : px_Po} (h1 : (s0 = x5) → px_T 0 258 52 [some (.ref 56), d1, d2, some (.int x3), some (.int (s1 ||| (1 <<< ((x6 - 1) &&& 31)))), some (.int x5), some (.int x6), some (.int (x7 + 1))] [] M Q) (h2 : (¬ (s0 = x5)) → px_T 0 258 52 [some (.ref 56), d1, d2, some (.int x3), some (.int (s1 ||| 0)), some (.int x5), some (.int x6), some (.int (x7 + 1))] [] M Q) : px_T 0 258 70 [some (.ref 56), d1, d2, some (.int x3), d4, some (.int x5), some (.int x6), some (.int x7)] [.int s0, .int s1] M Q := by
  by_cases c1 : s0 = x5
  · obtain ⟨n, h⟩ := h1 c1
    exact ⟨n + 12, ⟨fun q => absurd c1 q, fun _ => h⟩⟩
  · obtain ⟨n, h⟩ := h2 c1
    exact ⟨n + 7, ⟨fun _ => h, fun q => absurd q c1⟩⟩
theorem sg_259_0 {x1 : Int32} {M : px_Mem} {Q : px_Po} (h1 : px_T 0 256 0 [some (.ref 56), some (.int x1), none, none, none] [] M (fun r M1 => px_T 0 259 5 [some (.ref 56), some (.int x1), none, none, none, none, none] (r.toList ++ []) M1 Q)) : px_T 0 259 0 [some (.ref 56), some (.int x1), none, none, none, none, none] [] M Q := by
  obtain ⟨n, h⟩ := px_T_cl (k := 259) (pc := 2) (y := 256) (st := [.int x1, .ref 56]) rfl (h1)
  exact ⟨n + 3, ⟨rfl, h⟩⟩
theorem sg_259_5 {x1 : Int32} {d2 : Option Value} {d3 : Option Value} {d4 : Option Value} {d5 : Option Value} {d6 : Option Value} {M : px_Mem} {Q : px_Po} (h1 : px_T 0 259 13 [some (.ref 56), some (.int x1), some (.int (510 * x1)), some (.int 1), d4, d5, d6] [] M Q) : px_T 0 259 5 [some (.ref 56), some (.int x1), d2, d3, d4, d5, d6] [] M Q := by
  obtain ⟨n, h⟩ := h1
  exact ⟨n + 6, h⟩
theorem sg_259_13 {x1 : Int32} {x2 : Int32} {x3 : Int32} {d4 : Option Value} {d5 : Option Value} {d6 : Option Value} {M : px_Mem} {Q : px_Po} (h1 : ((16 : Int32) ≤ x3) → px_T 0 259 112 [some (.ref 56), some (.int x1), some (.int x2), some (.int 0), d4, d5, d6] [] M Q) (h2 : (¬ ((16 : Int32) ≤ x3)) → px_T 0 228 0 [some (.ref 56), some (.int x3), some (.int x1)] [] M (fun r M1 => px_T 0 259 30 [some (.ref 56), some (.int x1), some (.int x2), some (.int x3), d4, d5, d6] (r.toList ++ [.int x2, .ref 84]) M1 Q)) : px_T 0 259 13 [some (.ref 56), some (.int x1), some (.int x2), some (.int x3), d4, d5, d6] [] M Q := by
  by_cases c1 : (16 : Int32) ≤ x3
  · obtain ⟨n, h⟩ := h1 c1
    exact ⟨n + 5, ⟨fun _ => h, fun q => absurd c1 q⟩⟩
  · obtain ⟨n, h⟩ := px_T_cl (k := 259) (pc := 27) (y := 228) (st := [.int x1, .int x3, .ref 56, .int x2, .ref 84]) rfl (h2 c1)
    exact ⟨n + 10, ⟨fun q => absurd q c1, fun _ => ⟨rfl, ⟨rfl, h⟩⟩⟩⟩
theorem sg_259_112 {x1 : Int32} {x2 : Int32} {x3 : Int32} {d4 : Option Value} {d5 : Option Value} {d6 : Option Value} {M : px_Mem} {Q : px_Po} (h1 : ((120 : Int32) ≤ x3) → Q none M) (h2 : (¬ ((120 : Int32) ≤ x3)) → ((M.1 56 41) ≤ x3) → vp_in x2 37230) (h3 : (¬ ((120 : Int32) ≤ x3)) → ((M.1 56 41) ≤ x3) → px_T 0 259 225 [some (.ref 56), some (.int x1), some (.int x2), some (.int x3), some (.int 0), some (.int 0), some (.int (-1))] [] (px_wI M 84 x2.toNatClampNeg (-1)) Q) (h4 : (¬ ((120 : Int32) ≤ x3)) → (¬ ((M.1 56 41) ≤ x3)) → vp_in x3 120) (h5 : (¬ ((120 : Int32) ≤ x3)) → (¬ ((M.1 56 41) ≤ x3)) → vp_in (M.1 83 x3.toNatClampNeg) 200) (h6 : (¬ ((120 : Int32) ≤ x3)) → (¬ ((M.1 56 41) ≤ x3)) → ((M.1 71 ((M.1 83 x3.toNatClampNeg).toNatClampNeg)) = 0) → vp_in x2 37230) (h7 : (¬ ((120 : Int32) ≤ x3)) → (¬ ((M.1 56 41) ≤ x3)) → ((M.1 71 ((M.1 83 x3.toNatClampNeg).toNatClampNeg)) = 0) → px_T 0 259 225 [some (.ref 56), some (.int x1), some (.int x2), some (.int x3), some (.int 1), some (.int (M.1 83 x3.toNatClampNeg)), some (.int (-1))] [] (px_wI M 84 x2.toNatClampNeg (M.1 71 ((M.1 83 x3.toNatClampNeg).toNatClampNeg))) Q) (h8 : (¬ ((120 : Int32) ≤ x3)) → (¬ ((M.1 56 41) ≤ x3)) → (¬ ((M.1 71 ((M.1 83 x3.toNatClampNeg).toNatClampNeg)) = 0)) → ((M.1 71 ((M.1 83 x3.toNatClampNeg).toNatClampNeg)) = 1) → vp_in ((M.1 83 x3.toNatClampNeg) + 1) 200) (h9 : (¬ ((120 : Int32) ≤ x3)) → (¬ ((M.1 56 41) ≤ x3)) → (¬ ((M.1 71 ((M.1 83 x3.toNatClampNeg).toNatClampNeg)) = 0)) → ((M.1 71 ((M.1 83 x3.toNatClampNeg).toNatClampNeg)) = 1) → px_T 0 259 203 [some (.ref 56), some (.int x1), some (.int x2), some (.int x3), some (.int 1), some (.int (M.1 83 x3.toNatClampNeg)), some (.int (M.1 82 (((M.1 83 x3.toNatClampNeg) + 1).toNatClampNeg)))] [] M Q) (h10 : (¬ ((120 : Int32) ≤ x3)) → (¬ ((M.1 56 41) ≤ x3)) → (¬ ((M.1 71 ((M.1 83 x3.toNatClampNeg).toNatClampNeg)) = 0)) → (¬ ((M.1 71 ((M.1 83 x3.toNatClampNeg).toNatClampNeg)) = 1)) → vp_in ((M.1 83 x3.toNatClampNeg) - 1) 200) (h11 : (¬ ((120 : Int32) ≤ x3)) → (¬ ((M.1 56 41) ≤ x3)) → (¬ ((M.1 71 ((M.1 83 x3.toNatClampNeg).toNatClampNeg)) = 0)) → (¬ ((M.1 71 ((M.1 83 x3.toNatClampNeg).toNatClampNeg)) = 1)) → px_T 0 259 203 [some (.ref 56), some (.int x1), some (.int x2), some (.int x3), some (.int 1), some (.int (M.1 83 x3.toNatClampNeg)), some (.int (M.1 82 (((M.1 83 x3.toNatClampNeg) - 1).toNatClampNeg)))] [] M Q) : px_T 0 259 112 [some (.ref 56), some (.int x1), some (.int x2), some (.int x3), d4, d5, d6] [] M Q := by
  by_cases c1 : (120 : Int32) ≤ x3
  · exact ⟨4, ⟨fun _ => ⟨rfl, h1 c1⟩, fun q => absurd c1 q⟩⟩
  · by_cases c2 : (M.1 56 41) ≤ x3
    · obtain ⟨n, h⟩ := h3 c1 c2
      exact ⟨n + 25, ⟨fun q => absurd q c1, fun _ => ⟨rfl, ⟨fun _ => ⟨fun _ => ⟨fun _ => ⟨rfl, ⟨fun _ => ⟨⟨37230, rfl, (h2 c1 c2)⟩, h⟩, fun q => absurd (by decide) q⟩⟩, fun q => absurd (by decide) q⟩, fun q => absurd (by decide) q⟩, fun q => absurd c2 q⟩⟩⟩⟩
    · by_cases c3 : (M.1 71 ((M.1 83 x3.toNatClampNeg).toNatClampNeg)) = 0
      · obtain ⟨n, h⟩ := h7 c1 c2 c3
        exact ⟨n + 39, ⟨fun q => absurd q c1, fun _ => ⟨rfl, ⟨fun q => absurd q c2, fun _ => ⟨fun q => absurd q (by decide), fun _ => ⟨rfl, ⟨Or.inl ⟨0, 120, Or.inl rfl, rfl, (h4 c1 c2)⟩, ⟨fun q => absurd q (by decide), fun _ => ⟨rfl, ⟨Or.inl ⟨0, 200, Or.inl rfl, rfl, (h5 c1 c2)⟩, ⟨fun q => absurd c3 q, fun _ => ⟨rfl, ⟨fun q => absurd q (by decide), fun _ => ⟨rfl, ⟨Or.inl ⟨0, 200, Or.inl rfl, rfl, (h5 c1 c2)⟩, ⟨⟨37230, rfl, (h6 c1 c2 c3)⟩, h⟩⟩⟩⟩⟩⟩⟩⟩⟩⟩⟩⟩⟩⟩⟩⟩
      · by_cases c4 : (M.1 71 ((M.1 83 x3.toNatClampNeg).toNatClampNeg)) = 1
        · obtain ⟨n, h⟩ := h9 c1 c2 c3 c4
          exact ⟨n + 39, ⟨fun q => absurd q c1, fun _ => ⟨rfl, ⟨fun q => absurd q c2, fun _ => ⟨fun q => absurd q (by decide), fun _ => ⟨rfl, ⟨Or.inl ⟨0, 120, Or.inl rfl, rfl, (h4 c1 c2)⟩, ⟨fun q => absurd q (by decide), fun _ => ⟨rfl, ⟨Or.inl ⟨0, 200, Or.inl rfl, rfl, (h5 c1 c2)⟩, ⟨fun _ => ⟨rfl, ⟨Or.inl ⟨0, 200, Or.inl rfl, rfl, (h5 c1 c2)⟩, ⟨fun q => absurd c4 q, fun _ => ⟨rfl, ⟨Or.inl ⟨0, 200, Or.inl rfl, rfl, (h8 c1 c2 c3 c4)⟩, h⟩⟩⟩⟩⟩, fun q => absurd q c3⟩⟩⟩⟩⟩⟩⟩⟩⟩⟩⟩
        · obtain ⟨n, h⟩ := h11 c1 c2 c3 c4
          exact ⟨n + 38, ⟨fun q => absurd q c1, fun _ => ⟨rfl, ⟨fun q => absurd q c2, fun _ => ⟨fun q => absurd q (by decide), fun _ => ⟨rfl, ⟨Or.inl ⟨0, 120, Or.inl rfl, rfl, (h4 c1 c2)⟩, ⟨fun q => absurd q (by decide), fun _ => ⟨rfl, ⟨Or.inl ⟨0, 200, Or.inl rfl, rfl, (h5 c1 c2)⟩, ⟨fun _ => ⟨rfl, ⟨Or.inl ⟨0, 200, Or.inl rfl, rfl, (h5 c1 c2)⟩, ⟨fun _ => ⟨rfl, ⟨Or.inl ⟨0, 200, Or.inl rfl, rfl, (h10 c1 c2 c3 c4)⟩, h⟩⟩, fun q => absurd q c4⟩⟩⟩, fun q => absurd q c3⟩⟩⟩⟩⟩⟩⟩⟩⟩⟩⟩
theorem sg_259_30 {x1 : Int32} {x2 : Int32} {x3 : Int32} {d4 : Option Value} {d5 : Option Value} {d6 : Option Value} {s0 : Int32} {s1 : Int32} {M : px_Mem} {Q : px_Po} (h1 : vp_in s1 37230) (h2 : px_T 0 229 0 [some (.ref 56), some (.int x3), some (.int x1)] [] (px_wI M 84 s1.toNatClampNeg s0) (fun r M1 => px_T 0 259 44 [some (.ref 56), some (.int x1), some (.int x2), some (.int x3), d4, d5, d6] (r.toList ++ [.int (x2 + 1), .ref 84]) M1 Q)) : px_T 0 259 30 [some (.ref 56), some (.int x1), some (.int x2), some (.int x3), d4, d5, d6] [.int s0, .int s1, .ref 84] M Q := by
  obtain ⟨n, h⟩ := px_T_cl (k := 259) (pc := 41) (y := 229) (st := [.int x1, .int x3, .ref 56, .int (x2 + 1), .ref 84]) rfl (h2)
  exact ⟨n + 10, ⟨⟨37230, rfl, h1⟩, ⟨rfl, ⟨rfl, h⟩⟩⟩⟩
theorem sg_259_225 {x1 : Int32} {x2 : Int32} {x3 : Int32} {x4 : Int32} {x5 : Int32} {x6 : Int32} {M : px_Mem} {Q : px_Po} (h1 : (x4 = 0) → vp_in (x2 + 1) 37230) (h2 : (x4 = 0) → vp_in (x2 + 2) 37230) (h3 : (x4 = 0) → px_T 0 259 112 [some (.ref 56), some (.int x1), some (.int (x2 + 3)), some (.int (x3 + 1)), some (.int x4), some (.int x5), some (.int x6)] [] (px_wI (px_wI M 84 ((x2 + 1).toNatClampNeg) (-1)) 84 ((x2 + 2).toNatClampNeg) x6) Q) (h4 : (¬ (x4 = 0)) → px_T 0 253 0 [some (.ref 56), some (.int x5), some (.int x1), none] [] M (fun r M1 => px_T 0 259 244 [some (.ref 56), some (.int x1), some (.int x2), some (.int x3), some (.int x4), some (.int x5), some (.int x6)] (r.toList ++ [.int (x2 + 1), .ref 84]) M1 Q)) : px_T 0 259 225 [some (.ref 56), some (.int x1), some (.int x2), some (.int x3), some (.int x4), some (.int x5), some (.int x6)] [] M Q := by
  by_cases c1 : x4 = 0
  · obtain ⟨n, h⟩ := h3 c1
    exact ⟨n + 19, ⟨rfl, ⟨fun _ => ⟨⟨37230, rfl, (h1 c1)⟩, ⟨rfl, ⟨⟨37230, rfl, (h2 c1)⟩, h⟩⟩⟩, fun q => absurd c1 q⟩⟩⟩
  · obtain ⟨n, h⟩ := px_T_cl (k := 259) (pc := 241) (y := 253) (st := [.int x1, .int x5, .ref 56, .int (x2 + 1), .ref 84]) rfl (h4 c1)
    exact ⟨n + 11, ⟨rfl, ⟨fun q => absurd q c1, fun _ => ⟨rfl, h⟩⟩⟩⟩
theorem sg_259_203 {x1 : Int32} {x2 : Int32} {x3 : Int32} {x4 : Int32} {x5 : Int32} {x6 : Int32} {M : px_Mem} {Q : px_Po} (h1 : (x4 = 0) → vp_in x2 37230) (h2 : (x4 = 0) → px_T 0 259 225 [some (.ref 56), some (.int x1), some (.int x2), some (.int x3), some (.int x4), some (.int x5), some (.int x6)] [] (px_wI M 84 x2.toNatClampNeg (-1)) Q) (h3 : (¬ (x4 = 0)) → vp_in x5 200) (h4 : (¬ (x4 = 0)) → vp_in x2 37230) (h5 : (¬ (x4 = 0)) → px_T 0 259 225 [some (.ref 56), some (.int x1), some (.int x2), some (.int x3), some (.int x4), some (.int x5), some (.int x6)] [] (px_wI M 84 x2.toNatClampNeg (M.1 71 x5.toNatClampNeg)) Q) : px_T 0 259 203 [some (.ref 56), some (.int x1), some (.int x2), some (.int x3), some (.int x4), some (.int x5), some (.int x6)] [] M Q := by
  by_cases c1 : x4 = 0
  · obtain ⟨n, h⟩ := h2 c1
    exact ⟨n + 7, ⟨rfl, ⟨fun _ => ⟨⟨37230, rfl, (h1 c1)⟩, h⟩, fun q => absurd c1 q⟩⟩⟩
  · obtain ⟨n, h⟩ := h5 c1
    exact ⟨n + 11, ⟨rfl, ⟨fun q => absurd q c1, fun _ => ⟨rfl, ⟨Or.inl ⟨0, 200, Or.inl rfl, rfl, (h3 c1)⟩, ⟨⟨37230, rfl, (h4 c1)⟩, h⟩⟩⟩⟩⟩⟩
theorem sg_259_44 {x1 : Int32} {x2 : Int32} {x3 : Int32} {d4 : Option Value} {d5 : Option Value} {d6 : Option Value} {s0 : Int32} {s1 : Int32} {M : px_Mem} {Q : px_Po} (h1 : vp_in s1 37230) (h2 : px_T 0 259 48 [some (.ref 56), some (.int x1), some (.int x2), some (.int x3), some (.int 0), d5, d6] [] (px_wI M 84 s1.toNatClampNeg s0) Q) : px_T 0 259 44 [some (.ref 56), some (.int x1), some (.int x2), some (.int x3), d4, d5, d6] [.int s0, .int s1, .ref 84] M Q := by
  obtain ⟨n, h⟩ := h2
  exact ⟨n + 3, ⟨⟨37230, rfl, h1⟩, h⟩⟩
theorem sg_259_244 {x1 : Int32} {x2 : Int32} {x3 : Int32} {d4 : Option Value} {d5 : Option Value} {x6 : Int32} {s0 : Int32} {s1 : Int32} {M : px_Mem} {Q : px_Po} (h1 : vp_in s1 37230) (h2 : vp_in (x2 + 2) 37230) (h3 : px_T 0 259 112 [some (.ref 56), some (.int x1), some (.int (x2 + 3)), some (.int (x3 + 1)), d4, d5, some (.int x6)] [] (px_wI (px_wI M 84 s1.toNatClampNeg s0) 84 ((x2 + 2).toNatClampNeg) x6) Q) : px_T 0 259 244 [some (.ref 56), some (.int x1), some (.int x2), some (.int x3), d4, d5, some (.int x6)] [.int s0, .int s1, .ref 84] M Q := by
  obtain ⟨n, h⟩ := h3
  exact ⟨n + 12, ⟨⟨37230, rfl, h1⟩, ⟨rfl, ⟨⟨37230, rfl, h2⟩, h⟩⟩⟩⟩
theorem sg_259_48 {x1 : Int32} {x2 : Int32} {x3 : Int32} {x4 : Int32} {d5 : Option Value} {d6 : Option Value} {M : px_Mem} {Q : px_Po} (h1 : ((8 : Int32) ≤ x4) → px_T 0 259 13 [some (.ref 56), some (.int x1), some (.int (x2 + 10)), some (.int (x3 + 1)), some (.int x4), d5, d6] [] M Q) (h2 : (¬ ((8 : Int32) ≤ x4)) → px_T 0 246 0 [some (.ref 56), some (.int x3), some (.int x4), some (.int x1)] [] M (fun r M1 => px_T 0 259 73 [some (.ref 56), some (.int x1), some (.int x2), some (.int x3), some (.int x4), d5, d6] (r.toList ++ [.int ((x2 + 2) + x4), .ref 84]) M1 Q)) : px_T 0 259 48 [some (.ref 56), some (.int x1), some (.int x2), some (.int x3), some (.int x4), d5, d6] [] M Q := by
  by_cases c1 : (8 : Int32) ≤ x4
  · obtain ⟨n, h⟩ := h1 c1
    exact ⟨n + 6, ⟨fun _ => h, fun q => absurd c1 q⟩⟩
  · obtain ⟨n, h⟩ := px_T_cl (k := 259) (pc := 70) (y := 246) (st := [.int x1, .int x4, .int x3, .ref 56, .int ((x2 + 2) + x4), .ref 84]) rfl (h2 c1)
    exact ⟨n + 15, ⟨fun q => absurd q c1, fun _ => ⟨rfl, ⟨rfl, h⟩⟩⟩⟩
theorem sg_259_73 {x1 : Int32} {x2 : Int32} {x3 : Int32} {x4 : Int32} {d5 : Option Value} {d6 : Option Value} {s0 : Int32} {s1 : Int32} {M : px_Mem} {Q : px_Po} (h1 : (s0 = (-1)) → vp_in s1 37230) (h2 : (s0 = (-1)) → px_T 0 259 48 [some (.ref 56), some (.int x1), some (.int x2), some (.int x3), some (.int (x4 + 1)), d5, d6] [] (px_wI M 84 s1.toNatClampNeg (-1)) Q) (h3 : (¬ (s0 = (-1))) → px_T 0 246 0 [some (.ref 56), some (.int x3), some (.int x4), some (.int x1)] [] M (fun r M1 => px_T 0 259 93 [some (.ref 56), some (.int x1), some (.int x2), some (.int x3), some (.int x4), d5, d6] (r.toList ++ [.ref 82, .int s1, .ref 84]) M1 Q)) : px_T 0 259 73 [some (.ref 56), some (.int x1), some (.int x2), some (.int x3), some (.int x4), d5, d6] [.int s0, .int s1, .ref 84] M Q := by
  by_cases c1 : s0 = (-1)
  · obtain ⟨n, h⟩ := h2 c1
    exact ⟨n + 7, ⟨fun q => absurd c1 q, fun _ => ⟨⟨37230, rfl, (h1 c1)⟩, h⟩⟩⟩
  · obtain ⟨n, h⟩ := px_T_cl (k := 259) (pc := 90) (y := 246) (st := [.int x1, .int x4, .int x3, .ref 56, .ref 82, .int s1, .ref 84]) rfl (h3 c1)
    exact ⟨n + 9, ⟨fun _ => ⟨rfl, ⟨rfl, h⟩⟩, fun q => absurd q c1⟩⟩
theorem sg_259_93 {x1 : Int32} {x2 : Int32} {x3 : Int32} {x4 : Int32} {d5 : Option Value} {d6 : Option Value} {s0 : Int32} {s2 : Int32} {M : px_Mem} {Q : px_Po} (h1 : vp_in s0 200) (h2 : vp_in s2 37230) (h3 : px_T 0 259 48 [some (.ref 56), some (.int x1), some (.int x2), some (.int x3), some (.int (x4 + 1)), d5, d6] [] (px_wI M 84 s2.toNatClampNeg (M.1 82 s0.toNatClampNeg)) Q) : px_T 0 259 93 [some (.ref 56), some (.int x1), some (.int x2), some (.int x3), some (.int x4), d5, d6] [.int s0, .ref 82, .int s2, .ref 84] M Q := by
  obtain ⟨n, h⟩ := h3
  exact ⟨n + 4, ⟨Or.inl ⟨0, 200, Or.inl rfl, rfl, h1⟩, ⟨⟨37230, rfl, h2⟩, h⟩⟩⟩
theorem sg_260_0 {x1 : Int32} {x2 : Int32} {M : px_Mem} {Q : px_Po} (h1 : px_T 0 260 5 [some (.ref 56), some (.int x1), some (.int x2), some (.int 1), some (.int 0)] [] M Q) : px_T 0 260 0 [some (.ref 56), some (.int x1), some (.int x2), none, none] [] M Q := by
  obtain ⟨n, h⟩ := h1
  exact ⟨n + 4, h⟩
theorem sg_260_5 {x1 : Int32} {x2 : Int32} {x3 : Int32} {x4 : Int32} {M : px_Mem} {Q : px_Po} (h1 : ((510 : Int32) ≤ x4) → (x3 = 0 ∨ x3 = 1)) (h2 : ((510 : Int32) ≤ x4) → Q (some (.int x3)) M) (h3 : (¬ ((510 : Int32) ≤ x4)) → (x3 = 0) → (x3 = 0 ∨ x3 = 1)) (h4 : (¬ ((510 : Int32) ≤ x4)) → (x3 = 0) → Q (some (.int x3)) M) (h5 : (¬ ((510 : Int32) ≤ x4)) → (¬ (x3 = 0)) → vp_in ((510 * x1) + x4) 37230) (h6 : (¬ ((510 : Int32) ≤ x4)) → (¬ (x3 = 0)) → vp_in ((510 * x2) + x4) 37230) (h7 : (¬ ((510 : Int32) ≤ x4)) → (¬ (x3 = 0)) → ((M.1 84 (((510 * x1) + x4).toNatClampNeg)) = (M.1 84 (((510 * x2) + x4).toNatClampNeg))) → px_T 0 260 5 [some (.ref 56), some (.int x1), some (.int x2), some (.int 1), some (.int (x4 + 1))] [] M Q) (h8 : (¬ ((510 : Int32) ≤ x4)) → (¬ (x3 = 0)) → (¬ ((M.1 84 (((510 * x1) + x4).toNatClampNeg)) = (M.1 84 (((510 * x2) + x4).toNatClampNeg)))) → px_T 0 260 5 [some (.ref 56), some (.int x1), some (.int x2), some (.int 0), some (.int (x4 + 1))] [] M Q) : px_T 0 260 5 [some (.ref 56), some (.int x1), some (.int x2), some (.int x3), some (.int x4)] [] M Q := by
  by_cases c1 : (510 : Int32) ≤ x4
  · exact ⟨5, ⟨fun _ => ⟨(h1 c1), h2 c1⟩, fun q => absurd c1 q⟩⟩
  · by_cases c2 : x3 = 0
    · exact ⟨7, ⟨fun q => absurd q c1, fun _ => ⟨fun _ => ⟨(h3 c1 c2), h4 c1 c2⟩, fun q => absurd c2 q⟩⟩⟩
    · by_cases c3 : (M.1 84 (((510 * x1) + x4).toNatClampNeg)) = (M.1 84 (((510 * x2) + x4).toNatClampNeg))
      · obtain ⟨n, h⟩ := h7 c1 c2 c3
        exact ⟨n + 27, ⟨fun q => absurd q c1, fun _ => ⟨fun q => absurd q c2, fun _ => ⟨rfl, ⟨Or.inl ⟨0, 37230, Or.inl rfl, rfl, (h5 c1 c2)⟩, ⟨rfl, ⟨Or.inl ⟨0, 37230, Or.inl rfl, rfl, (h6 c1 c2)⟩, ⟨fun q => absurd c3 q, fun _ => h⟩⟩⟩⟩⟩⟩⟩⟩
      · obtain ⟨n, h⟩ := h8 c1 c2 c3
        exact ⟨n + 26, ⟨fun q => absurd q c1, fun _ => ⟨fun q => absurd q c2, fun _ => ⟨rfl, ⟨Or.inl ⟨0, 37230, Or.inl rfl, rfl, (h5 c1 c2)⟩, ⟨rfl, ⟨Or.inl ⟨0, 37230, Or.inl rfl, rfl, (h6 c1 c2)⟩, ⟨fun _ => h, fun q => absurd q c3⟩⟩⟩⟩⟩⟩⟩⟩
theorem sg_261_0 {M : px_Mem} {Q : px_Po} (h1 : px_T 0 224 0 [some (.ref 56)] [] M (fun r M1 => px_T 0 261 4 [some (.ref 56), none, none] (r.toList ++ []) M1 Q)) : px_T 0 261 0 [some (.ref 56), none, none] [] M Q := by
  obtain ⟨n, h⟩ := px_T_cl (k := 261) (pc := 1) (y := 224) (st := [.ref 56]) rfl (h1)
  exact ⟨n + 2, ⟨rfl, h⟩⟩
theorem sg_261_4 {d1 : Option Value} {d2 : Option Value} {s0 : Int32} {M : px_Mem} {Q : px_Po} (h1 : px_T 0 261 7 [some (.ref 56), some (.int s0), some (.int 0)] [] M Q) : px_T 0 261 4 [some (.ref 56), d1, d2] [.int s0] M Q := by
  obtain ⟨n, h⟩ := h1
  exact ⟨n + 3, h⟩
theorem sg_261_7 {x1 : Int32} {x2 : Int32} {M : px_Mem} {Q : px_Po} (h1 : ((M.1 56 20) < x2) → (x1 = 0 ∨ x1 = 1)) (h2 : ((M.1 56 20) < x2) → Q (some (.int x1)) M) (h3 : (¬ ((M.1 56 20) < x2)) → px_T 0 259 0 [some (.ref 56), some (.int x2), none, none, none, none, none] [] M (fun r M1 => px_T 0 261 20 [some (.ref 56), some (.int x1), some (.int x2)] (r.toList ++ []) M1 Q)) : px_T 0 261 7 [some (.ref 56), some (.int x1), some (.int x2)] [] M Q := by
  by_cases c1 : (M.1 56 20) < x2
  · exact ⟨6, ⟨rfl, ⟨fun _ => ⟨(h1 c1), h2 c1⟩, fun q => absurd c1 q⟩⟩⟩
  · obtain ⟨n, h⟩ := px_T_cl (k := 261) (pc := 17) (y := 259) (st := [.int x2, .ref 56]) rfl (h3 c1)
    exact ⟨n + 7, ⟨rfl, ⟨fun q => absurd q c1, fun _ => ⟨rfl, h⟩⟩⟩⟩
theorem sg_261_20 {x1 : Int32} {x2 : Int32} {M : px_Mem} {Q : px_Po} (h1 : px_T 0 261 7 [some (.ref 56), some (.int x1), some (.int (x2 + 1))] [] M Q) : px_T 0 261 20 [some (.ref 56), some (.int x1), some (.int x2)] [] M Q := by
  obtain ⟨n, h⟩ := h1
  exact ⟨n + 2, h⟩
theorem sg_262_0 {x1 : Int32} {M : px_Mem} {Q : px_Po} (h1 : px_T 0 262 2 [some (.ref 56), some (.int x1), some (.int 0)] [] M Q) : px_T 0 262 0 [some (.ref 56), some (.int x1), none] [] M Q := by
  obtain ⟨n, h⟩ := h1
  exact ⟨n + 2, h⟩
theorem sg_262_2 {x1 : Int32} {x2 : Int32} {M : px_Mem} {Q : px_Po} (h1 : px_T 0 260 0 [some (.ref 56), some (.int x2), some (.int x1), none, none] [] M (fun r M1 => px_T 0 262 8 [some (.ref 56), some (.int x1), some (.int x2)] (r.toList ++ []) M1 Q)) : px_T 0 262 2 [some (.ref 56), some (.int x1), some (.int x2)] [] M Q := by
  obtain ⟨n, h⟩ := px_T_cl (k := 262) (pc := 5) (y := 260) (st := [.int x1, .int x2, .ref 56]) rfl (h1)
  exact ⟨n + 4, ⟨rfl, h⟩⟩
theorem sg_262_8 {x1 : Int32} {x2 : Int32} {s0 : Int32} {M : px_Mem} {Q : px_Po} (h1 : (s0 = 0) → px_T 0 262 2 [some (.ref 56), some (.int x1), some (.int (x2 + 1))] [] M Q) (h2 : (¬ (s0 = 0)) → Q (some (.int x2)) M) : px_T 0 262 8 [some (.ref 56), some (.int x1), some (.int x2)] [.int s0] M Q := by
  by_cases c1 : s0 = 0
  · obtain ⟨n, h⟩ := h1 c1
    exact ⟨n + 3, ⟨fun q => absurd c1 q, fun _ => h⟩⟩
  · exact ⟨3, ⟨fun _ => ⟨trivial, h2 c1⟩, fun q => absurd q c1⟩⟩
theorem sg_263_0 {x1 : Int32} {x2 : Int32} {M : px_Mem} {Q : px_Po} (h1 : px_T 0 261 0 [some (.ref 56), none, none] [] M (fun r M1 => px_T 0 263 4 [some (.ref 56), some (.int x1), some (.int x2)] (r.toList ++ []) M1 Q)) : px_T 0 263 0 [some (.ref 56), some (.int x1), some (.int x2)] [] M Q := by
  obtain ⟨n, h⟩ := px_T_cl (k := 263) (pc := 1) (y := 261) (st := [.ref 56]) rfl (h1)
  exact ⟨n + 2, ⟨rfl, h⟩⟩
theorem sg_263_4 {x1 : Int32} {x2 : Int32} {s0 : Int32} {M : px_Mem} {Q : px_Po} (h1 : (s0 = 0) → Q (some (.int (-2))) M) (h2 : (¬ (s0 = 0)) → px_T 0 183 0 [some (.ref 56), some (.long x1.toInt64), none] [] M (fun r M1 => px_T 0 263 13 [some (.ref 56), some (.int x1), some (.int x2)] (r.toList ++ []) M1 Q)) : px_T 0 263 4 [some (.ref 56), some (.int x1), some (.int x2)] [.int s0] M Q := by
  by_cases c1 : s0 = 0
  · exact ⟨3, ⟨fun _ => ⟨trivial, h1 c1⟩, fun q => absurd c1 q⟩⟩
  · obtain ⟨n, h⟩ := px_T_cl (k := 263) (pc := 10) (y := 183) (st := [.long x1.toInt64, .ref 56]) rfl (h2 c1)
    exact ⟨n + 5, ⟨fun q => absurd q c1, fun _ => ⟨rfl, h⟩⟩⟩
theorem sg_263_13 {x1 : Int32} {x2 : Int32} {s0 : Int32} {M : px_Mem} {Q : px_Po} (h1 : (s0 = 0) → Q (some (.int (-2))) M) (h2 : (¬ (s0 = 0)) → px_T 0 183 0 [some (.ref 56), some (.long x2.toInt64), none] [] M (fun r M1 => px_T 0 263 22 [some (.ref 56), some (.int x1), some (.int x2)] (r.toList ++ []) M1 Q)) : px_T 0 263 13 [some (.ref 56), some (.int x1), some (.int x2)] [.int s0] M Q := by
  by_cases c1 : s0 = 0
  · exact ⟨3, ⟨fun _ => ⟨trivial, h1 c1⟩, fun q => absurd c1 q⟩⟩
  · obtain ⟨n, h⟩ := px_T_cl (k := 263) (pc := 19) (y := 183) (st := [.long x2.toInt64, .ref 56]) rfl (h2 c1)
    exact ⟨n + 5, ⟨fun q => absurd q c1, fun _ => ⟨rfl, h⟩⟩⟩
theorem sg_263_22 {x1 : Int32} {x2 : Int32} {s0 : Int32} {M : px_Mem} {Q : px_Po} (h1 : (s0 = 0) → Q (some (.int (-2))) M) (h2 : (¬ (s0 = 0)) → px_T 0 260 0 [some (.ref 56), some (.int x1), some (.int x2), none, none] [] M (fun r M1 => px_T 0 263 34 [some (.ref 56), some (.int x1), some (.int x2)] (r.toList ++ []) M1 Q)) : px_T 0 263 22 [some (.ref 56), some (.int x1), some (.int x2)] [.int s0] M Q := by
  by_cases c1 : s0 = 0
  · exact ⟨3, ⟨fun q => absurd c1 q, fun _ => ⟨trivial, h1 c1⟩⟩⟩
  · obtain ⟨n, h⟩ := px_T_cl (k := 263) (pc := 31) (y := 260) (st := [.int x2, .int x1, .ref 56]) rfl (h2 c1)
    exact ⟨n + 5, ⟨fun _ => ⟨rfl, h⟩, fun q => absurd q c1⟩⟩
theorem sg_263_34 {d0 : Option Value} {d1 : Option Value} {d2 : Option Value} {s0 : Int32} {M : px_Mem} {Q : px_Po} (h1 : (s0 = 0) → Q (some (.int 0)) M) (h2 : (¬ (s0 = 0)) → Q (some (.int 1)) M) : px_T 0 263 34 [d0, d1, d2] [.int s0] M Q := by
  by_cases c1 : s0 = 0
  · exact ⟨3, ⟨fun _ => ⟨trivial, h1 c1⟩, fun q => absurd c1 q⟩⟩
  · exact ⟨4, ⟨fun q => absurd q c1, fun _ => ⟨trivial, h2 c1⟩⟩⟩
theorem sg_264_0 {x1 : Int32} {M : px_Mem} {Q : px_Po} (h1 : px_T 0 261 0 [some (.ref 56), none, none] [] M (fun r M1 => px_T 0 264 4 [some (.ref 56), some (.int x1)] (r.toList ++ []) M1 Q)) : px_T 0 264 0 [some (.ref 56), some (.int x1)] [] M Q := by
  obtain ⟨n, h⟩ := px_T_cl (k := 264) (pc := 1) (y := 261) (st := [.ref 56]) rfl (h1)
  exact ⟨n + 2, ⟨rfl, h⟩⟩
theorem sg_264_4 {x1 : Int32} {s0 : Int32} {M : px_Mem} {Q : px_Po} (h1 : (s0 = 0) → Q (some (.int (-2))) M) (h2 : (¬ (s0 = 0)) → px_T 0 183 0 [some (.ref 56), some (.long x1.toInt64), none] [] M (fun r M1 => px_T 0 264 13 [some (.ref 56), some (.int x1)] (r.toList ++ []) M1 Q)) : px_T 0 264 4 [some (.ref 56), some (.int x1)] [.int s0] M Q := by
  by_cases c1 : s0 = 0
  · exact ⟨3, ⟨fun _ => ⟨trivial, h1 c1⟩, fun q => absurd c1 q⟩⟩
  · obtain ⟨n, h⟩ := px_T_cl (k := 264) (pc := 10) (y := 183) (st := [.long x1.toInt64, .ref 56]) rfl (h2 c1)
    exact ⟨n + 5, ⟨fun q => absurd q c1, fun _ => ⟨rfl, h⟩⟩⟩
theorem sg_264_13 {x1 : Int32} {s0 : Int32} {M : px_Mem} {Q : px_Po} (h1 : (s0 = 0) → Q (some (.int (-2))) M) (h2 : (¬ (s0 = 0)) → px_T 0 262 0 [some (.ref 56), some (.int x1), none] [] M (fun r M1 => px_T 0 264 21 [some (.ref 56), some (.int x1)] (r.toList ++ []) M1 Q)) : px_T 0 264 13 [some (.ref 56), some (.int x1)] [.int s0] M Q := by
  by_cases c1 : s0 = 0
  · exact ⟨3, ⟨fun _ => ⟨trivial, h1 c1⟩, fun q => absurd c1 q⟩⟩
  · obtain ⟨n, h⟩ := px_T_cl (k := 264) (pc := 18) (y := 262) (st := [.int x1, .ref 56]) rfl (h2 c1)
    exact ⟨n + 4, ⟨fun q => absurd q c1, fun _ => ⟨rfl, h⟩⟩⟩
theorem sg_264_21 {d0 : Option Value} {d1 : Option Value} {s0 : Int32} {M : px_Mem} {Q : px_Po} (h1 : Q (some (.int s0)) M) : px_T 0 264 21 [d0, d1] [.int s0] M Q := by
  exact ⟨2, ⟨trivial, h1⟩⟩
theorem sg_265_0 {M : px_Mem} {Q : px_Po} (h1 : px_T 0 261 0 [some (.ref 56), none, none] [] M (fun r M1 => px_T 0 265 4 [some (.ref 56), none, none] (r.toList ++ []) M1 Q)) : px_T 0 265 0 [some (.ref 56), none, none] [] M Q := by
  obtain ⟨n, h⟩ := px_T_cl (k := 265) (pc := 1) (y := 261) (st := [.ref 56]) rfl (h1)
  exact ⟨n + 2, ⟨rfl, h⟩⟩
theorem sg_265_4 {d1 : Option Value} {d2 : Option Value} {s0 : Int32} {M : px_Mem} {Q : px_Po} (h1 : (s0 = 0) → Q (some (.int (-2))) M) (h2 : (¬ (s0 = 0)) → px_T 0 265 14 [some (.ref 56), some (.int 0), some (.int 0)] [] M Q) : px_T 0 265 4 [some (.ref 56), d1, d2] [.int s0] M Q := by
  by_cases c1 : s0 = 0
  · exact ⟨3, ⟨fun q => absurd c1 q, fun _ => ⟨trivial, h1 c1⟩⟩⟩
  · obtain ⟨n, h⟩ := h2 c1
    exact ⟨n + 5, ⟨fun _ => h, fun q => absurd q c1⟩⟩
theorem sg_265_14 {x1 : Int32} {x2 : Int32} {M : px_Mem} {Q : px_Po} (h1 : ((M.1 56 20) < x2) → Q (some (.int x1)) M) (h2 : (¬ ((M.1 56 20) < x2)) → px_T 0 262 0 [some (.ref 56), some (.int x2), none] [] M (fun r M1 => px_T 0 265 28 [some (.ref 56), some (.int x1), some (.int x2)] (r.toList ++ [.int x1]) M1 Q)) : px_T 0 265 14 [some (.ref 56), some (.int x1), some (.int x2)] [] M Q := by
  by_cases c1 : (M.1 56 20) < x2
  · exact ⟨6, ⟨rfl, ⟨fun _ => ⟨trivial, h1 c1⟩, fun q => absurd c1 q⟩⟩⟩
  · obtain ⟨n, h⟩ := px_T_cl (k := 265) (pc := 25) (y := 262) (st := [.int x2, .ref 56, .int x1]) rfl (h2 c1)
    exact ⟨n + 8, ⟨rfl, ⟨fun q => absurd q c1, fun _ => ⟨rfl, h⟩⟩⟩⟩
theorem sg_265_28 {d1 : Option Value} {x2 : Int32} {s0 : Int32} {s1 : Int32} {M : px_Mem} {Q : px_Po} (h1 : (s0 = x2) → px_T 0 265 14 [some (.ref 56), some (.int (s1 + 1)), some (.int (x2 + 1))] [] M Q) (h2 : (¬ (s0 = x2)) → px_T 0 265 14 [some (.ref 56), some (.int (s1 + 0)), some (.int (x2 + 1))] [] M Q) : px_T 0 265 28 [some (.ref 56), d1, some (.int x2)] [.int s0, .int s1] M Q := by
  by_cases c1 : s0 = x2
  · obtain ⟨n, h⟩ := h1 c1
    exact ⟨n + 8, ⟨fun q => absurd c1 q, fun _ => h⟩⟩
  · obtain ⟨n, h⟩ := h2 c1
    exact ⟨n + 7, ⟨fun _ => h, fun q => absurd q c1⟩⟩
theorem sg_266_0 {M : px_Mem} {Q : px_Po} (h1 : px_T 0 261 0 [some (.ref 56), none, none] [] M (fun r M1 => px_T 0 266 4 [some (.ref 56), none, none, none, none, none] (r.toList ++ []) M1 Q)) : px_T 0 266 0 [some (.ref 56), none, none, none, none, none] [] M Q := by
  obtain ⟨n, h⟩ := px_T_cl (k := 266) (pc := 1) (y := 261) (st := [.ref 56]) rfl (h1)
  exact ⟨n + 2, ⟨rfl, h⟩⟩
theorem sg_266_4 {d1 : Option Value} {d2 : Option Value} {d3 : Option Value} {d4 : Option Value} {d5 : Option Value} {s0 : Int32} {M : px_Mem} {Q : px_Po} (h1 : (s0 = 0) → Q (some (.int (-2))) M) (h2 : (¬ (s0 = 0)) → px_T 0 266 16 [some (.ref 56), some (.int 0), some (.int 0), some (.int 0), d4, d5] [] M Q) : px_T 0 266 4 [some (.ref 56), d1, d2, d3, d4, d5] [.int s0] M Q := by
  by_cases c1 : s0 = 0
  · exact ⟨3, ⟨fun q => absurd c1 q, fun _ => ⟨trivial, h1 c1⟩⟩⟩
  · obtain ⟨n, h⟩ := h2 c1
    exact ⟨n + 7, ⟨fun _ => h, fun q => absurd q c1⟩⟩
theorem sg_266_16 {x1 : Int32} {x2 : Int32} {x3 : Int32} {d4 : Option Value} {d5 : Option Value} {M : px_Mem} {Q : px_Po} (h1 : ((M.1 56 20) < x3) → Q (some (.int x1)) M) (h2 : (¬ ((M.1 56 20) < x3)) → px_T 0 266 30 [some (.ref 56), some (.int x1), some (.int x2), some (.int x3), some (.int 0), some (.int x3)] [] M Q) : px_T 0 266 16 [some (.ref 56), some (.int x1), some (.int x2), some (.int x3), d4, d5] [] M Q := by
  by_cases c1 : (M.1 56 20) < x3
  · exact ⟨6, ⟨rfl, ⟨fun _ => ⟨trivial, h1 c1⟩, fun q => absurd c1 q⟩⟩⟩
  · obtain ⟨n, h⟩ := h2 c1
    exact ⟨n + 8, ⟨rfl, ⟨fun q => absurd q c1, fun _ => h⟩⟩⟩
theorem sg_266_30 {x1 : Int32} {x2 : Int32} {x3 : Int32} {x4 : Int32} {x5 : Int32} {M : px_Mem} {Q : px_Po} (h1 : ((M.1 56 20) < x5) → (x2 < x4) → px_T 0 266 16 [some (.ref 56), some (.int x3), some (.int x4), some (.int (x3 + 1)), some (.int x4), some (.int x5)] [] M Q) (h2 : ((M.1 56 20) < x5) → (¬ (x2 < x4)) → px_T 0 266 16 [some (.ref 56), some (.int x1), some (.int x2), some (.int (x3 + 1)), some (.int x4), some (.int x5)] [] M Q) (h3 : (¬ ((M.1 56 20) < x5)) → px_T 0 262 0 [some (.ref 56), some (.int x3), none] [] M (fun r M1 => px_T 0 266 44 [some (.ref 56), some (.int x1), some (.int x2), some (.int x3), some (.int x4), some (.int x5)] (r.toList ++ []) M1 Q)) : px_T 0 266 30 [some (.ref 56), some (.int x1), some (.int x2), some (.int x3), some (.int x4), some (.int x5)] [] M Q := by
  by_cases c1 : (M.1 56 20) < x5
  · by_cases c2 : x2 < x4
    · obtain ⟨n, h⟩ := h1 c1 c2
      exact ⟨n + 13, ⟨rfl, ⟨fun _ => ⟨fun _ => h, fun q => absurd c2 q⟩, fun q => absurd c1 q⟩⟩⟩
    · obtain ⟨n, h⟩ := h2 c1 c2
      exact ⟨n + 10, ⟨rfl, ⟨fun _ => ⟨fun q => absurd q c2, fun _ => h⟩, fun q => absurd c1 q⟩⟩⟩
  · obtain ⟨n, h⟩ := px_T_cl (k := 266) (pc := 41) (y := 262) (st := [.int x3, .ref 56]) rfl (h3 c1)
    exact ⟨n + 7, ⟨rfl, ⟨fun q => absurd q c1, fun _ => ⟨rfl, h⟩⟩⟩⟩
theorem sg_266_44 {x1 : Int32} {x2 : Int32} {x3 : Int32} {x4 : Int32} {x5 : Int32} {s0 : Int32} {M : px_Mem} {Q : px_Po} (h1 : (s0 = x3) → px_T 0 262 0 [some (.ref 56), some (.int x5), none] [] M (fun r M1 => px_T 0 266 56 [some (.ref 56), some (.int x1), some (.int x2), some (.int x3), some (.int x4), some (.int x5)] (r.toList ++ [.int x4]) M1 Q)) (h2 : (¬ (s0 = x3)) → (x2 < x4) → px_T 0 266 16 [some (.ref 56), some (.int x3), some (.int x4), some (.int (x3 + 1)), some (.int x4), some (.int x5)] [] M Q) (h3 : (¬ (s0 = x3)) → (¬ (x2 < x4)) → px_T 0 266 16 [some (.ref 56), some (.int x1), some (.int x2), some (.int (x3 + 1)), some (.int x4), some (.int x5)] [] M Q) : px_T 0 266 44 [some (.ref 56), some (.int x1), some (.int x2), some (.int x3), some (.int x4), some (.int x5)] [.int s0] M Q := by
  by_cases c1 : s0 = x3
  · obtain ⟨n, h⟩ := px_T_cl (k := 266) (pc := 53) (y := 262) (st := [.int x5, .ref 56, .int x4]) rfl (h1 c1)
    exact ⟨n + 6, ⟨fun q => absurd c1 q, fun _ => ⟨rfl, h⟩⟩⟩
  · by_cases c2 : x2 < x4
    · obtain ⟨n, h⟩ := h2 c1 c2
      exact ⟨n + 11, ⟨fun _ => ⟨fun _ => h, fun q => absurd c2 q⟩, fun q => absurd q c1⟩⟩
    · obtain ⟨n, h⟩ := h3 c1 c2
      exact ⟨n + 8, ⟨fun _ => ⟨fun q => absurd q c2, fun _ => h⟩, fun q => absurd q c1⟩⟩
theorem sg_266_56 {x1 : Int32} {x2 : Int32} {x3 : Int32} {d4 : Option Value} {x5 : Int32} {s0 : Int32} {s1 : Int32} {M : px_Mem} {Q : px_Po} (h1 : (s0 = x3) → px_T 0 266 30 [some (.ref 56), some (.int x1), some (.int x2), some (.int x3), some (.int (s1 + 1)), some (.int (x5 + 1))] [] M Q) (h2 : (¬ (s0 = x3)) → px_T 0 266 30 [some (.ref 56), some (.int x1), some (.int x2), some (.int x3), some (.int (s1 + 0)), some (.int (x5 + 1))] [] M Q) : px_T 0 266 56 [some (.ref 56), some (.int x1), some (.int x2), some (.int x3), d4, some (.int x5)] [.int s0, .int s1] M Q := by
  by_cases c1 : s0 = x3
  · obtain ⟨n, h⟩ := h1 c1
    exact ⟨n + 8, ⟨fun q => absurd c1 q, fun _ => h⟩⟩
  · obtain ⟨n, h⟩ := h2 c1
    exact ⟨n + 7, ⟨fun _ => h, fun q => absurd q c1⟩⟩
theorem sg_267_0 {x1 : Int32} {x2 : Int32} {M : px_Mem} {Q : px_Po} (h1 : px_T 0 228 0 [some (.ref 56), some (.int x1), some (.int x2)] [] M (fun r M1 => px_T 0 267 6 [some (.ref 56), some (.int x1), some (.int x2), none, none] (r.toList ++ []) M1 Q)) : px_T 0 267 0 [some (.ref 56), some (.int x1), some (.int x2), none, none] [] M Q := by
  obtain ⟨n, h⟩ := px_T_cl (k := 267) (pc := 3) (y := 228) (st := [.int x2, .int x1, .ref 56]) rfl (h1)
  exact ⟨n + 4, ⟨rfl, h⟩⟩
theorem sg_267_6 {x1 : Int32} {x2 : Int32} {d3 : Option Value} {d4 : Option Value} {s0 : Int32} {M : px_Mem} {Q : px_Po} (h1 : px_T 0 229 0 [some (.ref 56), some (.int x1), some (.int x2)] [] M (fun r M1 => px_T 0 267 13 [some (.ref 56), some (.int x1), some (.int x2), some (.int s0), d4] (r.toList ++ []) M1 Q)) : px_T 0 267 6 [some (.ref 56), some (.int x1), some (.int x2), d3, d4] [.int s0] M Q := by
  obtain ⟨n, h⟩ := px_T_cl (k := 267) (pc := 10) (y := 229) (st := [.int x2, .int x1, .ref 56]) rfl (h1)
  exact ⟨n + 5, ⟨rfl, h⟩⟩
theorem sg_267_13 {x1 : Int32} {x2 : Int32} {x3 : Int32} {d4 : Option Value} {s0 : Int32} {M : px_Mem} {Q : px_Po} (h1 : (s0 = x1) → Q (some (.int 1)) M) (h2 : (¬ (s0 = x1)) → px_T 0 229 0 [some (.ref 56), some (.int x3), some (.int x2)] [] M (fun r M1 => px_T 0 267 31 [some (.ref 56), some (.int x1), some (.int x2), some (.int x3), some (.int s0)] (r.toList ++ [.int s0]) M1 Q)) : px_T 0 267 13 [some (.ref 56), some (.int x1), some (.int x2), some (.int x3), d4] [.int s0] M Q := by
  by_cases c1 : s0 = x1
  · exact ⟨6, ⟨fun q => absurd c1 q, fun _ => ⟨trivial, h1 c1⟩⟩⟩
  · obtain ⟨n, h⟩ := px_T_cl (k := 267) (pc := 28) (y := 229) (st := [.int x2, .int x3, .ref 56, .int s0]) rfl (h2 c1)
    exact ⟨n + 9, ⟨fun _ => ⟨rfl, h⟩, fun q => absurd q c1⟩⟩
theorem sg_267_31 {d1 : Option Value} {x2 : Int32} {x3 : Int32} {x4 : Int32} {s0 : Int32} {s1 : Int32} {M : px_Mem} {Q : px_Po} (h1 : (s1 = s0) → Q (some (.int 2)) M) (h2 : (¬ (s1 = s0)) → (x3 = 1) → (x3 = 1) → px_T 0 177 0 [some (.int (M.1 56 43)), some (.int x4)] [] M (fun r M1 => px_T 0 267 83 [some (.ref 56), d1, some (.int x2), some (.int x3), some (.int x4)] (r.toList ++ []) M1 Q)) (h3 : (¬ (s1 = s0)) → (x3 = 1) → (¬ (x3 = 1)) → Q (some (.int 0)) M) (h4 : (¬ (s1 = s0)) → (¬ (x3 = 1)) → vp_in x3 16) (h5 : (¬ (s1 = s0)) → (¬ (x3 = 1)) → ((M.1 85 x3.toNatClampNeg) = 1) → px_T 0 228 0 [some (.ref 56), some (.int x3), some (.int x2)] [] M (fun r M1 => px_T 0 267 60 [some (.ref 56), d1, some (.int x2), some (.int x3), some (.int x4)] (r.toList ++ [.ref 56, .int x4]) M1 Q)) (h6 : (¬ (s1 = s0)) → (¬ (x3 = 1)) → (¬ ((M.1 85 x3.toNatClampNeg) = 1)) → (x3 = 1) → px_T 0 177 0 [some (.int (M.1 56 43)), some (.int x4)] [] M (fun r M1 => px_T 0 267 83 [some (.ref 56), d1, some (.int x2), some (.int x3), some (.int x4)] (r.toList ++ []) M1 Q)) (h7 : (¬ (s1 = s0)) → (¬ (x3 = 1)) → (¬ ((M.1 85 x3.toNatClampNeg) = 1)) → (¬ (x3 = 1)) → Q (some (.int 0)) M) : px_T 0 267 31 [some (.ref 56), d1, some (.int x2), some (.int x3), some (.int x4)] [.int s0, .int s1] M Q := by
  by_cases c1 : s1 = s0
  · exact ⟨3, ⟨fun q => absurd c1 q, fun _ => ⟨trivial, h1 c1⟩⟩⟩
  · by_cases c2 : x3 = 1
    · by_cases c3 : x3 = 1
      · obtain ⟨n, h⟩ := px_T_cl (k := 267) (pc := 80) (y := 177) (st := [.int x4, .int (M.1 56 43)]) rfl (h2 c1 c2 c3)
        exact ⟨n + 11, ⟨fun _ => ⟨fun _ => ⟨fun q => absurd c3 q, fun _ => ⟨rfl, h⟩⟩, fun q => absurd c2 q⟩, fun q => absurd q c1⟩⟩
      · exact ⟨9, ⟨fun _ => ⟨fun _ => ⟨fun _ => ⟨trivial, h3 c1 c2 c3⟩, fun q => absurd q c3⟩, fun q => absurd c2 q⟩, fun q => absurd q c1⟩⟩
    · by_cases c4 : (M.1 85 x3.toNatClampNeg) = 1
      · obtain ⟨n, h⟩ := px_T_cl (k := 267) (pc := 57) (y := 228) (st := [.int x2, .int x3, .ref 56, .ref 56, .int x4]) rfl (h5 c1 c2 c4)
        exact ⟨n + 16, ⟨fun _ => ⟨fun q => absurd q c2, fun _ => ⟨rfl, ⟨Or.inl ⟨0, 16, Or.inl rfl, rfl, (h4 c1 c2)⟩, ⟨fun q => absurd c4 q, fun _ => ⟨rfl, h⟩⟩⟩⟩⟩, fun q => absurd q c1⟩⟩
      · by_cases c5 : x3 = 1
        · obtain ⟨n, h⟩ := px_T_cl (k := 267) (pc := 80) (y := 177) (st := [.int x4, .int (M.1 56 43)]) rfl (h6 c1 c2 c4 c5)
          exact ⟨n + 17, ⟨fun _ => ⟨fun q => absurd q c2, fun _ => ⟨rfl, ⟨Or.inl ⟨0, 16, Or.inl rfl, rfl, (h4 c1 c2)⟩, ⟨fun _ => ⟨fun q => absurd c5 q, fun _ => ⟨rfl, h⟩⟩, fun q => absurd q c4⟩⟩⟩⟩, fun q => absurd q c1⟩⟩
        · exact ⟨15, ⟨fun _ => ⟨fun q => absurd q c2, fun _ => ⟨rfl, ⟨Or.inl ⟨0, 16, Or.inl rfl, rfl, (h4 c1 c2)⟩, ⟨fun _ => ⟨fun _ => ⟨trivial, h7 c1 c2 c4 c5⟩, fun q => absurd q c5⟩, fun q => absurd q c4⟩⟩⟩⟩, fun q => absurd q c1⟩⟩
theorem sg_267_83 {d0 : Option Value} {d1 : Option Value} {d2 : Option Value} {d3 : Option Value} {d4 : Option Value} {s0 : Int32} {M : px_Mem} {Q : px_Po} (h1 : (s0 = 1) → Q (some (.int 4)) M) (h2 : (¬ (s0 = 1)) → Q (some (.int 0)) M) : px_T 0 267 83 [d0, d1, d2, d3, d4] [.int s0] M Q := by
  by_cases c1 : s0 = 1
  · exact ⟨5, ⟨fun q => absurd c1 q, fun _ => ⟨trivial, h1 c1⟩⟩⟩
  · exact ⟨4, ⟨fun _ => ⟨trivial, h2 c1⟩, fun q => absurd q c1⟩⟩
theorem sg_267_60 {d1 : Option Value} {x2 : Int32} {x3 : Int32} {x4 : Int32} {s0 : Int32} {s2 : Int32} {M : px_Mem} {Q : px_Po} (h1 : px_T 0 229 0 [some (.ref 56), some (.int s0), some (.int x2)] [] M (fun r M1 => px_T 0 267 64 [some (.ref 56), d1, some (.int x2), some (.int x3), some (.int x4)] (r.toList ++ [.int s2]) M1 Q)) : px_T 0 267 60 [some (.ref 56), d1, some (.int x2), some (.int x3), some (.int x4)] [.int s0, .ref 56, .int s2] M Q := by
  obtain ⟨n, h⟩ := px_T_cl (k := 267) (pc := 61) (y := 229) (st := [.int x2, .int s0, .ref 56, .int s2]) rfl (h1)
  exact ⟨n + 2, ⟨rfl, h⟩⟩
theorem sg_267_64 {d1 : Option Value} {d2 : Option Value} {x3 : Int32} {x4 : Int32} {s0 : Int32} {s1 : Int32} {M : px_Mem} {Q : px_Po} (h1 : (s1 = s0) → Q (some (.int 3)) M) (h2 : (¬ (s1 = s0)) → (x3 = 1) → px_T 0 177 0 [some (.int (M.1 56 43)), some (.int x4)] [] M (fun r M1 => px_T 0 267 83 [some (.ref 56), d1, d2, some (.int x3), some (.int x4)] (r.toList ++ []) M1 Q)) (h3 : (¬ (s1 = s0)) → (¬ (x3 = 1)) → Q (some (.int 0)) M) : px_T 0 267 64 [some (.ref 56), d1, d2, some (.int x3), some (.int x4)] [.int s0, .int s1] M Q := by
  by_cases c1 : s1 = s0
  · exact ⟨3, ⟨fun q => absurd c1 q, fun _ => ⟨trivial, h1 c1⟩⟩⟩
  · by_cases c2 : x3 = 1
    · obtain ⟨n, h⟩ := px_T_cl (k := 267) (pc := 80) (y := 177) (st := [.int x4, .int (M.1 56 43)]) rfl (h2 c1 c2)
      exact ⟨n + 8, ⟨fun _ => ⟨fun q => absurd c2 q, fun _ => ⟨rfl, h⟩⟩, fun q => absurd q c1⟩⟩
    · exact ⟨6, ⟨fun _ => ⟨fun _ => ⟨trivial, h3 c1 c2⟩, fun q => absurd q c2⟩, fun q => absurd q c1⟩⟩
theorem sg_268_0 {x1 : Int32} {x2 : Int32} {M : px_Mem} {Q : px_Po} (h1 : vp_in x1 16) (h2 : vp_in (M.1 56 46) 16) (h3 : Q none (px_wI (px_wI (px_wI (px_wI M 56 43 ((M.1 56 43) ||| (1 <<< (x1 &&& 31)))) 85 x1.toNatClampNeg x2) 86 ((M.1 56 46).toNatClampNeg) x1) 56 46 ((M.1 56 46) + 1))) : px_T 0 268 0 [some (.ref 56), some (.int x1), some (.int x2)] [] M Q := by
  exact ⟨26, ⟨rfl, ⟨rfl, ⟨rfl, ⟨⟨16, rfl, h1⟩, ⟨rfl, ⟨rfl, ⟨⟨16, rfl, h2⟩, ⟨rfl, ⟨rfl, ⟨rfl, h3⟩⟩⟩⟩⟩⟩⟩⟩⟩⟩⟩
theorem sg_269_0 {x1 : Int32} {M : px_Mem} {Q : px_Po} (h1 : px_T 0 269 2 [some (.ref 56), some (.int x1), some (.int 2)] [] M Q) : px_T 0 269 0 [some (.ref 56), some (.int x1), none] [] M Q := by
  obtain ⟨n, h⟩ := h1
  exact ⟨n + 2, h⟩
theorem sg_269_2 {x1 : Int32} {x2 : Int32} {M : px_Mem} {Q : px_Po} (h1 : ((16 : Int32) ≤ x2) → Q (some (.int (-1))) M) (h2 : (¬ ((16 : Int32) ≤ x2)) → px_T 0 227 0 [some (.ref 56), some (.int x2), some (.int x1)] [] M (fun r M1 => px_T 0 269 14 [some (.ref 56), some (.int x1), some (.int x2)] (r.toList ++ []) M1 Q)) : px_T 0 269 2 [some (.ref 56), some (.int x1), some (.int x2)] [] M Q := by
  by_cases c1 : (16 : Int32) ≤ x2
  · exact ⟨5, ⟨fun _ => ⟨trivial, h1 c1⟩, fun q => absurd c1 q⟩⟩
  · obtain ⟨n, h⟩ := px_T_cl (k := 269) (pc := 11) (y := 227) (st := [.int x1, .int x2, .ref 56]) rfl (h2 c1)
    exact ⟨n + 7, ⟨fun q => absurd q c1, fun _ => ⟨rfl, h⟩⟩⟩
theorem sg_269_14 {x1 : Int32} {x2 : Int32} {s0 : Int32} {M : px_Mem} {Q : px_Po} (h1 : (s0 = 0) → px_T 0 269 2 [some (.ref 56), some (.int x1), some (.int (x2 + 1))] [] M Q) (h2 : (¬ (s0 = 0)) → px_T 0 177 0 [some (.int (M.1 56 43)), some (.int x2)] [] M (fun r M1 => px_T 0 269 25 [some (.ref 56), some (.int x1), some (.int x2)] (r.toList ++ []) M1 Q)) : px_T 0 269 14 [some (.ref 56), some (.int x1), some (.int x2)] [.int s0] M Q := by
  by_cases c1 : s0 = 0
  · obtain ⟨n, h⟩ := h1 c1
    exact ⟨n + 3, ⟨fun _ => h, fun q => absurd c1 q⟩⟩
  · obtain ⟨n, h⟩ := px_T_cl (k := 269) (pc := 22) (y := 177) (st := [.int x2, .int (M.1 56 43)]) rfl (h2 c1)
    exact ⟨n + 5, ⟨fun q => absurd q c1, fun _ => ⟨rfl, h⟩⟩⟩
theorem sg_269_25 {x1 : Int32} {x2 : Int32} {s0 : Int32} {M : px_Mem} {Q : px_Po} (h1 : (s0 = 0) → px_T 0 228 0 [some (.ref 56), some (.int x2), some (.int x1)] [] M (fun r M1 => px_T 0 269 38 [some (.ref 56), some (.int x1), some (.int x2)] (r.toList ++ [.int (M.1 56 43)]) M1 Q)) (h2 : (¬ (s0 = 0)) → px_T 0 269 2 [some (.ref 56), some (.int x1), some (.int (x2 + 1))] [] M Q) : px_T 0 269 25 [some (.ref 56), some (.int x1), some (.int x2)] [.int s0] M Q := by
  by_cases c1 : s0 = 0
  · obtain ⟨n, h⟩ := px_T_cl (k := 269) (pc := 35) (y := 228) (st := [.int x1, .int x2, .ref 56, .int (M.1 56 43)]) rfl (h1 c1)
    exact ⟨n + 7, ⟨fun q => absurd c1 q, fun _ => ⟨rfl, ⟨rfl, h⟩⟩⟩⟩
  · obtain ⟨n, h⟩ := h2 c1
    exact ⟨n + 3, ⟨fun _ => h, fun q => absurd q c1⟩⟩
theorem sg_269_38 {x1 : Int32} {x2 : Int32} {s0 : Int32} {s1 : Int32} {M : px_Mem} {Q : px_Po} (h1 : px_T 0 177 0 [some (.int s1), some (.int s0)] [] M (fun r M1 => px_T 0 269 41 [some (.ref 56), some (.int x1), some (.int x2)] (r.toList ++ []) M1 Q)) : px_T 0 269 38 [some (.ref 56), some (.int x1), some (.int x2)] [.int s0, .int s1] M Q := by
  obtain ⟨n, h⟩ := px_T_cl (k := 269) (pc := 38) (y := 177) (st := [.int s0, .int s1]) rfl (h1)
  exact ⟨n + 1, h⟩
theorem sg_269_41 {x1 : Int32} {x2 : Int32} {s0 : Int32} {M : px_Mem} {Q : px_Po} (h1 : (s0 = 1) → px_T 0 267 0 [some (.ref 56), some (.int x2), some (.int x1), none, none] [] M (fun r M1 => px_T 0 269 51 [some (.ref 56), some (.int x1), some (.int x2)] (r.toList ++ []) M1 Q)) (h2 : (¬ (s0 = 1)) → px_T 0 269 2 [some (.ref 56), some (.int x1), some (.int (x2 + 1))] [] M Q) : px_T 0 269 41 [some (.ref 56), some (.int x1), some (.int x2)] [.int s0] M Q := by
  by_cases c1 : s0 = 1
  · obtain ⟨n, h⟩ := px_T_cl (k := 269) (pc := 48) (y := 267) (st := [.int x1, .int x2, .ref 56]) rfl (h1 c1)
    exact ⟨n + 6, ⟨fun q => absurd c1 q, fun _ => ⟨rfl, h⟩⟩⟩
  · obtain ⟨n, h⟩ := h2 c1
    exact ⟨n + 4, ⟨fun _ => h, fun q => absurd q c1⟩⟩
theorem sg_269_51 {x1 : Int32} {x2 : Int32} {s0 : Int32} {M : px_Mem} {Q : px_Po} (h1 : (s0 ≤ 0) → px_T 0 269 2 [some (.ref 56), some (.int x1), some (.int (x2 + 1))] [] M Q) (h2 : (¬ (s0 ≤ 0)) → Q (some (.int x2)) M) : px_T 0 269 51 [some (.ref 56), some (.int x1), some (.int x2)] [.int s0] M Q := by
  by_cases c1 : s0 ≤ 0
  · obtain ⟨n, h⟩ := h1 c1
    exact ⟨n + 3, ⟨fun _ => h, fun q => absurd c1 q⟩⟩
  · exact ⟨3, ⟨fun q => absurd q c1, fun _ => ⟨trivial, h2 c1⟩⟩⟩
theorem sg_270_0 {x1 : Int32} {M : px_Mem} {Q : px_Po} (h1 : px_T 0 270 12 [some (.ref 56), some (.int x1), some (.int 0)] [] (px_wI (px_wI M 56 43 0) 56 46 0) Q) : px_T 0 270 0 [some (.ref 56), some (.int x1), none] [] M Q := by
  obtain ⟨n, h⟩ := h1
  exact ⟨n + 8, ⟨rfl, ⟨rfl, h⟩⟩⟩
theorem sg_270_12 {x1 : Int32} {x2 : Int32} {M : px_Mem} {Q : px_Po} (h1 : ((16 : Int32) ≤ x2) → px_T 0 268 0 [some (.ref 56), some (.int 1), some (.int 1)] [] M (fun r M1 => px_T 0 270 37 [some (.ref 56), some (.int x1), some (.int x2)] (r.toList ++ []) M1 Q)) (h2 : (¬ ((16 : Int32) ≤ x2)) → vp_in x2 16) (h3 : (¬ ((16 : Int32) ≤ x2)) → px_T 0 270 12 [some (.ref 56), some (.int x1), some (.int (x2 + 1))] [] (px_wI M 85 x2.toNatClampNeg 0) Q) : px_T 0 270 12 [some (.ref 56), some (.int x1), some (.int x2)] [] M Q := by
  by_cases c1 : (16 : Int32) ≤ x2
  · obtain ⟨n, h⟩ := px_T_cl (k := 270) (pc := 34) (y := 268) (st := [.int 1, .int 1, .ref 56]) rfl (h1 c1)
    exact ⟨n + 7, ⟨fun _ => ⟨rfl, h⟩, fun q => absurd c1 q⟩⟩
  · obtain ⟨n, h⟩ := h3 c1
    exact ⟨n + 10, ⟨fun q => absurd q c1, fun _ => ⟨rfl, ⟨⟨16, rfl, (h2 c1)⟩, h⟩⟩⟩⟩
