theorem sg_127_21 {d1 : Option Value} {d2 : Option Value} {d3 : Option Value} {d4 : Option Value} {d5 : Option Value} {d6 : Option Value} {s0 : Int32} {M : px_Mem} {Q : px_Po} (h1 : px_T 0 13 0 [some (.ref 28), some (.int s0), none, none] [] M (fun r M1 => px_T 0 127 24 [some (.ref 0), d1, d2, d3, d4, d5, d6] (r.toList ++ []) M1 Q)) : px_T 0 127 21 [some (.ref 0), d1, d2, d3, d4, d5, d6] [.int s0, .ref 28] M Q := by
  obtain ⟨n, h⟩ := px_T_cl (k := 127) (pc := 21) (y := 13) (st := [.int s0, .ref 28]) rfl (h1)
  exact ⟨n + 1, ⟨rfl, h⟩⟩
theorem sg_127_24 {d1 : Option Value} {d2 : Option Value} {d3 : Option Value} {d4 : Option Value} {d5 : Option Value} {d6 : Option Value} {s0 : Int32} {M : px_Mem} {Q : px_Po} (h1 : px_T 0 127 32 [some (.ref 0), some (.int s0), some (.int 0), some (.int (-1)), some (.int 0), d5, d6] [] M Q) : px_T 0 127 24 [some (.ref 0), d1, d2, d3, d4, d5, d6] [.int s0] M Q := by
  obtain ⟨n, h⟩ := h1
  exact ⟨n + 7, h⟩
theorem sg_127_32 {x1 : Int32} {x2 : Int32} {x3 : Int32} {x4 : Int32} {d5 : Option Value} {d6 : Option Value} {M : px_Mem} {Q : px_Po} (h1 : ((M.1 4 4) ≤ x4) → Q (some (.int x3)) M) (h2 : (¬ ((M.1 4 4) ≤ x4)) → px_T 0 12 0 [some (.ref 28), some (.int x4)] [] M (fun r M1 => px_T 0 127 53 [some (.ref 0), some (.int x1), some (.int x2), some (.int x3), some (.int x4), d5, d6] (r.toList ++ []) M1 Q)) : px_T 0 127 32 [some (.ref 0), some (.int x1), some (.int x2), some (.int x3), some (.int x4), d5, d6] [] M Q := by
  by_cases c1 : (M.1 4 4) ≤ x4
  · exact ⟨7, ⟨rfl, ⟨rfl, ⟨fun _ => ⟨trivial, h1 c1⟩, fun q => absurd c1 q⟩⟩⟩⟩
  · obtain ⟨n, h⟩ := px_T_cl (k := 127) (pc := 50) (y := 12) (st := [.int x4, .ref 28]) rfl (h2 c1)
    exact ⟨n + 9, ⟨rfl, ⟨rfl, ⟨fun q => absurd q c1, fun _ => ⟨rfl, ⟨rfl, h⟩⟩⟩⟩⟩⟩
theorem sg_127_53 {x1 : Int32} {x2 : Int32} {x3 : Int32} {x4 : Int32} {d5 : Option Value} {d6 : Option Value} {s0 : Int32} {M : px_Mem} {Q : px_Po} (h1 : (s0 = 0) → px_T 0 165 0 [some (.ref 0), some (.int x4), some (.int (M.1 4 2)), none, none] [] M (fun r M1 => px_T 0 127 76 [some (.ref 0), some (.int x1), some (.int x2), some (.int x3), some (.int x4), some (.int 0), d6] (r.toList ++ []) M1 Q)) (h2 : (¬ (s0 = 0)) → px_T 0 165 0 [some (.ref 0), some (.int x4), some (.int (M.1 4 2)), none, none] [] M (fun r M1 => px_T 0 127 76 [some (.ref 0), some (.int x1), some (.int x2), some (.int x3), some (.int x4), some (.int 1), d6] (r.toList ++ []) M1 Q)) : px_T 0 127 53 [some (.ref 0), some (.int x1), some (.int x2), some (.int x3), some (.int x4), d5, d6] [.int s0] M Q := by
  by_cases c1 : s0 = 0
  · obtain ⟨n, h⟩ := px_T_cl (k := 127) (pc := 73) (y := 165) (st := [.int (M.1 4 2), .int x4, .ref 0]) rfl (h1 c1)
    exact ⟨n + 9, ⟨fun _ => ⟨rfl, ⟨rfl, ⟨rfl, h⟩⟩⟩, fun q => absurd c1 q⟩⟩
  · obtain ⟨n, h⟩ := px_T_cl (k := 127) (pc := 73) (y := 165) (st := [.int (M.1 4 2), .int x4, .ref 0]) rfl (h2 c1)
    exact ⟨n + 10, ⟨fun q => absurd q c1, fun _ => ⟨rfl, ⟨rfl, ⟨rfl, h⟩⟩⟩⟩⟩
theorem sg_127_76 {x1 : Int32} {x2 : Int32} {x3 : Int32} {x4 : Int32} {x5 : Int32} {d6 : Option Value} {s0 : Int32} {M : px_Mem} {Q : px_Po} (h1 : ((s0 - (x1 - x5)) ≤ x2) → px_T 0 127 32 [some (.ref 0), some (.int x1), some (.int x2), some (.int x3), some (.int (x4 + 1)), some (.int x5), some (.int (s0 - (x1 - x5)))] [] M Q) (h2 : (¬ ((s0 - (x1 - x5)) ≤ x2)) → px_T 0 127 32 [some (.ref 0), some (.int x1), some (.int (s0 - (x1 - x5))), some (.int x4), some (.int (x4 + 1)), some (.int x5), some (.int (s0 - (x1 - x5)))] [] M Q) : px_T 0 127 76 [some (.ref 0), some (.int x1), some (.int x2), some (.int x3), some (.int x4), some (.int x5), d6] [.int s0] M Q := by
  by_cases c1 : (s0 - (x1 - x5)) ≤ x2
  · obtain ⟨n, h⟩ := h1 c1
    exact ⟨n + 10, ⟨fun _ => h, fun q => absurd c1 q⟩⟩
  · obtain ⟨n, h⟩ := h2 c1
    exact ⟨n + 14, ⟨fun q => absurd q c1, fun _ => h⟩⟩
theorem sg_128_0 {x1 : Int32} {M : px_Mem} {Q : px_Po} (h1 : px_T 0 167 0 [some (.ref 0), some (.int x1)] [] M (fun r M1 => px_T 0 128 5 [some (.ref 0), some (.int x1), none, none, none] (r.toList ++ []) M1 Q)) : px_T 0 128 0 [some (.ref 0), some (.int x1), none, none, none] [] M Q := by
  obtain ⟨n, h⟩ := px_T_cl (k := 128) (pc := 2) (y := 167) (st := [.int x1, .ref 0]) rfl (h1)
  exact ⟨n + 3, ⟨rfl, h⟩⟩
theorem sg_128_5 {d1 : Option Value} {d2 : Option Value} {d3 : Option Value} {d4 : Option Value} {s0 : Int32} {M : px_Mem} {Q : px_Po} (h1 : (s0 = 0) → px_T 0 128 17 [some (.ref 0), d1, some (.int s0), some (.int 0), some (.int 0)] [] M Q) (h2 : (¬ (s0 = 0)) → Q (some (.int s0)) M) : px_T 0 128 5 [some (.ref 0), d1, d2, d3, d4] [.int s0] M Q := by
  by_cases c1 : s0 = 0
  · obtain ⟨n, h⟩ := h1 c1
    exact ⟨n + 7, ⟨fun _ => h, fun q => absurd c1 q⟩⟩
  · exact ⟨5, ⟨fun q => absurd q c1, fun _ => ⟨trivial, h2 c1⟩⟩⟩
theorem sg_128_17 {d1 : Option Value} {d2 : Option Value} {x3 : Int32} {x4 : Int32} {M : px_Mem} {Q : px_Po} (h1 : ((M.1 4 4) ≤ x4) → Q (some (.int x3)) M) (h2 : (¬ ((M.1 4 4) ≤ x4)) → px_T 0 168 0 [some (.ref 0), some (.int x4), some (.int (M.1 4 2)), none, none] [] M (fun r M1 => px_T 0 128 42 [some (.ref 0), d1, d2, some (.int x3), some (.int x4)] (r.toList ++ []) M1 Q)) : px_T 0 128 17 [some (.ref 0), d1, d2, some (.int x3), some (.int x4)] [] M Q := by
  by_cases c1 : (M.1 4 4) ≤ x4
  · exact ⟨7, ⟨rfl, ⟨rfl, ⟨fun _ => ⟨trivial, h1 c1⟩, fun q => absurd c1 q⟩⟩⟩⟩
  · obtain ⟨n, h⟩ := px_T_cl (k := 128) (pc := 39) (y := 168) (st := [.int (M.1 4 2), .int x4, .ref 0]) rfl (h2 c1)
    exact ⟨n + 11, ⟨rfl, ⟨rfl, ⟨fun q => absurd q c1, fun _ => ⟨rfl, ⟨rfl, ⟨rfl, h⟩⟩⟩⟩⟩⟩⟩
theorem sg_128_42 {d1 : Option Value} {d2 : Option Value} {x3 : Int32} {x4 : Int32} {s0 : Int32} {M : px_Mem} {Q : px_Po} (h1 : (s0 = 0) → px_T 0 128 17 [some (.ref 0), d1, d2, some (.int x3), some (.int (x4 + 1))] [] M Q) (h2 : (¬ (s0 = 0)) → px_T 0 128 17 [some (.ref 0), d1, d2, some (.int (x3 + 1)), some (.int (x4 + 1))] [] M Q) : px_T 0 128 42 [some (.ref 0), d1, d2, some (.int x3), some (.int x4)] [.int s0] M Q := by
  by_cases c1 : s0 = 0
  · obtain ⟨n, h⟩ := h1 c1
    exact ⟨n + 3, ⟨fun _ => h, fun q => absurd c1 q⟩⟩
  · obtain ⟨n, h⟩ := h2 c1
    exact ⟨n + 4, ⟨fun q => absurd q c1, fun _ => h⟩⟩
theorem sg_129_0 {x1 : Int32} {M : px_Mem} {Q : px_Po} (h1 : px_T 0 167 0 [some (.ref 0), some (.int x1)] [] M (fun r M1 => px_T 0 129 5 [some (.ref 0), some (.int x1), none, none] (r.toList ++ []) M1 Q)) : px_T 0 129 0 [some (.ref 0), some (.int x1), none, none] [] M Q := by
  obtain ⟨n, h⟩ := px_T_cl (k := 129) (pc := 2) (y := 167) (st := [.int x1, .ref 0]) rfl (h1)
  exact ⟨n + 3, ⟨rfl, h⟩⟩
theorem sg_129_5 {d1 : Option Value} {d2 : Option Value} {d3 : Option Value} {s0 : Int32} {M : px_Mem} {Q : px_Po} (h1 : (s0 = 0) → px_T 0 129 14 [some (.ref 0), d1, some (.int s0), some (.int 0)] [] M Q) (h2 : (¬ (s0 = 0)) → Q (some (.int s0)) M) : px_T 0 129 5 [some (.ref 0), d1, d2, d3] [.int s0] M Q := by
  by_cases c1 : s0 = 0
  · obtain ⟨n, h⟩ := h1 c1
    exact ⟨n + 5, ⟨fun _ => h, fun q => absurd c1 q⟩⟩
  · exact ⟨5, ⟨fun q => absurd q c1, fun _ => ⟨trivial, h2 c1⟩⟩⟩
theorem sg_129_14 {d1 : Option Value} {d2 : Option Value} {x3 : Int32} {M : px_Mem} {Q : px_Po} (h1 : ((M.1 4 4) ≤ x3) → Q (some (.int (-1))) M) (h2 : (¬ ((M.1 4 4) ≤ x3)) → px_T 0 168 0 [some (.ref 0), some (.int x3), some (.int (M.1 4 2)), none, none] [] M (fun r M1 => px_T 0 129 37 [some (.ref 0), d1, d2, some (.int x3)] (r.toList ++ []) M1 Q)) : px_T 0 129 14 [some (.ref 0), d1, d2, some (.int x3)] [] M Q := by
  by_cases c1 : (M.1 4 4) ≤ x3
  · exact ⟨7, ⟨rfl, ⟨rfl, ⟨fun _ => ⟨trivial, h1 c1⟩, fun q => absurd c1 q⟩⟩⟩⟩
  · obtain ⟨n, h⟩ := px_T_cl (k := 129) (pc := 34) (y := 168) (st := [.int (M.1 4 2), .int x3, .ref 0]) rfl (h2 c1)
    exact ⟨n + 11, ⟨rfl, ⟨rfl, ⟨fun q => absurd q c1, fun _ => ⟨rfl, ⟨rfl, ⟨rfl, h⟩⟩⟩⟩⟩⟩⟩
theorem sg_129_37 {d1 : Option Value} {d2 : Option Value} {x3 : Int32} {s0 : Int32} {M : px_Mem} {Q : px_Po} (h1 : (s0 = 0) → px_T 0 129 14 [some (.ref 0), d1, d2, some (.int (x3 + 1))] [] M Q) (h2 : (¬ (s0 = 0)) → Q (some (.int x3)) M) : px_T 0 129 37 [some (.ref 0), d1, d2, some (.int x3)] [.int s0] M Q := by
  by_cases c1 : s0 = 0
  · obtain ⟨n, h⟩ := h1 c1
    exact ⟨n + 3, ⟨fun _ => h, fun q => absurd c1 q⟩⟩
  · exact ⟨3, ⟨fun q => absurd q c1, fun _ => ⟨trivial, h2 c1⟩⟩⟩
theorem sg_130_0 {x1 : Int32} {M : px_Mem} {Q : px_Po} (h1 : px_T 0 167 0 [some (.ref 0), some (.int x1)] [] M (fun r M1 => px_T 0 130 5 [some (.ref 0), some (.int x1), none] (r.toList ++ []) M1 Q)) : px_T 0 130 0 [some (.ref 0), some (.int x1), none] [] M Q := by
  obtain ⟨n, h⟩ := px_T_cl (k := 130) (pc := 2) (y := 167) (st := [.int x1, .ref 0]) rfl (h1)
  exact ⟨n + 3, ⟨rfl, h⟩⟩
theorem sg_130_5 {d1 : Option Value} {d2 : Option Value} {s0 : Int32} {M : px_Mem} {Q : px_Po} (h1 : (s0 = 0) → px_T 0 168 0 [some (.ref 0), some (.int (-1)), some (.int (M.1 4 2)), none, none] [] M (fun r M1 => px_T 0 130 24 [some (.ref 0), d1, some (.int s0)] (r.toList ++ []) M1 Q)) (h2 : (¬ (s0 = 0)) → Q (some (.int s0)) M) : px_T 0 130 5 [some (.ref 0), d1, d2] [.int s0] M Q := by
  by_cases c1 : s0 = 0
  · obtain ⟨n, h⟩ := px_T_cl (k := 130) (pc := 21) (y := 168) (st := [.int (M.1 4 2), .int (-1), .ref 0]) rfl (h1 c1)
    exact ⟨n + 9, ⟨fun _ => ⟨rfl, ⟨rfl, ⟨rfl, h⟩⟩⟩, fun q => absurd c1 q⟩⟩
  · exact ⟨5, ⟨fun q => absurd q c1, fun _ => ⟨trivial, h2 c1⟩⟩⟩
theorem sg_130_24 {d0 : Option Value} {d1 : Option Value} {d2 : Option Value} {s0 : Int32} {M : px_Mem} {Q : px_Po} (h1 : (s0 = 0) → Q (some (.int 0)) M) (h2 : (¬ (s0 = 0)) → Q (some (.int 1)) M) : px_T 0 130 24 [d0, d1, d2] [.int s0] M Q := by
  by_cases c1 : s0 = 0
  · exact ⟨3, ⟨fun _ => ⟨trivial, h1 c1⟩, fun q => absurd c1 q⟩⟩
  · exact ⟨4, ⟨fun q => absurd q c1, fun _ => ⟨trivial, h2 c1⟩⟩⟩
theorem sg_131_0 {x1 : Int32} {M : px_Mem} {Q : px_Po} (h1 : px_T 0 167 0 [some (.ref 0), some (.int x1)] [] M (fun r M1 => px_T 0 131 5 [some (.ref 0), some (.int x1), none, none, none] (r.toList ++ []) M1 Q)) : px_T 0 131 0 [some (.ref 0), some (.int x1), none, none, none] [] M Q := by
  obtain ⟨n, h⟩ := px_T_cl (k := 131) (pc := 2) (y := 167) (st := [.int x1, .ref 0]) rfl (h1)
  exact ⟨n + 3, ⟨rfl, h⟩⟩
theorem sg_131_5 {d1 : Option Value} {d2 : Option Value} {d3 : Option Value} {d4 : Option Value} {s0 : Int32} {M : px_Mem} {Q : px_Po} (h1 : (s0 = 0) → px_T 0 131 17 [some (.ref 0), d1, some (.int s0), some (.int 0), some (.int 0)] [] M Q) (h2 : (¬ (s0 = 0)) → Q (some (.int s0)) M) : px_T 0 131 5 [some (.ref 0), d1, d2, d3, d4] [.int s0] M Q := by
  by_cases c1 : s0 = 0
  · obtain ⟨n, h⟩ := h1 c1
    exact ⟨n + 7, ⟨fun _ => h, fun q => absurd c1 q⟩⟩
  · exact ⟨5, ⟨fun q => absurd q c1, fun _ => ⟨trivial, h2 c1⟩⟩⟩
theorem sg_131_17 {d1 : Option Value} {d2 : Option Value} {x3 : Int32} {x4 : Int32} {M : px_Mem} {Q : px_Po} (h1 : ((4 : Int32) ≤ x4) → Q (some (.int x3)) M) (h2 : (¬ ((4 : Int32) ≤ x4)) → px_T 0 168 0 [some (.ref 0), some (.int (-1)), some (.int x4), none, none] [] M (fun r M1 => px_T 0 131 30 [some (.ref 0), d1, d2, some (.int x3), some (.int x4)] (r.toList ++ []) M1 Q)) : px_T 0 131 17 [some (.ref 0), d1, d2, some (.int x3), some (.int x4)] [] M Q := by
  by_cases c1 : (4 : Int32) ≤ x4
  · exact ⟨5, ⟨fun _ => ⟨trivial, h1 c1⟩, fun q => absurd c1 q⟩⟩
  · obtain ⟨n, h⟩ := px_T_cl (k := 131) (pc := 27) (y := 168) (st := [.int x4, .int (-1), .ref 0]) rfl (h2 c1)
    exact ⟨n + 7, ⟨fun q => absurd q c1, fun _ => ⟨rfl, h⟩⟩⟩
theorem sg_131_30 {d1 : Option Value} {d2 : Option Value} {x3 : Int32} {x4 : Int32} {s0 : Int32} {M : px_Mem} {Q : px_Po} (h1 : (s0 = 0) → px_T 0 131 17 [some (.ref 0), d1, d2, some (.int x3), some (.int (x4 + 1))] [] M Q) (h2 : (¬ (s0 = 0)) → px_T 0 131 17 [some (.ref 0), d1, d2, some (.int (x3 ||| (1 <<< (x4 &&& 31)))), some (.int (x4 + 1))] [] M Q) : px_T 0 131 30 [some (.ref 0), d1, d2, some (.int x3), some (.int x4)] [.int s0] M Q := by
  by_cases c1 : s0 = 0
  · obtain ⟨n, h⟩ := h1 c1
    exact ⟨n + 3, ⟨fun _ => h, fun q => absurd c1 q⟩⟩
  · obtain ⟨n, h⟩ := h2 c1
    exact ⟨n + 9, ⟨fun q => absurd q c1, fun _ => h⟩⟩
theorem sg_132_0 {x1 : Int32} {M : px_Mem} {Q : px_Po} (h1 : (x1 < 0) → Q (some (.int (-2))) M) (h2 : (¬ (x1 < 0)) → ((4 : Int32) ≤ x1) → Q (some (.int (-2))) M) (h3 : (¬ (x1 < 0)) → (¬ ((4 : Int32) ≤ x1)) → px_T 0 151 0 [some (.ref 0)] [] M (fun r M1 => px_T 0 132 13 [some (.ref 0), some (.int x1)] (r.toList ++ []) M1 Q)) : px_T 0 132 0 [some (.ref 0), some (.int x1)] [] M Q := by
  by_cases c1 : x1 < 0
  · exact ⟨4, ⟨fun _ => ⟨trivial, h1 c1⟩, fun q => absurd c1 q⟩⟩
  · by_cases c2 : (4 : Int32) ≤ x1
    · exact ⟨7, ⟨fun q => absurd q c1, fun _ => ⟨fun _ => ⟨trivial, h2 c1 c2⟩, fun q => absurd c2 q⟩⟩⟩
    · obtain ⟨n, h⟩ := px_T_cl (k := 132) (pc := 10) (y := 151) (st := [.ref 0]) rfl (h3 c1 c2)
      exact ⟨n + 7, ⟨fun q => absurd q c1, fun _ => ⟨fun q => absurd q c2, fun _ => ⟨rfl, h⟩⟩⟩⟩
theorem sg_132_13 {x1 : Int32} {s0 : Int32} {M : px_Mem} {Q : px_Po} (h1 : (s0 = 0) → px_T 0 166 0 [some (.ref 0), some (.int x1)] [] M (fun r M1 => px_T 0 132 24 [some (.ref 0), some (.int x1)] (r.toList ++ []) M1 Q)) (h2 : (¬ (s0 = 0)) → Q (some (.int (-2))) M) : px_T 0 132 13 [some (.ref 0), some (.int x1)] [.int s0] M Q := by
  by_cases c1 : s0 = 0
  · obtain ⟨n, h⟩ := px_T_cl (k := 132) (pc := 21) (y := 166) (st := [.int x1, .ref 0]) rfl (h1 c1)
    exact ⟨n + 4, ⟨fun _ => ⟨rfl, h⟩, fun q => absurd c1 q⟩⟩
  · exact ⟨3, ⟨fun q => absurd q c1, fun _ => ⟨trivial, h2 c1⟩⟩⟩
theorem sg_132_24 {d0 : Option Value} {d1 : Option Value} {s0 : Int32} {M : px_Mem} {Q : px_Po} (h1 : Q (some (.int s0)) M) : px_T 0 132 24 [d0, d1] [.int s0] M Q := by
  exact ⟨1, ⟨trivial, h1⟩⟩
theorem sg_133_0 {M : px_Mem} {Q : px_Po} (h1 : px_T 0 151 0 [some (.ref 0)] [] M (fun r M1 => px_T 0 133 4 [some (.ref 0), none, none, none, none] (r.toList ++ []) M1 Q)) : px_T 0 133 0 [some (.ref 0), none, none, none, none] [] M Q := by
  obtain ⟨n, h⟩ := px_T_cl (k := 133) (pc := 1) (y := 151) (st := [.ref 0]) rfl (h1)
  exact ⟨n + 2, ⟨rfl, h⟩⟩
theorem sg_133_4 {d1 : Option Value} {d2 : Option Value} {d3 : Option Value} {d4 : Option Value} {s0 : Int32} {M : px_Mem} {Q : px_Po} (h1 : (s0 = 0) → px_T 0 166 0 [some (.ref 0), some (.int 0)] [] M (fun r M1 => px_T 0 133 17 [some (.ref 0), some (.int 0), d2, d3, d4] (r.toList ++ []) M1 Q)) (h2 : (¬ (s0 = 0)) → Q (some (.int (-2))) M) : px_T 0 133 4 [some (.ref 0), d1, d2, d3, d4] [.int s0] M Q := by
  by_cases c1 : s0 = 0
  · obtain ⟨n, h⟩ := px_T_cl (k := 133) (pc := 14) (y := 166) (st := [.int 0, .ref 0]) rfl (h1 c1)
    exact ⟨n + 6, ⟨fun _ => ⟨rfl, h⟩, fun q => absurd c1 q⟩⟩
  · exact ⟨3, ⟨fun q => absurd q c1, fun _ => ⟨trivial, h2 c1⟩⟩⟩
theorem sg_133_17 {x1 : Int32} {d2 : Option Value} {d3 : Option Value} {d4 : Option Value} {s0 : Int32} {M : px_Mem} {Q : px_Po} (h1 : px_T 0 133 20 [some (.ref 0), some (.int x1), some (.int s0), some (.int 1), d4] [] M Q) : px_T 0 133 17 [some (.ref 0), some (.int x1), d2, d3, d4] [.int s0] M Q := by
  obtain ⟨n, h⟩ := h1
  exact ⟨n + 3, h⟩
theorem sg_133_20 {x1 : Int32} {x2 : Int32} {x3 : Int32} {d4 : Option Value} {M : px_Mem} {Q : px_Po} (h1 : ((4 : Int32) ≤ x3) → Q (some (.int x1)) M) (h2 : (¬ ((4 : Int32) ≤ x3)) → px_T 0 166 0 [some (.ref 0), some (.int x3)] [] M (fun r M1 => px_T 0 133 30 [some (.ref 0), some (.int x1), some (.int x2), some (.int x3), d4] (r.toList ++ []) M1 Q)) : px_T 0 133 20 [some (.ref 0), some (.int x1), some (.int x2), some (.int x3), d4] [] M Q := by
  by_cases c1 : (4 : Int32) ≤ x3
  · exact ⟨5, ⟨fun _ => ⟨trivial, h1 c1⟩, fun q => absurd c1 q⟩⟩
  · obtain ⟨n, h⟩ := px_T_cl (k := 133) (pc := 27) (y := 166) (st := [.int x3, .ref 0]) rfl (h2 c1)
    exact ⟨n + 6, ⟨fun q => absurd q c1, fun _ => ⟨rfl, h⟩⟩⟩
theorem sg_133_30 {x1 : Int32} {x2 : Int32} {x3 : Int32} {d4 : Option Value} {s0 : Int32} {M : px_Mem} {Q : px_Po} (h1 : (x2 ≤ s0) → px_T 0 133 20 [some (.ref 0), some (.int x1), some (.int x2), some (.int (x3 + 1)), some (.int s0)] [] M Q) (h2 : (¬ (x2 ≤ s0)) → px_T 0 133 20 [some (.ref 0), some (.int x3), some (.int s0), some (.int (x3 + 1)), some (.int s0)] [] M Q) : px_T 0 133 30 [some (.ref 0), some (.int x1), some (.int x2), some (.int x3), d4] [.int s0] M Q := by
  by_cases c1 : x2 ≤ s0
  · obtain ⟨n, h⟩ := h1 c1
    exact ⟨n + 6, ⟨fun _ => h, fun q => absurd c1 q⟩⟩
  · obtain ⟨n, h⟩ := h2 c1
    exact ⟨n + 10, ⟨fun q => absurd q c1, fun _ => h⟩⟩
theorem sg_134_0 {x1 : Int32} {M : px_Mem} {Q : px_Po} (h1 : (x1 < 0) → Q (some (.int (-2))) M) (h2 : (¬ (x1 < 0)) → ((32767 : Int32) < x1) → Q (some (.int (-2))) M) (h3 : (¬ (x1 < 0)) → (¬ ((32767 : Int32) < x1)) → px_T 0 151 0 [some (.ref 0)] [] M (fun r M1 => px_T 0 134 15 [some (.ref 0), some (.int x1)] (r.toList ++ []) M1 Q)) : px_T 0 134 0 [some (.ref 0), some (.int x1)] [] M Q := by
  by_cases c1 : x1 < 0
  · exact ⟨4, ⟨fun _ => ⟨trivial, h1 c1⟩, fun q => absurd c1 q⟩⟩
  · by_cases c2 : (32767 : Int32) < x1
    · exact ⟨7, ⟨fun q => absurd q c1, fun _ => ⟨fun _ => ⟨trivial, h2 c1 c2⟩, fun q => absurd c2 q⟩⟩⟩
    · obtain ⟨n, h⟩ := px_T_cl (k := 134) (pc := 12) (y := 151) (st := [.ref 0]) rfl (h3 c1 c2)
      exact ⟨n + 7, ⟨fun q => absurd q c1, fun _ => ⟨fun q => absurd q c2, fun _ => ⟨rfl, h⟩⟩⟩⟩
theorem sg_134_15 {x1 : Int32} {s0 : Int32} {M : px_Mem} {Q : px_Po} (h1 : (s0 = 0) → px_T 0 169 0 [some (.ref 0), some (.int x1), none, none, none] [] M (fun r M1 => px_T 0 134 26 [some (.ref 0), some (.int x1)] (r.toList ++ []) M1 Q)) (h2 : (¬ (s0 = 0)) → Q (some (.int (-2))) M) : px_T 0 134 15 [some (.ref 0), some (.int x1)] [.int s0] M Q := by
  by_cases c1 : s0 = 0
  · obtain ⟨n, h⟩ := px_T_cl (k := 134) (pc := 23) (y := 169) (st := [.int x1, .ref 0]) rfl (h1 c1)
    exact ⟨n + 4, ⟨fun _ => ⟨rfl, h⟩, fun q => absurd c1 q⟩⟩
  · exact ⟨3, ⟨fun q => absurd q c1, fun _ => ⟨trivial, h2 c1⟩⟩⟩
theorem sg_134_26 {d0 : Option Value} {d1 : Option Value} {s0 : Int32} {M : px_Mem} {Q : px_Po} (h1 : Q (some (.int s0)) M) : px_T 0 134 26 [d0, d1] [.int s0] M Q := by
  exact ⟨1, ⟨trivial, h1⟩⟩
theorem sg_135_0 {x1 : Int32} {x2 : Int32} {M : px_Mem} {Q : px_Po} (h1 : (x1 < 2) → Q (some (.int (-1000))) M) (h2 : (¬ (x1 < 2)) → ((7 : Int32) < x1) → Q (some (.int (-1000))) M) (h3 : (¬ (x1 < 2)) → (¬ ((7 : Int32) < x1)) → (x2 < 0) → Q (some (.int (-1000))) M) (h4 : (¬ (x1 < 2)) → (¬ ((7 : Int32) < x1)) → (¬ (x2 < 0)) → ((1 : Int32) < x2) → Q (some (.int (-1000))) M) (h5 : (¬ (x1 < 2)) → (¬ ((7 : Int32) < x1)) → (¬ (x2 < 0)) → (¬ ((1 : Int32) < x2)) → px_T 0 151 0 [some (.ref 0)] [] M (fun r M1 => px_T 0 135 24 [some (.ref 0), some (.int x1), some (.int x2), none, none, none, none] (r.toList ++ []) M1 Q)) : px_T 0 135 0 [some (.ref 0), some (.int x1), some (.int x2), none, none, none, none] [] M Q := by
  by_cases c1 : x1 < 2
  · exact ⟨5, ⟨fun _ => ⟨trivial, h1 c1⟩, fun q => absurd c1 q⟩⟩
  · by_cases c2 : (7 : Int32) < x1
    · exact ⟨8, ⟨fun q => absurd q c1, fun _ => ⟨fun _ => ⟨trivial, h2 c1 c2⟩, fun q => absurd c2 q⟩⟩⟩
    · by_cases c3 : x2 < 0
      · exact ⟨10, ⟨fun q => absurd q c1, fun _ => ⟨fun q => absurd q c2, fun _ => ⟨fun _ => ⟨trivial, h3 c1 c2 c3⟩, fun q => absurd c3 q⟩⟩⟩⟩
      · by_cases c4 : (1 : Int32) < x2
        · exact ⟨13, ⟨fun q => absurd q c1, fun _ => ⟨fun q => absurd q c2, fun _ => ⟨fun q => absurd q c3, fun _ => ⟨fun _ => ⟨trivial, h4 c1 c2 c3 c4⟩, fun q => absurd c4 q⟩⟩⟩⟩⟩
        · obtain ⟨n, h⟩ := px_T_cl (k := 135) (pc := 21) (y := 151) (st := [.ref 0]) rfl (h5 c1 c2 c3 c4)
          exact ⟨n + 13, ⟨fun q => absurd q c1, fun _ => ⟨fun q => absurd q c2, fun _ => ⟨fun q => absurd q c3, fun _ => ⟨fun q => absurd q c4, fun _ => ⟨rfl, h⟩⟩⟩⟩⟩⟩
theorem sg_135_24 {x1 : Int32} {x2 : Int32} {d3 : Option Value} {d4 : Option Value} {d5 : Option Value} {d6 : Option Value} {s0 : Int32} {M : px_Mem} {Q : px_Po} (h1 : (s0 = 0) → px_T 0 135 33 [some (.ref 0), some (.int x1), some (.int x2), some (.int 0), d4, d5, d6] [] M Q) (h2 : (¬ (s0 = 0)) → Q (some (.int (-1000))) M) : px_T 0 135 24 [some (.ref 0), some (.int x1), some (.int x2), d3, d4, d5, d6] [.int s0] M Q := by
  by_cases c1 : s0 = 0
  · obtain ⟨n, h⟩ := h1 c1
    exact ⟨n + 3, ⟨fun _ => h, fun q => absurd c1 q⟩⟩
  · exact ⟨3, ⟨fun q => absurd q c1, fun _ => ⟨trivial, h2 c1⟩⟩⟩
theorem sg_135_33 {x1 : Int32} {x2 : Int32} {x3 : Int32} {d4 : Option Value} {d5 : Option Value} {d6 : Option Value} {M : px_Mem} {Q : px_Po} (h1 : ((64 : Int32) ≤ x3) → px_T 0 135 77 [some (.ref 0), some (.int x1), some (.int x2), some (.int (1 <<< ((x1 - 2) &&& 31))), some (.int 0), some (.int 0), d6] [] M Q) (h2 : (¬ ((64 : Int32) ≤ x3)) → px_T 0 169 0 [some (.ref 0), some (.int ((32641 : Int32) ||| (x3 <<< (1 &&& 31)))), none, none, none] [] M (fun r M1 => px_T 0 135 58 [some (.ref 0), some (.int x1), some (.int x2), some (.int x3), d4, d5, d6] (r.toList ++ [.int x3, .ref 55]) M1 Q)) : px_T 0 135 33 [some (.ref 0), some (.int x1), some (.int x2), some (.int x3), d4, d5, d6] [] M Q := by
  by_cases c1 : (64 : Int32) ≤ x3
  · obtain ⟨n, h⟩ := h1 c1
    exact ⟨n + 15, ⟨rfl, (Or.inl ⟨0, 64, rfl, (by decide), ⟨fun _ => h, fun q => absurd c1 q⟩⟩)⟩⟩
  · obtain ⟨n, h⟩ := px_T_cl (k := 135) (pc := 55) (y := 169) (st := [.int ((32641 : Int32) ||| (x3 <<< (1 &&& 31))), .ref 0, .int x3, .ref 55]) rfl (h2 c1)
    exact ⟨n + 15, ⟨rfl, (Or.inl ⟨0, 64, rfl, (by decide), ⟨fun q => absurd q c1, fun _ => ⟨rfl, ⟨rfl, h⟩⟩⟩⟩)⟩⟩
theorem sg_135_77 {d1 : Option Value} {x2 : Int32} {x3 : Int32} {x4 : Int32} {x5 : Int32} {d6 : Option Value} {M : px_Mem} {Q : px_Po} (h1 : ((64 : Int32) ≤ x5) → px_T 0 173 0 [some (.long x4.toInt64), none, some (.long 720), none, some (.int x2), none, none, none, none, none, none, none] [] M (fun r M1 => px_T 0 135 155 [some (.ref 0), d1, some (.int x2), some (.int x3), some (.int x4), some (.int x5), d6] (r.toList ++ []) M1 Q)) (h2 : (¬ ((64 : Int32) ≤ x5)) → px_T 0 332 0 [some (.int x5)] [] M (fun r M1 => px_T 0 135 92 [some (.ref 0), d1, some (.int x2), some (.int x3), some (.int x4), some (.int x5), d6] (r.toList ++ []) M1 Q)) : px_T 0 135 77 [some (.ref 0), d1, some (.int x2), some (.int x3), some (.int x4), some (.int x5), d6] [] M Q := by
  by_cases c1 : (64 : Int32) ≤ x5
  · obtain ⟨n, h⟩ := px_T_cl (k := 135) (pc := 152) (y := 173) (st := [.int x2, .long 720, .long x4.toInt64]) rfl (h1 c1)
    exact ⟨n + 10, ⟨rfl, (Or.inl ⟨0, 64, rfl, (by decide), ⟨fun _ => h, fun q => absurd c1 q⟩⟩)⟩⟩
  · obtain ⟨n, h⟩ := px_T_cl (k := 135) (pc := 89) (y := 332) (st := [.int x5]) rfl (h2 c1)
    exact ⟨n + 7, ⟨rfl, (Or.inl ⟨0, 64, rfl, (by decide), ⟨fun q => absurd q c1, fun _ => h⟩⟩)⟩⟩
theorem sg_135_58 {x1 : Int32} {x2 : Int32} {x3 : Int32} {d4 : Option Value} {d5 : Option Value} {d6 : Option Value} {s0 : Int32} {s1 : Int32} {M : px_Mem} {Q : px_Po} (h1 : vp_in s1 64) (h2 : px_T 0 135 33 [some (.ref 0), some (.int x1), some (.int x2), some (.int (x3 + 1)), d4, d5, d6] [] (px_wI M 55 s1.toNatClampNeg s0) Q) : px_T 0 135 58 [some (.ref 0), some (.int x1), some (.int x2), some (.int x3), d4, d5, d6] [.int s0, .int s1, .ref 55] M Q := by
  obtain ⟨n, h⟩ := h2
  exact ⟨n + 3, ⟨⟨64, rfl, h1⟩, h⟩⟩
theorem sg_135_155 {d0 : Option Value} {d1 : Option Value} {d2 : Option Value} {d3 : Option Value} {d4 : Option Value} {d5 : Option Value} {d6 : Option Value} {s0 : Int64} {M : px_Mem} {Q : px_Po} (h1 : Q (some (.int s0.toInt32)) M) : px_T 0 135 155 [d0, d1, d2, d3, d4, d5, d6] [.long s0] M Q := by
  exact ⟨2, ⟨trivial, h1⟩⟩
theorem sg_135_92 {d1 : Option Value} {x2 : Int32} {x3 : Int32} {x4 : Int32} {x5 : Int32} {d6 : Option Value} {s0 : Int32} {M : px_Mem} {Q : px_Po} (h1 : ((x5 &&& x3) = 0) → ((6 : Int32) ≤ s0) → px_T 0 135 77 [some (.ref 0), d1, some (.int x2), some (.int x3), some (.int x4), some (.int (x5 + 1)), some (.int s0)] [] M Q) (h2 : ((x5 &&& x3) = 0) → (¬ ((6 : Int32) ≤ s0)) → vp_in s0 6) (h3 : ((x5 &&& x3) = 0) → (¬ ((6 : Int32) ≤ s0)) → vp_in (x5 ||| x3) 64) (h4 : ((x5 &&& x3) = 0) → (¬ ((6 : Int32) ≤ s0)) → vp_in x5 64) (h5 : ((x5 &&& x3) = 0) → (¬ ((6 : Int32) ≤ s0)) → px_T 0 135 77 [some (.ref 0), d1, some (.int x2), some (.int x3), some (.int (x4 + ((M.1 1002 s0.toNatClampNeg) * ((M.1 55 ((x5 ||| x3).toNatClampNeg)) - (M.1 55 x5.toNatClampNeg))))), some (.int (x5 + 1)), some (.int s0)] [] M Q) (h6 : (¬ ((x5 &&& x3) = 0)) → px_T 0 135 77 [some (.ref 0), d1, some (.int x2), some (.int x3), some (.int x4), some (.int (x5 + 1)), some (.int s0)] [] M Q) : px_T 0 135 92 [some (.ref 0), d1, some (.int x2), some (.int x3), some (.int x4), some (.int x5), d6] [.int s0] M Q := by
  by_cases c1 : (x5 &&& x3) = 0
  · by_cases c2 : (6 : Int32) ≤ s0
    · obtain ⟨n, h⟩ := h1 c1 c2
      exact ⟨n + 11, ⟨fun q => absurd c1 q, fun _ => ⟨rfl, (Or.inl ⟨10, 6, rfl, (by decide), ⟨fun _ => h, fun q => absurd c2 q⟩⟩)⟩⟩⟩
    · obtain ⟨n, h⟩ := h5 c1 c2
      exact ⟨n + 29, ⟨fun q => absurd c1 q, fun _ => ⟨rfl, (Or.inl ⟨10, 6, rfl, (by decide), ⟨fun q => absurd q c2, fun _ => ⟨rfl, ⟨Or.inl ⟨10, 6, Or.inr rfl, rfl, (h2 c1 c2)⟩, ⟨rfl, ⟨Or.inl ⟨0, 64, Or.inl rfl, rfl, (h3 c1 c2)⟩, ⟨rfl, ⟨Or.inl ⟨0, 64, Or.inl rfl, rfl, (h4 c1 c2)⟩, h⟩⟩⟩⟩⟩⟩⟩⟩)⟩⟩⟩
  · obtain ⟨n, h⟩ := h6 c1
    exact ⟨n + 7, ⟨fun _ => h, fun q => absurd q c1⟩⟩
theorem sg_136_0 {x1 : Int32} {x2 : Int32} {M : px_Mem} {Q : px_Po} (h1 : px_T 0 158 0 [some (.int x1), some (.int x2)] [] M (fun r M1 => px_T 0 136 5 [some (.ref 0), some (.int x1), some (.int x2), none, none, none, none, none, none] (r.toList ++ []) M1 Q)) : px_T 0 136 0 [some (.ref 0), some (.int x1), some (.int x2), none, none, none, none, none, none] [] M Q := by
  obtain ⟨n, h⟩ := px_T_cl (k := 136) (pc := 2) (y := 158) (st := [.int x2, .int x1]) rfl (h1)
  exact ⟨n + 3, h⟩
theorem sg_136_5 {x1 : Int32} {x2 : Int32} {d3 : Option Value} {d4 : Option Value} {d5 : Option Value} {d6 : Option Value} {d7 : Option Value} {d8 : Option Value} {s0 : Int32} {M : px_Mem} {Q : px_Po} (h1 : (s0 = 0) → px_T 0 151 0 [some (.ref 0)] [] M (fun r M1 => px_T 0 136 12 [some (.ref 0), some (.int x1), some (.int x2), d3, d4, d5, d6, d7, d8] (r.toList ++ []) M1 Q)) (h2 : (¬ (s0 = 0)) → Q (some (.int (-2))) M) : px_T 0 136 5 [some (.ref 0), some (.int x1), some (.int x2), d3, d4, d5, d6, d7, d8] [.int s0] M Q := by
  by_cases c1 : s0 = 0
  · obtain ⟨n, h⟩ := px_T_cl (k := 136) (pc := 9) (y := 151) (st := [.ref 0]) rfl (h1 c1)
    exact ⟨n + 3, ⟨fun q => absurd c1 q, fun _ => ⟨rfl, h⟩⟩⟩
  · exact ⟨3, ⟨fun _ => ⟨trivial, h2 c1⟩, fun q => absurd q c1⟩⟩
theorem sg_136_12 {x1 : Int32} {x2 : Int32} {d3 : Option Value} {d4 : Option Value} {d5 : Option Value} {d6 : Option Value} {d7 : Option Value} {d8 : Option Value} {s0 : Int32} {M : px_Mem} {Q : px_Po} (h1 : (s0 = 0) → px_T 0 136 23 [some (.ref 0), some (.int x1), some (.int x2), some (.int 0), some (.int 0), d5, d6, d7, d8] [] M Q) (h2 : (¬ (s0 = 0)) → Q (some (.int (-2))) M) : px_T 0 136 12 [some (.ref 0), some (.int x1), some (.int x2), d3, d4, d5, d6, d7, d8] [.int s0] M Q := by
  by_cases c1 : s0 = 0
  · obtain ⟨n, h⟩ := h1 c1
    exact ⟨n + 5, ⟨fun _ => h, fun q => absurd c1 q⟩⟩
  · exact ⟨3, ⟨fun q => absurd q c1, fun _ => ⟨trivial, h2 c1⟩⟩⟩
theorem sg_136_23 {x1 : Int32} {x2 : Int32} {x3 : Int32} {x4 : Int32} {d5 : Option Value} {d6 : Option Value} {d7 : Option Value} {d8 : Option Value} {M : px_Mem} {Q : px_Po} (h1 : ((4 : Int32) ≤ x4) → Q (some (.int x3)) M) (h2 : (¬ ((4 : Int32) ≤ x4)) → px_T 0 170 0 [some (.ref 0), some (.int x1), some (.int x2), some (.int (x4 &&& 1)), some (.int (x4 >>> (1 &&& 31))), some (.int 0), none, none] [] M (fun r M1 => px_T 0 136 52 [some (.ref 0), some (.int x1), some (.int x2), some (.int x3), some (.int x4), some (.int (x4 &&& 1)), some (.int (x4 >>> (1 &&& 31))), d7, d8] (r.toList ++ []) M1 Q)) : px_T 0 136 23 [some (.ref 0), some (.int x1), some (.int x2), some (.int x3), some (.int x4), d5, d6, d7, d8] [] M Q := by
  by_cases c1 : (4 : Int32) ≤ x4
  · exact ⟨5, ⟨fun _ => ⟨trivial, h1 c1⟩, fun q => absurd c1 q⟩⟩
  · obtain ⟨n, h⟩ := px_T_cl (k := 136) (pc := 49) (y := 170) (st := [.int 0, .int (x4 >>> (1 &&& 31)), .int (x4 &&& 1), .int x2, .int x1, .ref 0]) rfl (h2 c1)
    exact ⟨n + 18, ⟨fun q => absurd q c1, fun _ => ⟨rfl, h⟩⟩⟩
theorem sg_136_52 {x1 : Int32} {x2 : Int32} {x3 : Int32} {x4 : Int32} {x5 : Int32} {x6 : Int32} {d7 : Option Value} {d8 : Option Value} {s0 : Int32} {M : px_Mem} {Q : px_Po} (h1 : px_T 0 170 0 [some (.ref 0), some (.int x1), some (.int x2), some (.int (1 - x5)), some (.int x6), some (.int 0), none, none] [] M (fun r M1 => px_T 0 136 65 [some (.ref 0), some (.int x1), some (.int x2), some (.int x3), some (.int x4), some (.int x5), some (.int x6), d7, d8] (r.toList ++ [.int s0]) M1 Q)) : px_T 0 136 52 [some (.ref 0), some (.int x1), some (.int x2), some (.int x3), some (.int x4), some (.int x5), some (.int x6), d7, d8] [.int s0] M Q := by
  obtain ⟨n, h⟩ := px_T_cl (k := 136) (pc := 62) (y := 170) (st := [.int 0, .int x6, .int (1 - x5), .int x2, .int x1, .ref 0, .int s0]) rfl (h1)
  exact ⟨n + 9, ⟨rfl, h⟩⟩
theorem sg_136_65 {x1 : Int32} {x2 : Int32} {x3 : Int32} {x4 : Int32} {x5 : Int32} {x6 : Int32} {d7 : Option Value} {d8 : Option Value} {s0 : Int32} {s1 : Int32} {M : px_Mem} {Q : px_Po} (h1 : (s1 < s0) → px_T 0 170 0 [some (.ref 0), some (.int x1), some (.int x2), some (.int x5), some (.int x6), some (.int 1), none, none] [] M (fun r M1 => px_T 0 136 86 [some (.ref 0), some (.int x1), some (.int x2), some (.int x3), some (.int x4), some (.int x5), some (.int x6), some (.int 0), d8] (r.toList ++ []) M1 Q)) (h2 : (¬ (s1 < s0)) → px_T 0 170 0 [some (.ref 0), some (.int x1), some (.int x2), some (.int x5), some (.int x6), some (.int 1), none, none] [] M (fun r M1 => px_T 0 136 86 [some (.ref 0), some (.int x1), some (.int x2), some (.int x3), some (.int x4), some (.int x5), some (.int x6), some (.int 1), d8] (r.toList ++ []) M1 Q)) : px_T 0 136 65 [some (.ref 0), some (.int x1), some (.int x2), some (.int x3), some (.int x4), some (.int x5), some (.int x6), d7, d8] [.int s0, .int s1] M Q := by
  by_cases c1 : s1 < s0
  · obtain ⟨n, h⟩ := px_T_cl (k := 136) (pc := 83) (y := 170) (st := [.int 1, .int x6, .int x5, .int x2, .int x1, .ref 0]) rfl (h1 c1)
    exact ⟨n + 10, ⟨fun _ => ⟨rfl, h⟩, fun q => absurd c1 q⟩⟩
  · obtain ⟨n, h⟩ := px_T_cl (k := 136) (pc := 83) (y := 170) (st := [.int 1, .int x6, .int x5, .int x2, .int x1, .ref 0]) rfl (h2 c1)
    exact ⟨n + 11, ⟨fun q => absurd q c1, fun _ => ⟨rfl, h⟩⟩⟩
theorem sg_136_86 {x1 : Int32} {x2 : Int32} {x3 : Int32} {x4 : Int32} {x5 : Int32} {x6 : Int32} {x7 : Int32} {d8 : Option Value} {s0 : Int32} {M : px_Mem} {Q : px_Po} (h1 : px_T 0 170 0 [some (.ref 0), some (.int x1), some (.int x2), some (.int x5), some (.int (1 - x6)), some (.int 1), none, none] [] M (fun r M1 => px_T 0 136 99 [some (.ref 0), some (.int x1), some (.int x2), some (.int x3), some (.int x4), some (.int x5), some (.int x6), some (.int x7), d8] (r.toList ++ [.int s0]) M1 Q)) : px_T 0 136 86 [some (.ref 0), some (.int x1), some (.int x2), some (.int x3), some (.int x4), some (.int x5), some (.int x6), some (.int x7), d8] [.int s0] M Q := by
  obtain ⟨n, h⟩ := px_T_cl (k := 136) (pc := 96) (y := 170) (st := [.int 1, .int (1 - x6), .int x5, .int x2, .int x1, .ref 0, .int s0]) rfl (h1)
  exact ⟨n + 9, ⟨rfl, h⟩⟩
theorem sg_136_99 {x1 : Int32} {x2 : Int32} {x3 : Int32} {x4 : Int32} {d5 : Option Value} {d6 : Option Value} {x7 : Int32} {d8 : Option Value} {s0 : Int32} {s1 : Int32} {M : px_Mem} {Q : px_Po} (h1 : (s1 < s0) → (x7 = 0) → px_T 0 136 23 [some (.ref 0), some (.int x1), some (.int x2), some (.int x3), some (.int (x4 + 1)), d5, d6, some (.int x7), some (.int 0)] [] M Q) (h2 : (s1 < s0) → (¬ (x7 = 0)) → px_T 0 136 23 [some (.ref 0), some (.int x1), some (.int x2), some (.int x3), some (.int (x4 + 1)), d5, d6, some (.int x7), some (.int 0)] [] M Q) (h3 : (¬ (s1 < s0)) → (x7 = 0) → px_T 0 136 23 [some (.ref 0), some (.int x1), some (.int x2), some (.int x3), some (.int (x4 + 1)), d5, d6, some (.int x7), some (.int 1)] [] M Q) (h4 : (¬ (s1 < s0)) → (¬ (x7 = 0)) → px_T 0 136 23 [some (.ref 0), some (.int x1), some (.int x2), some (.int (x3 ||| (1 <<< (x4 &&& 31)))), some (.int (x4 + 1)), d5, d6, some (.int x7), some (.int 1)] [] M Q) : px_T 0 136 99 [some (.ref 0), some (.int x1), some (.int x2), some (.int x3), some (.int x4), d5, d6, some (.int x7), d8] [.int s0, .int s1] M Q := by
  by_cases c1 : s1 < s0
  · by_cases c2 : x7 = 0
    · obtain ⟨n, h⟩ := h1 c1 c2
      exact ⟨n + 7, ⟨fun _ => ⟨fun _ => h, fun q => absurd c2 q⟩, fun q => absurd c1 q⟩⟩
    · obtain ⟨n, h⟩ := h2 c1 c2
      exact ⟨n + 9, ⟨fun _ => ⟨fun q => absurd q c2, fun _ => ⟨fun _ => h, fun q => absurd (by decide) q⟩⟩, fun q => absurd c1 q⟩⟩
  · by_cases c3 : x7 = 0
    · obtain ⟨n, h⟩ := h3 c1 c3
      exact ⟨n + 8, ⟨fun q => absurd q c1, fun _ => ⟨fun _ => h, fun q => absurd c3 q⟩⟩⟩
    · obtain ⟨n, h⟩ := h4 c1 c3
      exact ⟨n + 16, ⟨fun q => absurd q c1, fun _ => ⟨fun q => absurd q c3, fun _ => ⟨fun q => absurd q (by decide), fun _ => h⟩⟩⟩⟩
theorem sg_137_0 {x1 : Int32} {x2 : Int32} {x3 : Int32} {x4 : Int32} {M : px_Mem} {Q : px_Po} (h1 : px_T 0 158 0 [some (.int x1), some (.int x2)] [] M (fun r M1 => px_T 0 137 5 [some (.ref 0), some (.int x1), some (.int x2), some (.int x3), some (.int x4)] (r.toList ++ []) M1 Q)) : px_T 0 137 0 [some (.ref 0), some (.int x1), some (.int x2), some (.int x3), some (.int x4)] [] M Q := by
  obtain ⟨n, h⟩ := px_T_cl (k := 137) (pc := 2) (y := 158) (st := [.int x2, .int x1]) rfl (h1)
  exact ⟨n + 3, h⟩
theorem sg_137_5 {x1 : Int32} {x2 : Int32} {x3 : Int32} {x4 : Int32} {s0 : Int32} {M : px_Mem} {Q : px_Po} (h1 : (s0 = 0) → (x3 < 0) → Q (some (.int (-2))) M) (h2 : (s0 = 0) → (¬ (x3 < 0)) → ((1 : Int32) < x3) → Q (some (.int (-2))) M) (h3 : (s0 = 0) → (¬ (x3 < 0)) → (¬ ((1 : Int32) < x3)) → (x4 < 0) → Q (some (.int (-2))) M) (h4 : (s0 = 0) → (¬ (x3 < 0)) → (¬ ((1 : Int32) < x3)) → (¬ (x4 < 0)) → ((1 : Int32) < x4) → Q (some (.int (-2))) M) (h5 : (s0 = 0) → (¬ (x3 < 0)) → (¬ ((1 : Int32) < x3)) → (¬ (x4 < 0)) → (¬ ((1 : Int32) < x4)) → px_T 0 151 0 [some (.ref 0)] [] M (fun r M1 => px_T 0 137 32 [some (.ref 0), some (.int x1), some (.int x2), some (.int x3), some (.int x4)] (r.toList ++ []) M1 Q)) (h6 : (¬ (s0 = 0)) → Q (some (.int (-2))) M) : px_T 0 137 5 [some (.ref 0), some (.int x1), some (.int x2), some (.int x3), some (.int x4)] [.int s0] M Q := by
  by_cases c1 : s0 = 0
  · by_cases c2 : x3 < 0
    · exact ⟨5, ⟨fun q => absurd c1 q, fun _ => ⟨fun _ => ⟨trivial, h1 c1 c2⟩, fun q => absurd c2 q⟩⟩⟩
    · by_cases c3 : (1 : Int32) < x3
      · exact ⟨8, ⟨fun q => absurd c1 q, fun _ => ⟨fun q => absurd q c2, fun _ => ⟨fun _ => ⟨trivial, h2 c1 c2 c3⟩, fun q => absurd c3 q⟩⟩⟩⟩
      · by_cases c4 : x4 < 0
        · exact ⟨10, ⟨fun q => absurd c1 q, fun _ => ⟨fun q => absurd q c2, fun _ => ⟨fun q => absurd q c3, fun _ => ⟨fun _ => ⟨trivial, h3 c1 c2 c3 c4⟩, fun q => absurd c4 q⟩⟩⟩⟩⟩
        · by_cases c5 : (1 : Int32) < x4
          · exact ⟨13, ⟨fun q => absurd c1 q, fun _ => ⟨fun q => absurd q c2, fun _ => ⟨fun q => absurd q c3, fun _ => ⟨fun q => absurd q c4, fun _ => ⟨fun _ => ⟨trivial, h4 c1 c2 c3 c4 c5⟩, fun q => absurd c5 q⟩⟩⟩⟩⟩⟩
          · obtain ⟨n, h⟩ := px_T_cl (k := 137) (pc := 29) (y := 151) (st := [.ref 0]) rfl (h5 c1 c2 c3 c4 c5)
            exact ⟨n + 13, ⟨fun q => absurd c1 q, fun _ => ⟨fun q => absurd q c2, fun _ => ⟨fun q => absurd q c3, fun _ => ⟨fun q => absurd q c4, fun _ => ⟨fun q => absurd q c5, fun _ => ⟨rfl, h⟩⟩⟩⟩⟩⟩⟩
  · exact ⟨3, ⟨fun _ => ⟨trivial, h6 c1⟩, fun q => absurd q c1⟩⟩
theorem sg_137_32 {x1 : Int32} {x2 : Int32} {x3 : Int32} {x4 : Int32} {s0 : Int32} {M : px_Mem} {Q : px_Po} (h1 : (s0 = 0) → px_T 0 170 0 [some (.ref 0), some (.int x1), some (.int x2), some (.int x3), some (.int x4), some (.int 0), none, none] [] M (fun r M1 => px_T 0 137 48 [some (.ref 0), some (.int x1), some (.int x2), some (.int x3), some (.int x4)] (r.toList ++ []) M1 Q)) (h2 : (¬ (s0 = 0)) → Q (some (.int (-2))) M) : px_T 0 137 32 [some (.ref 0), some (.int x1), some (.int x2), some (.int x3), some (.int x4)] [.int s0] M Q := by
  by_cases c1 : s0 = 0
  · obtain ⟨n, h⟩ := px_T_cl (k := 137) (pc := 45) (y := 170) (st := [.int 0, .int x4, .int x3, .int x2, .int x1, .ref 0]) rfl (h1 c1)
    exact ⟨n + 8, ⟨fun _ => ⟨rfl, h⟩, fun q => absurd c1 q⟩⟩
  · exact ⟨3, ⟨fun q => absurd q c1, fun _ => ⟨trivial, h2 c1⟩⟩⟩
theorem sg_137_48 {d0 : Option Value} {d1 : Option Value} {d2 : Option Value} {d3 : Option Value} {d4 : Option Value} {s0 : Int32} {M : px_Mem} {Q : px_Po} (h1 : Q (some (.int s0)) M) : px_T 0 137 48 [d0, d1, d2, d3, d4] [.int s0] M Q := by
  exact ⟨1, ⟨trivial, h1⟩⟩
theorem sg_138_0 {x1 : Int32} {x2 : Int32} {x3 : Int32} {M : px_Mem} {Q : px_Po} (h1 : px_T 0 153 0 [some (.int x1)] [] M (fun r M1 => px_T 0 138 4 [some (.ref 0), some (.int x1), some (.int x2), some (.int x3)] (r.toList ++ []) M1 Q)) : px_T 0 138 0 [some (.ref 0), some (.int x1), some (.int x2), some (.int x3)] [] M Q := by
  obtain ⟨n, h⟩ := px_T_cl (k := 138) (pc := 1) (y := 153) (st := [.int x1]) rfl (h1)
  exact ⟨n + 2, h⟩
theorem sg_138_4 {x1 : Int32} {x2 : Int32} {x3 : Int32} {s0 : Int32} {M : px_Mem} {Q : px_Po} (h1 : (s0 = 0) → px_T 0 160 0 [some (.ref 0), some (.int x2), some (.int x3)] [] M (fun r M1 => px_T 0 138 13 [some (.ref 0), some (.int x1), some (.int x2), some (.int x3)] (r.toList ++ []) M1 Q)) (h2 : (¬ (s0 = 0)) → Q (some (.long (-2))) M) : px_T 0 138 4 [some (.ref 0), some (.int x1), some (.int x2), some (.int x3)] [.int s0] M Q := by
  by_cases c1 : s0 = 0
  · obtain ⟨n, h⟩ := px_T_cl (k := 138) (pc := 10) (y := 160) (st := [.int x3, .int x2, .ref 0]) rfl (h1 c1)
    exact ⟨n + 5, ⟨fun q => absurd c1 q, fun _ => ⟨rfl, h⟩⟩⟩
  · exact ⟨3, ⟨fun _ => ⟨rfl, h2 c1⟩, fun q => absurd q c1⟩⟩
theorem sg_138_13 {x1 : Int32} {x2 : Int32} {x3 : Int32} {s0 : Int32} {M : px_Mem} {Q : px_Po} (h1 : (s0 = 0) → px_T 0 161 0 [some (.int x1)] [] M (fun r M1 => px_T 0 138 26 [some (.ref 0), some (.int x1), some (.int x2), some (.int x3)] (r.toList ++ [.int x2, .ref 0]) M1 Q)) (h2 : (¬ (s0 = 0)) → Q (some (.long (-2))) M) : px_T 0 138 13 [some (.ref 0), some (.int x1), some (.int x2), some (.int x3)] [.int s0] M Q := by
  by_cases c1 : s0 = 0
  · obtain ⟨n, h⟩ := px_T_cl (k := 138) (pc := 23) (y := 161) (st := [.int x1, .int x2, .ref 0]) rfl (h1 c1)
    exact ⟨n + 5, ⟨fun _ => h, fun q => absurd c1 q⟩⟩
  · exact ⟨3, ⟨fun q => absurd q c1, fun _ => ⟨rfl, h2 c1⟩⟩⟩
theorem sg_138_26 {d0 : Option Value} {d1 : Option Value} {x2 : Int32} {x3 : Int32} {s0 : Int32} {s1 : Int32} {M : px_Mem} {Q : px_Po} (h1 : px_T 0 171 0 [some (.ref 0), some (.int s1), some (.int s0), none, none, none, none, none, none, none] [] M (fun r M1 => px_T 0 138 29 [d0, d1, some (.int x2), some (.int x3)] (r.toList ++ []) M1 Q)) : px_T 0 138 26 [d0, d1, some (.int x2), some (.int x3)] [.int s0, .int s1, .ref 0] M Q := by
  obtain ⟨n, h⟩ := px_T_cl (k := 138) (pc := 26) (y := 171) (st := [.int s0, .int s1, .ref 0]) rfl (h1)
  exact ⟨n + 1, ⟨rfl, h⟩⟩
theorem sg_138_29 {d0 : Option Value} {d1 : Option Value} {x2 : Int32} {x3 : Int32} {s0 : Int64} {M : px_Mem} {Q : px_Po} (h1 : px_T 0 172 0 [some (.int x2), none, none, none] [] M (fun r M1 => px_T 0 138 33 [d0, d1, some (.int x2), some (.int x3)] (r.toList ++ [.long s0]) M1 Q)) : px_T 0 138 29 [d0, d1, some (.int x2), some (.int x3)] [.long s0] M Q := by
  obtain ⟨n, h⟩ := px_T_cl (k := 138) (pc := 30) (y := 172) (st := [.int x2, .long s0]) rfl (h1)
  exact ⟨n + 2, h⟩
theorem sg_138_33 {d0 : Option Value} {d1 : Option Value} {d2 : Option Value} {x3 : Int32} {s0 : Int64} {s1 : Int64} {M : px_Mem} {Q : px_Po} (h1 : px_T 0 173 0 [some (.long s1), none, some (.long s0), none, some (.int x3), none, none, none, none, none, none, none] [] M (fun r M1 => px_T 0 138 37 [d0, d1, d2, some (.int x3)] (r.toList ++ []) M1 Q)) : px_T 0 138 33 [d0, d1, d2, some (.int x3)] [.long s0, .long s1] M Q := by
  obtain ⟨n, h⟩ := px_T_cl (k := 138) (pc := 34) (y := 173) (st := [.int x3, .long s0, .long s1]) rfl (h1)
  exact ⟨n + 2, h⟩
theorem sg_138_37 {d0 : Option Value} {d1 : Option Value} {d2 : Option Value} {d3 : Option Value} {s0 : Int64} {M : px_Mem} {Q : px_Po} (h1 : Q (some (.long s0)) M) : px_T 0 138 37 [d0, d1, d2, d3] [.long s0] M Q := by
  exact ⟨1, ⟨rfl, h1⟩⟩
theorem sg_139_0 {x1 : Int32} {x2 : Int32} {M : px_Mem} {Q : px_Po} (h1 : px_T 0 160 0 [some (.ref 0), some (.int x1), some (.int x2)] [] M (fun r M1 => px_T 0 139 6 [some (.ref 0), some (.int x1), some (.int x2)] (r.toList ++ []) M1 Q)) : px_T 0 139 0 [some (.ref 0), some (.int x1), some (.int x2)] [] M Q := by
  obtain ⟨n, h⟩ := px_T_cl (k := 139) (pc := 3) (y := 160) (st := [.int x2, .int x1, .ref 0]) rfl (h1)
  exact ⟨n + 4, ⟨rfl, h⟩⟩
theorem sg_139_6 {x1 : Int32} {x2 : Int32} {s0 : Int32} {M : px_Mem} {Q : px_Po} (h1 : (s0 = 0) → px_T 0 171 0 [some (.ref 0), some (.int x1), some (.int 32767), none, none, none, none, none, none, none] [] M (fun r M1 => px_T 0 139 21 [some (.ref 0), some (.int x1), some (.int x2)] (r.toList ++ []) M1 Q)) (h2 : (¬ (s0 = 0)) → Q (some (.long (-2))) M) : px_T 0 139 6 [some (.ref 0), some (.int x1), some (.int x2)] [.int s0] M Q := by
  by_cases c1 : s0 = 0
  · obtain ⟨n, h⟩ := px_T_cl (k := 139) (pc := 18) (y := 171) (st := [.int 32767, .int x1, .ref 0]) rfl (h1 c1)
    exact ⟨n + 5, ⟨fun _ => ⟨rfl, h⟩, fun q => absurd c1 q⟩⟩
  · exact ⟨3, ⟨fun q => absurd q c1, fun _ => ⟨rfl, h2 c1⟩⟩⟩
theorem sg_139_21 {d0 : Option Value} {x1 : Int32} {x2 : Int32} {s0 : Int64} {M : px_Mem} {Q : px_Po} (h1 : px_T 0 172 0 [some (.int x1), none, none, none] [] M (fun r M1 => px_T 0 139 25 [d0, some (.int x1), some (.int x2)] (r.toList ++ [.long s0]) M1 Q)) : px_T 0 139 21 [d0, some (.int x1), some (.int x2)] [.long s0] M Q := by
  obtain ⟨n, h⟩ := px_T_cl (k := 139) (pc := 22) (y := 172) (st := [.int x1, .long s0]) rfl (h1)
  exact ⟨n + 2, h⟩
theorem sg_139_25 {d0 : Option Value} {d1 : Option Value} {x2 : Int32} {s0 : Int64} {s1 : Int64} {M : px_Mem} {Q : px_Po} (h1 : px_T 0 173 0 [some (.long s1), none, some (.long s0), none, some (.int x2), none, none, none, none, none, none, none] [] M (fun r M1 => px_T 0 139 29 [d0, d1, some (.int x2)] (r.toList ++ []) M1 Q)) : px_T 0 139 25 [d0, d1, some (.int x2)] [.long s0, .long s1] M Q := by
  obtain ⟨n, h⟩ := px_T_cl (k := 139) (pc := 26) (y := 173) (st := [.int x2, .long s0, .long s1]) rfl (h1)
  exact ⟨n + 2, h⟩
theorem sg_139_29 {d0 : Option Value} {d1 : Option Value} {d2 : Option Value} {s0 : Int64} {M : px_Mem} {Q : px_Po} (h1 : Q (some (.long s0)) M) : px_T 0 139 29 [d0, d1, d2] [.long s0] M Q := by
  exact ⟨1, ⟨rfl, h1⟩⟩
theorem sg_140_0 {x1 : Int32} {x2 : Int32} {x3 : Int32} {x4 : Int32} {M : px_Mem} {Q : px_Po} (h1 : px_T 0 151 0 [some (.ref 0)] [] M (fun r M1 => px_T 0 140 4 [some (.ref 0), some (.int x1), some (.int x2), some (.int x3), some (.int x4)] (r.toList ++ []) M1 Q)) : px_T 0 140 0 [some (.ref 0), some (.int x1), some (.int x2), some (.int x3), some (.int x4)] [] M Q := by
  obtain ⟨n, h⟩ := px_T_cl (k := 140) (pc := 1) (y := 151) (st := [.ref 0]) rfl (h1)
  exact ⟨n + 2, ⟨rfl, h⟩⟩
theorem sg_140_4 {x1 : Int32} {x2 : Int32} {x3 : Int32} {x4 : Int32} {s0 : Int32} {M : px_Mem} {Q : px_Po} (h1 : (s0 = 0) → (x1 < 0) → Q (some (.int (-2))) M) (h2 : (s0 = 0) → (¬ (x1 < 0)) → (x1 < 10) → px_T 0 8 0 [some (.int x1), some (.int 1), some (.int x2)] [] M (fun r M1 => px_T 0 140 26 [some (.ref 0), some (.int x1), some (.int x2), some (.int x3), some (.int x4)] (r.toList ++ []) M1 Q)) (h3 : (s0 = 0) → (¬ (x1 < 0)) → (¬ (x1 < 10)) → Q (some (.int (-2))) M) (h4 : (¬ (s0 = 0)) → Q (some (.int (-2))) M) : px_T 0 140 4 [some (.ref 0), some (.int x1), some (.int x2), some (.int x3), some (.int x4)] [.int s0] M Q := by
  by_cases c1 : s0 = 0
  · by_cases c2 : x1 < 0
    · exact ⟨5, ⟨fun q => absurd c1 q, fun _ => ⟨fun _ => ⟨trivial, h1 c1 c2⟩, fun q => absurd c2 q⟩⟩⟩
    · by_cases c3 : x1 < 10
      · obtain ⟨n, h⟩ := px_T_cl (k := 140) (pc := 23) (y := 8) (st := [.int x2, .int 1, .int x1]) rfl (h2 c1 c2 c3)
        exact ⟨n + 10, ⟨fun q => absurd c1 q, fun _ => ⟨fun q => absurd q c2, fun _ => ⟨fun _ => h, fun q => absurd c3 q⟩⟩⟩⟩
      · exact ⟨8, ⟨fun q => absurd c1 q, fun _ => ⟨fun q => absurd q c2, fun _ => ⟨fun q => absurd q c3, fun _ => ⟨trivial, h3 c1 c2 c3⟩⟩⟩⟩⟩
  · exact ⟨3, ⟨fun _ => ⟨trivial, h4 c1⟩, fun q => absurd q c1⟩⟩
theorem sg_140_26 {x1 : Int32} {x2 : Int32} {x3 : Int32} {x4 : Int32} {s0 : Int32} {M : px_Mem} {Q : px_Po} (h1 : (s0 = 0) → Q (some (.int (-2))) M) (h2 : (¬ (s0 = 0)) → px_T 0 8 0 [some (.int x1), some (.int 2), some (.int x3)] [] M (fun r M1 => px_T 0 140 35 [some (.ref 0), some (.int x1), some (.int x2), some (.int x3), some (.int x4)] (r.toList ++ []) M1 Q)) : px_T 0 140 26 [some (.ref 0), some (.int x1), some (.int x2), some (.int x3), some (.int x4)] [.int s0] M Q := by
  by_cases c1 : s0 = 0
  · exact ⟨3, ⟨fun _ => ⟨trivial, h1 c1⟩, fun q => absurd c1 q⟩⟩
  · obtain ⟨n, h⟩ := px_T_cl (k := 140) (pc := 32) (y := 8) (st := [.int x3, .int 2, .int x1]) rfl (h2 c1)
    exact ⟨n + 5, ⟨fun q => absurd q c1, fun _ => h⟩⟩
theorem sg_140_35 {x1 : Int32} {x2 : Int32} {x3 : Int32} {x4 : Int32} {s0 : Int32} {M : px_Mem} {Q : px_Po} (h1 : (s0 = 0) → Q (some (.int (-2))) M) (h2 : (¬ (s0 = 0)) → px_T 0 8 0 [some (.int x1), some (.int 3), some (.int x4)] [] M (fun r M1 => px_T 0 140 45 [some (.ref 0), some (.int x1), some (.int x2), some (.int x3), some (.int x4)] (r.toList ++ []) M1 Q)) : px_T 0 140 35 [some (.ref 0), some (.int x1), some (.int x2), some (.int x3), some (.int x4)] [.int s0] M Q := by
  by_cases c1 : s0 = 0
  · exact ⟨3, ⟨fun _ => ⟨trivial, h1 c1⟩, fun q => absurd c1 q⟩⟩
  · obtain ⟨n, h⟩ := px_T_cl (k := 140) (pc := 42) (y := 8) (st := [.int x4, .int 3, .int x1]) rfl (h2 c1)
    exact ⟨n + 5, ⟨fun q => absurd q c1, fun _ => h⟩⟩
theorem sg_140_45 {x1 : Int32} {x2 : Int32} {x3 : Int32} {x4 : Int32} {s0 : Int32} {M : px_Mem} {Q : px_Po} (h1 : (s0 = 0) → Q (some (.int (-2))) M) (h2 : (¬ (s0 = 0)) → ((M.1 4 5) < 30) → px_T 0 0 0 [some (.int x1), some (.int x2), some (.int x3), some (.int x4)] [] M (fun r M1 => px_T 0 140 78 [some (.ref 0), some (.int x1), some (.int x2), some (.int x3), some (.int x4)] (r.toList ++ [.ref 4]) M1 Q)) (h3 : (¬ (s0 = 0)) → (¬ ((M.1 4 5) < 30)) → Q (some (.int (-5))) M) : px_T 0 140 45 [some (.ref 0), some (.int x1), some (.int x2), some (.int x3), some (.int x4)] [.int s0] M Q := by
  by_cases c1 : s0 = 0
  · exact ⟨3, ⟨fun q => absurd c1 q, fun _ => ⟨trivial, h1 c1⟩⟩⟩
  · by_cases c2 : (M.1 4 5) < 30
    · obtain ⟨n, h⟩ := px_T_cl (k := 140) (pc := 75) (y := 0) (st := [.int x4, .int x3, .int x2, .int x1, .ref 4]) rfl (h2 c1 c2)
      exact ⟨n + 13, ⟨fun _ => ⟨rfl, ⟨rfl, ⟨fun _ => ⟨rfl, h⟩, fun q => absurd c2 q⟩⟩⟩, fun q => absurd q c1⟩⟩
    · exact ⟨8, ⟨fun _ => ⟨rfl, ⟨rfl, ⟨fun q => absurd q c2, fun _ => ⟨trivial, h3 c1 c2⟩⟩⟩⟩, fun q => absurd q c1⟩⟩
theorem sg_140_78 {d1 : Option Value} {d2 : Option Value} {d3 : Option Value} {d4 : Option Value} {s0 : Int32} {M : px_Mem} {Q : px_Po} (h1 : px_T 0 55 0 [some (.ref 4), some (.int s0)] [] M (fun r M1 => px_T 0 140 81 [some (.ref 0), d1, d2, d3, d4] (r.toList ++ []) M1 Q)) : px_T 0 140 78 [some (.ref 0), d1, d2, d3, d4] [.int s0, .ref 4] M Q := by
  obtain ⟨n, h⟩ := px_T_cl (k := 140) (pc := 78) (y := 55) (st := [.int s0, .ref 4]) rfl (h1)
  exact ⟨n + 1, ⟨rfl, h⟩⟩
theorem sg_140_81 {d1 : Option Value} {d2 : Option Value} {d3 : Option Value} {d4 : Option Value} {M : px_Mem} {Q : px_Po} (h1 : px_T 0 53 0 [some (.ref 4)] [] (px_wI M 4 5 ((M.1 4 5) + 1)) (fun r M1 => px_T 0 140 105 [some (.ref 0), d1, d2, d3, d4] (r.toList ++ [.ref 28]) M1 Q)) : px_T 0 140 81 [some (.ref 0), d1, d2, d3, d4] [] M Q := by
  obtain ⟨n, h⟩ := px_T_cl (k := 140) (pc := 102) (y := 53) (st := [.ref 4, .ref 28]) rfl (h1)
  exact ⟨n + 12, ⟨rfl, ⟨rfl, ⟨rfl, ⟨rfl, ⟨rfl, ⟨rfl, h⟩⟩⟩⟩⟩⟩⟩
theorem sg_140_105 {d0 : Option Value} {d1 : Option Value} {d2 : Option Value} {d3 : Option Value} {d4 : Option Value} {s0 : Int32} {M : px_Mem} {Q : px_Po} (h1 : px_T 0 12 0 [some (.ref 28), some (.int (s0 - 1))] [] M (fun r M1 => px_T 0 140 110 [d0, d1, d2, d3, d4] (r.toList ++ []) M1 Q)) : px_T 0 140 105 [d0, d1, d2, d3, d4] [.int s0, .ref 28] M Q := by
  obtain ⟨n, h⟩ := px_T_cl (k := 140) (pc := 107) (y := 12) (st := [.int (s0 - 1), .ref 28]) rfl (h1)
  exact ⟨n + 3, ⟨rfl, h⟩⟩
theorem sg_140_110 {d0 : Option Value} {d1 : Option Value} {d2 : Option Value} {d3 : Option Value} {d4 : Option Value} {s0 : Int32} {M : px_Mem} {Q : px_Po} (h1 : Q (some (.int s0)) M) : px_T 0 140 110 [d0, d1, d2, d3, d4] [.int s0] M Q := by
  exact ⟨1, ⟨trivial, h1⟩⟩
theorem sg_141_0 {M : px_Mem} {Q : px_Po} (h1 : px_T 0 151 0 [some (.ref 0)] [] M (fun r M1 => px_T 0 141 4 [some (.ref 0)] (r.toList ++ []) M1 Q)) : px_T 0 141 0 [some (.ref 0)] [] M Q := by
  obtain ⟨n, h⟩ := px_T_cl (k := 141) (pc := 1) (y := 151) (st := [.ref 0]) rfl (h1)
  exact ⟨n + 2, ⟨rfl, h⟩⟩
theorem sg_141_4 {s0 : Int32} {M : px_Mem} {Q : px_Po} (h1 : (s0 = 0) → ((M.1 4 5) = 0) → Q (some (.int (-5))) M) (h2 : (s0 = 0) → (¬ ((M.1 4 5) = 0)) → px_T 0 163 0 [some (.ref 0)] [] (px_wI M 4 5 ((M.1 4 5) - 1)) (fun r M1 => px_T 0 141 40 [some (.ref 0)] (r.toList ++ []) M1 Q)) (h3 : (¬ (s0 = 0)) → Q (some (.int (-2))) M) : px_T 0 141 4 [some (.ref 0)] [.int s0] M Q := by
  by_cases c1 : s0 = 0
  · by_cases c2 : (M.1 4 5) = 0
    · exact ⟨7, ⟨fun _ => ⟨rfl, ⟨rfl, ⟨fun q => absurd c2 q, fun _ => ⟨trivial, h1 c1 c2⟩⟩⟩⟩, fun q => absurd c1 q⟩⟩
    · obtain ⟨n, h⟩ := px_T_cl (k := 141) (pc := 37) (y := 163) (st := [.ref 0]) rfl (h2 c1 c2)
      exact ⟨n + 14, ⟨fun _ => ⟨rfl, ⟨rfl, ⟨fun _ => ⟨rfl, ⟨rfl, ⟨rfl, ⟨rfl, h⟩⟩⟩⟩, fun q => absurd q c2⟩⟩⟩, fun q => absurd c1 q⟩⟩
  · exact ⟨3, ⟨fun q => absurd q c1, fun _ => ⟨trivial, h3 c1⟩⟩⟩
theorem sg_141_40 {M : px_Mem} {Q : px_Po} (h1 : Q (some (.int (M.1 4 5))) M) : px_T 0 141 40 [some (.ref 0)] [] M Q := by
  exact ⟨4, ⟨rfl, ⟨rfl, ⟨trivial, h1⟩⟩⟩⟩
theorem sg_142_0 {M : px_Mem} {Q : px_Po} (h1 : px_T 0 151 0 [some (.ref 0)] [] M (fun r M1 => px_T 0 142 4 [some (.ref 0), none] (r.toList ++ []) M1 Q)) : px_T 0 142 0 [some (.ref 0), none] [] M Q := by
  obtain ⟨n, h⟩ := px_T_cl (k := 142) (pc := 1) (y := 151) (st := [.ref 0]) rfl (h1)
  exact ⟨n + 2, ⟨rfl, h⟩⟩
theorem sg_142_4 {d1 : Option Value} {s0 : Int32} {M : px_Mem} {Q : px_Po} (h1 : (s0 = 0) → px_T 0 163 0 [some (.ref 0)] [] (px_wI M 4 5 0) (fun r M1 => px_T 0 142 30 [some (.ref 0), some (.int (M.1 4 5))] (r.toList ++ []) M1 Q)) (h2 : (¬ (s0 = 0)) → Q (some (.int (-2))) M) : px_T 0 142 4 [some (.ref 0), d1] [.int s0] M Q := by
  by_cases c1 : s0 = 0
  · obtain ⟨n, h⟩ := px_T_cl (k := 142) (pc := 27) (y := 163) (st := [.ref 0]) rfl (h1 c1)
    exact ⟨n + 11, ⟨fun _ => ⟨rfl, ⟨rfl, ⟨rfl, ⟨rfl, ⟨rfl, h⟩⟩⟩⟩⟩, fun q => absurd c1 q⟩⟩
  · exact ⟨3, ⟨fun q => absurd q c1, fun _ => ⟨trivial, h2 c1⟩⟩⟩
theorem sg_142_30 {d0 : Option Value} {x1 : Int32} {M : px_Mem} {Q : px_Po} (h1 : Q (some (.int x1)) M) : px_T 0 142 30 [d0, some (.int x1)] [] M Q := by
  exact ⟨2, ⟨trivial, h1⟩⟩
theorem sg_143_0 {x1 : Int32} {x2 : Int32} {M : px_Mem} {Q : px_Po} (h1 : px_T 0 157 0 [some (.int x1)] [] M (fun r M1 => px_T 0 143 4 [some (.ref 0), some (.int x1), some (.int x2), none] (r.toList ++ []) M1 Q)) : px_T 0 143 0 [some (.ref 0), some (.int x1), some (.int x2), none] [] M Q := by
  obtain ⟨n, h⟩ := px_T_cl (k := 143) (pc := 1) (y := 157) (st := [.int x1]) rfl (h1)
  exact ⟨n + 2, h⟩
theorem sg_143_4 {x1 : Int32} {x2 : Int32} {d3 : Option Value} {s0 : Int32} {M : px_Mem} {Q : px_Po} (h1 : (s0 = 0) → (x2 < 0) → Q (some (.int (-2))) M) (h2 : (s0 = 0) → (¬ (x2 < 0)) → ((1 : Int32) < x2) → Q (some (.int (-2))) M) (h3 : (s0 = 0) → (¬ (x2 < 0)) → (¬ ((1 : Int32) < x2)) → px_T 0 151 0 [some (.ref 0)] [] M (fun r M1 => px_T 0 143 20 [some (.ref 0), some (.int x1), some (.int x2), d3] (r.toList ++ []) M1 Q)) (h4 : (¬ (s0 = 0)) → Q (some (.int (-2))) M) : px_T 0 143 4 [some (.ref 0), some (.int x1), some (.int x2), d3] [.int s0] M Q := by
  by_cases c1 : s0 = 0
  · by_cases c2 : x2 < 0
    · exact ⟨5, ⟨fun q => absurd c1 q, fun _ => ⟨fun _ => ⟨trivial, h1 c1 c2⟩, fun q => absurd c2 q⟩⟩⟩
    · by_cases c3 : (1 : Int32) < x2
      · exact ⟨8, ⟨fun q => absurd c1 q, fun _ => ⟨fun q => absurd q c2, fun _ => ⟨fun _ => ⟨trivial, h2 c1 c2 c3⟩, fun q => absurd c3 q⟩⟩⟩⟩
      · obtain ⟨n, h⟩ := px_T_cl (k := 143) (pc := 17) (y := 151) (st := [.ref 0]) rfl (h3 c1 c2 c3)
        exact ⟨n + 8, ⟨fun q => absurd c1 q, fun _ => ⟨fun q => absurd q c2, fun _ => ⟨fun q => absurd q c3, fun _ => ⟨rfl, h⟩⟩⟩⟩⟩
  · exact ⟨3, ⟨fun _ => ⟨trivial, h4 c1⟩, fun q => absurd q c1⟩⟩
theorem sg_143_20 {x1 : Int32} {x2 : Int32} {d3 : Option Value} {s0 : Int32} {M : px_Mem} {Q : px_Po} (h1 : (s0 = 0) → px_T 0 174 0 [some (.ref 0), some (.long x1.toInt64), none, none, none, none, none] [] M (fun r M1 => px_T 0 143 32 [some (.ref 0), some (.int x1), some (.int x2), d3] (r.toList ++ []) M1 Q)) (h2 : (¬ (s0 = 0)) → Q (some (.int (-2))) M) : px_T 0 143 20 [some (.ref 0), some (.int x1), some (.int x2), d3] [.int s0] M Q := by
  by_cases c1 : s0 = 0
  · obtain ⟨n, h⟩ := px_T_cl (k := 143) (pc := 29) (y := 174) (st := [.long x1.toInt64, .ref 0]) rfl (h1 c1)
    exact ⟨n + 5, ⟨fun _ => ⟨rfl, h⟩, fun q => absurd c1 q⟩⟩
  · exact ⟨3, ⟨fun q => absurd q c1, fun _ => ⟨trivial, h2 c1⟩⟩⟩
theorem sg_143_32 {d1 : Option Value} {x2 : Int32} {d3 : Option Value} {s0 : Int32} {M : px_Mem} {Q : px_Po} (h1 : (x2 = 0) → Q (some (.int s0)) M) (h2 : (¬ (x2 = 0)) → px_T 0 332 0 [some (.int (M.1 47 0))] [] M (fun r M1 => px_T 0 143 51 [some (.ref 0), d1, some (.int x2), some (.int s0)] (r.toList ++ []) M1 Q)) : px_T 0 143 32 [some (.ref 0), d1, some (.int x2), d3] [.int s0] M Q := by
  by_cases c1 : x2 = 0
  · exact ⟨6, ⟨fun q => absurd c1 q, fun _ => ⟨trivial, h1 c1⟩⟩⟩
  · obtain ⟨n, h⟩ := px_T_cl (k := 143) (pc := 48) (y := 332) (st := [.int (M.1 47 0)]) rfl (h2 c1)
    exact ⟨n + 7, ⟨fun _ => ⟨rfl, ⟨rfl, h⟩⟩, fun q => absurd q c1⟩⟩
theorem sg_143_51 {d0 : Option Value} {d1 : Option Value} {d2 : Option Value} {d3 : Option Value} {s0 : Int32} {M : px_Mem} {Q : px_Po} (h1 : Q (some (.int s0)) M) : px_T 0 143 51 [d0, d1, d2, d3] [.int s0] M Q := by
  exact ⟨1, ⟨trivial, h1⟩⟩
theorem sg_144_0 {x1 : Int32} {x2 : Int32} {x3 : Int32} {M : px_Mem} {Q : px_Po} (h1 : px_T 0 157 0 [some (.int x1)] [] M (fun r M1 => px_T 0 144 4 [some (.ref 0), some (.int x1), some (.int x2), some (.int x3), none, none] (r.toList ++ []) M1 Q)) : px_T 0 144 0 [some (.ref 0), some (.int x1), some (.int x2), some (.int x3), none, none] [] M Q := by
  obtain ⟨n, h⟩ := px_T_cl (k := 144) (pc := 1) (y := 157) (st := [.int x1]) rfl (h1)
  exact ⟨n + 2, h⟩
theorem sg_144_4 {x1 : Int32} {x2 : Int32} {x3 : Int32} {d4 : Option Value} {d5 : Option Value} {s0 : Int32} {M : px_Mem} {Q : px_Po} (h1 : (s0 = 0) → (x2 < 1) → Q (some (.int (-2))) M) (h2 : (s0 = 0) → (¬ (x2 < 1)) → ((20 : Int32) < x2) → Q (some (.int (-2))) M) (h3 : (s0 = 0) → (¬ (x2 < 1)) → (¬ ((20 : Int32) < x2)) → px_T 0 153 0 [some (.int x3)] [] M (fun r M1 => px_T 0 144 22 [some (.ref 0), some (.int x1), some (.int x2), some (.int x3), d4, d5] (r.toList ++ []) M1 Q)) (h4 : (¬ (s0 = 0)) → Q (some (.int (-2))) M) : px_T 0 144 4 [some (.ref 0), some (.int x1), some (.int x2), some (.int x3), d4, d5] [.int s0] M Q := by
  by_cases c1 : s0 = 0
  · by_cases c2 : x2 < 1
    · exact ⟨6, ⟨fun q => absurd c1 q, fun _ => ⟨fun _ => ⟨trivial, h1 c1 c2⟩, fun q => absurd c2 q⟩⟩⟩
    · by_cases c3 : (20 : Int32) < x2
      · exact ⟨9, ⟨fun q => absurd c1 q, fun _ => ⟨fun q => absurd q c2, fun _ => ⟨fun _ => ⟨trivial, h2 c1 c2 c3⟩, fun q => absurd c3 q⟩⟩⟩⟩
      · obtain ⟨n, h⟩ := px_T_cl (k := 144) (pc := 19) (y := 153) (st := [.int x3]) rfl (h3 c1 c2 c3)
        exact ⟨n + 9, ⟨fun q => absurd c1 q, fun _ => ⟨fun q => absurd q c2, fun _ => ⟨fun q => absurd q c3, fun _ => h⟩⟩⟩⟩
  · exact ⟨3, ⟨fun _ => ⟨trivial, h4 c1⟩, fun q => absurd q c1⟩⟩
theorem sg_144_22 {x1 : Int32} {x2 : Int32} {x3 : Int32} {d4 : Option Value} {d5 : Option Value} {s0 : Int32} {M : px_Mem} {Q : px_Po} (h1 : (s0 = 0) → px_T 0 151 0 [some (.ref 0)] [] M (fun r M1 => px_T 0 144 29 [some (.ref 0), some (.int x1), some (.int x2), some (.int x3), d4, d5] (r.toList ++ []) M1 Q)) (h2 : (¬ (s0 = 0)) → Q (some (.int (-2))) M) : px_T 0 144 22 [some (.ref 0), some (.int x1), some (.int x2), some (.int x3), d4, d5] [.int s0] M Q := by
  by_cases c1 : s0 = 0
  · obtain ⟨n, h⟩ := px_T_cl (k := 144) (pc := 26) (y := 151) (st := [.ref 0]) rfl (h1 c1)
    exact ⟨n + 3, ⟨fun q => absurd c1 q, fun _ => ⟨rfl, h⟩⟩⟩
  · exact ⟨3, ⟨fun _ => ⟨trivial, h2 c1⟩, fun q => absurd q c1⟩⟩
theorem sg_144_29 {x1 : Int32} {x2 : Int32} {x3 : Int32} {d4 : Option Value} {d5 : Option Value} {s0 : Int32} {M : px_Mem} {Q : px_Po} (h1 : (s0 = 0) → px_T 0 144 41 [some (.ref 0), some (.int x1), some (.int x2), some (.int x3), some (.int 0), some (.int 0)] [] M Q) (h2 : (¬ (s0 = 0)) → Q (some (.int (-2))) M) : px_T 0 144 29 [some (.ref 0), some (.int x1), some (.int x2), some (.int x3), d4, d5] [.int s0] M Q := by
  by_cases c1 : s0 = 0
  · obtain ⟨n, h⟩ := h1 c1
    exact ⟨n + 5, ⟨fun _ => h, fun q => absurd c1 q⟩⟩
  · exact ⟨3, ⟨fun q => absurd q c1, fun _ => ⟨trivial, h2 c1⟩⟩⟩
theorem sg_144_41 {x1 : Int32} {x2 : Int32} {x3 : Int32} {x4 : Int32} {x5 : Int32} {M : px_Mem} {Q : px_Po} (h1 : (x2 ≤ x5) → Q (some (.int x4)) M) (h2 : (¬ (x2 ≤ x5)) → px_T 0 174 0 [some (.ref 0), some (.long (x1.toInt64 + x5.toInt64)), none, none, none, none, none] [] M (fun r M1 => px_T 0 144 57 [some (.ref 0), some (.int x1), some (.int x2), some (.int x3), some (.int x4), some (.int x5)] (r.toList ++ []) M1 Q)) : px_T 0 144 41 [some (.ref 0), some (.int x1), some (.int x2), some (.int x3), some (.int x4), some (.int x5)] [] M Q := by
  by_cases c1 : x2 ≤ x5
  · exact ⟨5, ⟨fun _ => ⟨trivial, h1 c1⟩, fun q => absurd c1 q⟩⟩
  · obtain ⟨n, h⟩ := px_T_cl (k := 144) (pc := 54) (y := 174) (st := [.long (x1.toInt64 + x5.toInt64), .ref 0]) rfl (h2 c1)
    exact ⟨n + 10, ⟨fun q => absurd q c1, fun _ => ⟨rfl, h⟩⟩⟩
theorem sg_144_57 {x1 : Int32} {x2 : Int32} {x3 : Int32} {x4 : Int32} {x5 : Int32} {s0 : Int32} {M : px_Mem} {Q : px_Po} (h1 : px_T 0 63 0 [some (.ref 47), some (.int x3)] [] M (fun r M1 => px_T 0 144 66 [some (.ref 0), some (.int x1), some (.int x2), some (.int x3), some (.int x4), some (.int x5)] (r.toList ++ []) M1 Q)) : px_T 0 144 57 [some (.ref 0), some (.int x1), some (.int x2), some (.int x3), some (.int x4), some (.int x5)] [.int s0] M Q := by
  obtain ⟨n, h⟩ := px_T_cl (k := 144) (pc := 63) (y := 63) (st := [.int x3, .ref 47]) rfl (h1)
  exact ⟨n + 5, ⟨rfl, ⟨rfl, h⟩⟩⟩
theorem sg_144_66 {x1 : Int32} {x2 : Int32} {x3 : Int32} {x4 : Int32} {x5 : Int32} {s0 : Int32} {M : px_Mem} {Q : px_Po} (h1 : (s0 = 0) → px_T 0 144 41 [some (.ref 0), some (.int x1), some (.int x2), some (.int x3), some (.int x4), some (.int (x5 + 1))] [] M Q) (h2 : (¬ (s0 = 0)) → px_T 0 144 41 [some (.ref 0), some (.int x1), some (.int x2), some (.int x3), some (.int (x4 + 1)), some (.int (x5 + 1))] [] M Q) : px_T 0 144 66 [some (.ref 0), some (.int x1), some (.int x2), some (.int x3), some (.int x4), some (.int x5)] [.int s0] M Q := by
  by_cases c1 : s0 = 0
  · obtain ⟨n, h⟩ := h1 c1
    exact ⟨n + 3, ⟨fun _ => h, fun q => absurd c1 q⟩⟩
  · obtain ⟨n, h⟩ := h2 c1
    exact ⟨n + 4, ⟨fun q => absurd q c1, fun _ => h⟩⟩
theorem sg_145_0 {x1 : Int32} {M : px_Mem} {Q : px_Po} (h1 : px_T 0 145 1 [some (.ref 0), some (.int x1)] [.int x1] M Q) : px_T 0 145 0 [some (.ref 0), some (.int x1)] [] M Q := by
  obtain ⟨n, h⟩ := h1
  exact ⟨n + 1, h⟩
theorem sg_145_1 {d1 : Option Value} {s0 : Int32} {M : px_Mem} {Q : px_Po} (h1 : (s0 = 0) → px_T 0 145 44 [some (.ref 0), d1] [] M Q) (h2 : (s0 = 1) → px_T 0 145 52 [some (.ref 0), d1] [] M Q) (h3 : (s0 = 2) → px_T 0 145 60 [some (.ref 0), d1] [] M Q) (h4 : (s0 = 3) → px_T 0 145 68 [some (.ref 0), d1] [] M Q) (h5 : (s0 = 4) → px_T 0 145 76 [some (.ref 0), d1] [] M Q) (h6 : (s0 = 5) → px_T 0 145 84 [some (.ref 0), d1] [] M Q) (h7 : (s0 = 6) → px_T 0 145 92 [some (.ref 0), d1] [] M Q) (h8 : (¬ s0 = 0) → (¬ s0 = 1) → (¬ s0 = 2) → (¬ s0 = 3) → (¬ s0 = 4) → (¬ s0 = 5) → (¬ s0 = 6) → px_T 0 145 97 [some (.ref 0), d1] [] M Q) : px_T 0 145 1 [some (.ref 0), d1] [.int s0] M Q := by
  by_cases c1 : s0 = 0
  · exact px_T_sw rfl (by rw [c1]; rfl) (h1 c1)
  by_cases c2 : s0 = 1
  · exact px_T_sw rfl (by rw [c2]; rfl) (h2 c2)
  by_cases c3 : s0 = 2
  · exact px_T_sw rfl (by rw [c3]; rfl) (h3 c3)
  by_cases c4 : s0 = 3
  · exact px_T_sw rfl (by rw [c4]; rfl) (h4 c4)
  by_cases c5 : s0 = 4
  · exact px_T_sw rfl (by rw [c5]; rfl) (h5 c5)
  by_cases c6 : s0 = 5
  · exact px_T_sw rfl (by rw [c6]; rfl) (h6 c6)
  by_cases c7 : s0 = 6
  · exact px_T_sw rfl (by rw [c7]; rfl) (h7 c7)
  exact px_T_sw rfl (px_sw_o (N := 7) (by decide) (fun v hv => match v, hv with | 0, _ => c1 | 1, _ => c2 | 2, _ => c3 | 3, _ => c4 | 4, _ => c5 | 5, _ => c6 | 6, _ => c7 | n + 7, h => absurd h (by omega))) (h8 c1 c2 c3 c4 c5 c6 c7)
