theorem sg_86_0 {x1 : Int32} {x2 : Int32} {x3 : Int32} {x4 : Int32} {x5 : Int32} {M : px_Mem} {Q : px_Po} (h1 : (((M.1 1 1) + 20) ≤ 900) → px_T 0 58 0 [some (.ref 1), some (.int x1), none] [] M (fun r M1 => px_T 0 86 26 [some (.ref 0), some (.int x1), some (.int x2), some (.int x3), some (.int x4), some (.int x5)] (r.toList ++ []) M1 Q)) (h2 : (¬ (((M.1 1 1) + 20) ≤ 900)) → Q (some (.int (-1))) M) : px_T 0 86 0 [some (.ref 0), some (.int x1), some (.int x2), some (.int x3), some (.int x4), some (.int x5)] [] M Q := by
  by_cases c1 : ((M.1 1 1) + 20) ≤ 900
  · obtain ⟨n, h⟩ := px_T_cl (k := 86) (pc := 23) (y := 58) (st := [.int x1, .ref 1]) rfl (h1 c1)
    exact ⟨n + 11, ⟨rfl, ⟨rfl, ⟨fun _ => ⟨rfl, ⟨rfl, h⟩⟩, fun q => absurd c1 q⟩⟩⟩⟩
  · exact ⟨9, ⟨rfl, ⟨rfl, ⟨fun q => absurd q c1, fun _ => ⟨trivial, h2 c1⟩⟩⟩⟩⟩
theorem sg_86_26 {d1 : Option Value} {x2 : Int32} {x3 : Int32} {x4 : Int32} {x5 : Int32} {M : px_Mem} {Q : px_Po} (h1 : px_T 0 58 0 [some (.ref 1), some (.int x2), none] [] M (fun r M1 => px_T 0 86 34 [some (.ref 0), d1, some (.int x2), some (.int x3), some (.int x4), some (.int x5)] (r.toList ++ []) M1 Q)) : px_T 0 86 26 [some (.ref 0), d1, some (.int x2), some (.int x3), some (.int x4), some (.int x5)] [] M Q := by
  obtain ⟨n, h⟩ := px_T_cl (k := 86) (pc := 31) (y := 58) (st := [.int x2, .ref 1]) rfl (h1)
  exact ⟨n + 4, ⟨rfl, ⟨rfl, h⟩⟩⟩
theorem sg_86_34 {d1 : Option Value} {d2 : Option Value} {x3 : Int32} {x4 : Int32} {x5 : Int32} {M : px_Mem} {Q : px_Po} (h1 : px_T 0 58 0 [some (.ref 1), some (.int x3), none] [] M (fun r M1 => px_T 0 86 42 [some (.ref 0), d1, d2, some (.int x3), some (.int x4), some (.int x5)] (r.toList ++ []) M1 Q)) : px_T 0 86 34 [some (.ref 0), d1, d2, some (.int x3), some (.int x4), some (.int x5)] [] M Q := by
  obtain ⟨n, h⟩ := px_T_cl (k := 86) (pc := 39) (y := 58) (st := [.int x3, .ref 1]) rfl (h1)
  exact ⟨n + 4, ⟨rfl, ⟨rfl, h⟩⟩⟩
theorem sg_86_42 {d1 : Option Value} {d2 : Option Value} {d3 : Option Value} {x4 : Int32} {x5 : Int32} {M : px_Mem} {Q : px_Po} (h1 : px_T 0 58 0 [some (.ref 1), some (.int x4), none] [] M (fun r M1 => px_T 0 86 51 [some (.ref 0), d1, d2, d3, some (.int x4), some (.int x5)] (r.toList ++ []) M1 Q)) : px_T 0 86 42 [some (.ref 0), d1, d2, d3, some (.int x4), some (.int x5)] [] M Q := by
  obtain ⟨n, h⟩ := px_T_cl (k := 86) (pc := 48) (y := 58) (st := [.int x4, .ref 1]) rfl (h1)
  exact ⟨n + 4, ⟨rfl, ⟨rfl, h⟩⟩⟩
theorem sg_86_51 {d1 : Option Value} {d2 : Option Value} {d3 : Option Value} {d4 : Option Value} {x5 : Int32} {M : px_Mem} {Q : px_Po} (h1 : px_T 0 58 0 [some (.ref 1), some (.int x5), none] [] M (fun r M1 => px_T 0 86 60 [some (.ref 0), d1, d2, d3, d4, some (.int x5)] (r.toList ++ []) M1 Q)) : px_T 0 86 51 [some (.ref 0), d1, d2, d3, d4, some (.int x5)] [] M Q := by
  obtain ⟨n, h⟩ := px_T_cl (k := 86) (pc := 57) (y := 58) (st := [.int x5, .ref 1]) rfl (h1)
  exact ⟨n + 4, ⟨rfl, ⟨rfl, h⟩⟩⟩
theorem sg_86_60 {d1 : Option Value} {d2 : Option Value} {d3 : Option Value} {d4 : Option Value} {d5 : Option Value} {M : px_Mem} {Q : px_Po} (h1 : Q (some (.int (M.1 1 1))) M) : px_T 0 86 60 [some (.ref 0), d1, d2, d3, d4, d5] [] M Q := by
  exact ⟨4, ⟨rfl, ⟨rfl, ⟨trivial, h1⟩⟩⟩⟩
theorem sg_87_0 {x1 : Int32} {M : px_Mem} {Q : px_Po} (h1 : (x1 < 0) → Q (some (.int (-1))) M) (h2 : (¬ (x1 < 0)) → (x1 ≤ (M.1 1 1)) → Q (some (.int x1)) (px_wI M 1 1 x1)) (h3 : (¬ (x1 < 0)) → (¬ (x1 ≤ (M.1 1 1))) → Q (some (.int (-1))) M) : px_T 0 87 0 [some (.ref 0), some (.int x1)] [] M Q := by
  by_cases c1 : x1 < 0
  · exact ⟨4, ⟨fun _ => ⟨trivial, h1 c1⟩, fun q => absurd c1 q⟩⟩
  · by_cases c2 : x1 ≤ (M.1 1 1)
    · exact ⟨13, ⟨fun q => absurd q c1, fun _ => ⟨rfl, ⟨rfl, ⟨fun _ => ⟨rfl, ⟨rfl, ⟨trivial, h2 c1 c2⟩⟩⟩, fun q => absurd c2 q⟩⟩⟩⟩⟩
    · exact ⟨9, ⟨fun q => absurd q c1, fun _ => ⟨rfl, ⟨rfl, ⟨fun q => absurd q c2, fun _ => ⟨trivial, h3 c1 c2⟩⟩⟩⟩⟩⟩
theorem sg_88_0 {M : px_Mem} {Q : px_Po} (h1 : px_T 0 21 0 [some (.ref 3), some (.ref 6), none] [] M (fun r M1 => px_T 0 88 11 [some (.ref 0)] (r.toList ++ []) M1 Q)) : px_T 0 88 0 [some (.ref 0)] [] M Q := by
  obtain ⟨n, h⟩ := px_T_cl (k := 88) (pc := 8) (y := 21) (st := [.ref 6, .ref 3]) rfl (h1)
  exact ⟨n + 5, ⟨rfl, ⟨rfl, ⟨rfl, h⟩⟩⟩⟩
theorem sg_88_11 {M : px_Mem} {Q : px_Po} (h1 : ((M.1 3 1) = 0) → px_T 0 57 0 [some (.ref 4), some (.ref 6)] [] (px_wI M 1 1 0) (fun r M1 => px_T 0 88 43 [some (.ref 0)] (r.toList ++ []) M1 Q)) (h2 : (¬ ((M.1 3 1) = 0)) → Q (some (.int (-4))) (px_wI M 1 1 0)) : px_T 0 88 11 [some (.ref 0)] [] M Q := by
  by_cases c1 : (M.1 3 1) = 0
  · obtain ⟨n, h⟩ := px_T_cl (k := 88) (pc := 40) (y := 57) (st := [.ref 6, .ref 4]) rfl (h1 c1)
    exact ⟨n + 13, ⟨rfl, ⟨rfl, ⟨rfl, ⟨rfl, ⟨fun _ => ⟨rfl, ⟨rfl, ⟨rfl, h⟩⟩⟩, fun q => absurd c1 q⟩⟩⟩⟩⟩⟩
  · exact ⟨10, ⟨rfl, ⟨rfl, ⟨rfl, ⟨rfl, ⟨fun q => absurd q c1, fun _ => ⟨trivial, h2 c1⟩⟩⟩⟩⟩⟩⟩
theorem sg_88_43 {M : px_Mem} {Q : px_Po} (h1 : px_T 0 163 0 [some (.ref 0)] [] M (fun r M1 => px_T 0 88 47 [some (.ref 0)] (r.toList ++ []) M1 Q)) : px_T 0 88 43 [some (.ref 0)] [] M Q := by
  obtain ⟨n, h⟩ := px_T_cl (k := 88) (pc := 44) (y := 163) (st := [.ref 0]) rfl (h1)
  exact ⟨n + 2, ⟨rfl, h⟩⟩
theorem sg_88_47 {M : px_Mem} {Q : px_Po} (h1 : Q (some (.int (M.1 4 1))) M) : px_T 0 88 47 [some (.ref 0)] [] M Q := by
  exact ⟨4, ⟨rfl, ⟨rfl, ⟨trivial, h1⟩⟩⟩⟩
theorem sg_89_0 {x1 : Int32} {M : px_Mem} {Q : px_Po} (h1 : (x1 = 0) → Q (some (.int (M.1 3 1))) M) (h2 : (¬ (x1 = 0)) → (x1 = 1) → Q (some (.int (M.1 3 2))) M) (h3 : (¬ (x1 = 0)) → (¬ (x1 = 1)) → Q (some (.int (-1))) M) : px_T 0 89 0 [some (.ref 0), some (.int x1)] [] M Q := by
  by_cases c1 : x1 = 0
  · exact ⟨6, ⟨fun q => absurd c1 q, fun _ => ⟨rfl, ⟨rfl, ⟨trivial, h1 c1⟩⟩⟩⟩⟩
  · by_cases c2 : x1 = 1
    · exact ⟨10, ⟨fun _ => ⟨fun q => absurd c2 q, fun _ => ⟨rfl, ⟨rfl, ⟨trivial, h2 c1 c2⟩⟩⟩⟩, fun q => absurd q c1⟩⟩
    · exact ⟨7, ⟨fun _ => ⟨fun _ => ⟨trivial, h3 c1 c2⟩, fun q => absurd q c2⟩, fun q => absurd q c1⟩⟩
theorem sg_90_0 {x1 : Int32} {x2 : Int32} {M : px_Mem} {Q : px_Po} (h1 : (x1 < 0) → Q (some (.int (-2))) M) (h2 : (¬ (x1 < 0)) → px_T 0 53 0 [some (.ref 4)] [] M (fun r M1 => px_T 0 90 12 [some (.ref 0), some (.int x1), some (.int x2), none, none] (r.toList ++ [.int x1]) M1 Q)) : px_T 0 90 0 [some (.ref 0), some (.int x1), some (.int x2), none, none] [] M Q := by
  by_cases c1 : x1 < 0
  · exact ⟨4, ⟨fun _ => ⟨trivial, h1 c1⟩, fun q => absurd c1 q⟩⟩
  · obtain ⟨n, h⟩ := px_T_cl (k := 90) (pc := 9) (y := 53) (st := [.ref 4, .int x1]) rfl (h2 c1)
    exact ⟨n + 6, ⟨fun q => absurd q c1, fun _ => ⟨rfl, ⟨rfl, h⟩⟩⟩⟩
theorem sg_90_12 {x1 : Int32} {x2 : Int32} {d3 : Option Value} {d4 : Option Value} {s0 : Int32} {s1 : Int32} {M : px_Mem} {Q : px_Po} (h1 : (s0 ≤ s1) → Q (some (.int (-2))) M) (h2 : (¬ (s0 ≤ s1)) → (x2 < 0) → Q (some (.int (-2))) M) (h3 : (¬ (s0 ≤ s1)) → (¬ (x2 < 0)) → (x2 ≤ 3) → px_T 0 54 0 [some (.ref 4), some (.int x1)] [] M (fun r M1 => px_T 0 90 35 [some (.ref 0), some (.int x1), some (.int x2), d3, d4] (r.toList ++ []) M1 Q)) (h4 : (¬ (s0 ≤ s1)) → (¬ (x2 < 0)) → (¬ (x2 ≤ 3)) → Q (some (.int (-2))) M) : px_T 0 90 12 [some (.ref 0), some (.int x1), some (.int x2), d3, d4] [.int s0, .int s1] M Q := by
  by_cases c1 : s0 ≤ s1
  · exact ⟨3, ⟨fun _ => ⟨trivial, h1 c1⟩, fun q => absurd c1 q⟩⟩
  · by_cases c2 : x2 < 0
    · exact ⟨5, ⟨fun q => absurd q c1, fun _ => ⟨fun _ => ⟨trivial, h2 c1 c2⟩, fun q => absurd c2 q⟩⟩⟩
    · by_cases c3 : x2 ≤ 3
      · obtain ⟨n, h⟩ := px_T_cl (k := 90) (pc := 32) (y := 54) (st := [.int x1, .ref 4]) rfl (h3 c1 c2 c3)
        exact ⟨n + 10, ⟨fun q => absurd q c1, fun _ => ⟨fun q => absurd q c2, fun _ => ⟨fun _ => ⟨rfl, ⟨rfl, h⟩⟩, fun q => absurd c3 q⟩⟩⟩⟩
      · exact ⟨8, ⟨fun q => absurd q c1, fun _ => ⟨fun q => absurd q c2, fun _ => ⟨fun q => absurd q c3, fun _ => ⟨trivial, h4 c1 c2 c3⟩⟩⟩⟩⟩
theorem sg_90_35 {d0 : Option Value} {d1 : Option Value} {x2 : Int32} {d3 : Option Value} {d4 : Option Value} {s0 : Int32} {M : px_Mem} {Q : px_Po} (h1 : px_T 0 2 0 [some (.int s0)] [] M (fun r M1 => px_T 0 90 40 [d0, d1, some (.int x2), some (.int s0), d4] (r.toList ++ []) M1 Q)) : px_T 0 90 35 [d0, d1, some (.int x2), d3, d4] [.int s0] M Q := by
  obtain ⟨n, h⟩ := px_T_cl (k := 90) (pc := 37) (y := 2) (st := [.int s0]) rfl (h1)
  exact ⟨n + 3, h⟩
theorem sg_90_40 {d0 : Option Value} {d1 : Option Value} {x2 : Int32} {x3 : Int32} {d4 : Option Value} {s0 : Int32} {M : px_Mem} {Q : px_Po} (h1 : (x2 = 0) → Q (some (.int s0)) M) (h2 : (¬ (x2 = 0)) → px_T 0 4 0 [some (.int s0)] [] M (fun r M1 => px_T 0 90 55 [d0, d1, some (.int x2), some (.int x3), some (.int s0)] (r.toList ++ [.int x2]) M1 Q)) : px_T 0 90 40 [d0, d1, some (.int x2), some (.int x3), d4] [.int s0] M Q := by
  by_cases c1 : x2 = 0
  · exact ⟨5, ⟨fun q => absurd c1 q, fun _ => ⟨trivial, h1 c1⟩⟩⟩
  · obtain ⟨n, h⟩ := px_T_cl (k := 90) (pc := 52) (y := 4) (st := [.int s0, .int x2]) rfl (h2 c1)
    exact ⟨n + 6, ⟨fun _ => h, fun q => absurd q c1⟩⟩
theorem sg_90_55 {d0 : Option Value} {d1 : Option Value} {x2 : Int32} {x3 : Int32} {d4 : Option Value} {s0 : Int32} {s1 : Int32} {M : px_Mem} {Q : px_Po} (h1 : (s1 ≤ s0) → px_T 0 3 0 [some (.int x3), some (.int x2)] [] M (fun r M1 => px_T 0 90 67 [d0, d1, some (.int x2), some (.int x3), d4] (r.toList ++ []) M1 Q)) (h2 : (¬ (s1 ≤ s0)) → Q (some (.int (-1))) M) : px_T 0 90 55 [d0, d1, some (.int x2), some (.int x3), d4] [.int s0, .int s1] M Q := by
  by_cases c1 : s1 ≤ s0
  · obtain ⟨n, h⟩ := px_T_cl (k := 90) (pc := 64) (y := 3) (st := [.int x2, .int x3]) rfl (h1 c1)
    exact ⟨n + 4, ⟨fun _ => h, fun q => absurd c1 q⟩⟩
  · exact ⟨4, ⟨fun q => absurd q c1, fun _ => ⟨trivial, h2 c1⟩⟩⟩
theorem sg_90_67 {d0 : Option Value} {d1 : Option Value} {d2 : Option Value} {d3 : Option Value} {d4 : Option Value} {s0 : Int32} {M : px_Mem} {Q : px_Po} (h1 : Q (some (.int s0)) M) : px_T 0 90 67 [d0, d1, d2, d3, d4] [.int s0] M Q := by
  exact ⟨1, ⟨trivial, h1⟩⟩
theorem sg_91_0 {x1 : Int32} {M : px_Mem} {Q : px_Po} (h1 : (x1 < 0) → Q (some (.int (-2))) M) (h2 : (¬ (x1 < 0)) → px_T 0 53 0 [some (.ref 4)] [] M (fun r M1 => px_T 0 91 12 [some (.ref 0), some (.int x1)] (r.toList ++ [.int x1]) M1 Q)) : px_T 0 91 0 [some (.ref 0), some (.int x1)] [] M Q := by
  by_cases c1 : x1 < 0
  · exact ⟨4, ⟨fun _ => ⟨trivial, h1 c1⟩, fun q => absurd c1 q⟩⟩
  · obtain ⟨n, h⟩ := px_T_cl (k := 91) (pc := 9) (y := 53) (st := [.ref 4, .int x1]) rfl (h2 c1)
    exact ⟨n + 6, ⟨fun q => absurd q c1, fun _ => ⟨rfl, ⟨rfl, h⟩⟩⟩⟩
theorem sg_91_12 {x1 : Int32} {s0 : Int32} {s1 : Int32} {M : px_Mem} {Q : px_Po} (h1 : (s1 < s0) → px_T 0 12 0 [some (.ref 28), some (.int x1)] [] M (fun r M1 => px_T 0 91 26 [some (.ref 0), some (.int x1)] (r.toList ++ []) M1 Q)) (h2 : (¬ (s1 < s0)) → Q (some (.int (-2))) M) : px_T 0 91 12 [some (.ref 0), some (.int x1)] [.int s0, .int s1] M Q := by
  by_cases c1 : s1 < s0
  · obtain ⟨n, h⟩ := px_T_cl (k := 91) (pc := 23) (y := 12) (st := [.int x1, .ref 28]) rfl (h1 c1)
    exact ⟨n + 5, ⟨fun _ => ⟨rfl, ⟨rfl, h⟩⟩, fun q => absurd c1 q⟩⟩
  · exact ⟨3, ⟨fun q => absurd q c1, fun _ => ⟨trivial, h2 c1⟩⟩⟩
theorem sg_91_26 {d0 : Option Value} {d1 : Option Value} {s0 : Int32} {M : px_Mem} {Q : px_Po} (h1 : Q (some (.int s0)) M) : px_T 0 91 26 [d0, d1] [.int s0] M Q := by
  exact ⟨1, ⟨trivial, h1⟩⟩
theorem sg_92_0 {x1 : Int32} {M : px_Mem} {Q : px_Po} (h1 : px_T 0 152 0 [some (.ref 0), some (.int x1)] [] M (fun r M1 => px_T 0 92 5 [some (.ref 0), some (.int x1)] (r.toList ++ []) M1 Q)) : px_T 0 92 0 [some (.ref 0), some (.int x1)] [] M Q := by
  obtain ⟨n, h⟩ := px_T_cl (k := 92) (pc := 2) (y := 152) (st := [.int x1, .ref 0]) rfl (h1)
  exact ⟨n + 3, ⟨rfl, h⟩⟩
theorem sg_92_5 {x1 : Int32} {s0 : Int32} {M : px_Mem} {Q : px_Po} (h1 : (s0 = 0) → px_T 0 13 0 [some (.ref 28), some (.int x1), none, none] [] M (fun r M1 => px_T 0 92 21 [some (.ref 0), some (.int x1)] (r.toList ++ []) M1 Q)) (h2 : (¬ (s0 = 0)) → Q (some (.int (-2))) M) : px_T 0 92 5 [some (.ref 0), some (.int x1)] [.int s0] M Q := by
  by_cases c1 : s0 = 0
  · obtain ⟨n, h⟩ := px_T_cl (k := 92) (pc := 18) (y := 13) (st := [.int x1, .ref 28]) rfl (h1 c1)
    exact ⟨n + 5, ⟨fun _ => ⟨rfl, ⟨rfl, h⟩⟩, fun q => absurd c1 q⟩⟩
  · exact ⟨4, ⟨fun q => absurd q c1, fun _ => ⟨trivial, h2 c1⟩⟩⟩
theorem sg_92_21 {d0 : Option Value} {d1 : Option Value} {s0 : Int32} {M : px_Mem} {Q : px_Po} (h1 : Q (some (.int s0)) M) : px_T 0 92 21 [d0, d1] [.int s0] M Q := by
  exact ⟨1, ⟨trivial, h1⟩⟩
theorem sg_93_0 {x1 : Int32} {M : px_Mem} {Q : px_Po} (h1 : px_T 0 152 0 [some (.ref 0), some (.int x1)] [] M (fun r M1 => px_T 0 93 5 [some (.ref 0), some (.int x1)] (r.toList ++ []) M1 Q)) : px_T 0 93 0 [some (.ref 0), some (.int x1)] [] M Q := by
  obtain ⟨n, h⟩ := px_T_cl (k := 93) (pc := 2) (y := 152) (st := [.int x1, .ref 0]) rfl (h1)
  exact ⟨n + 3, ⟨rfl, h⟩⟩
theorem sg_93_5 {x1 : Int32} {s0 : Int32} {M : px_Mem} {Q : px_Po} (h1 : (s0 = 0) → px_T 0 11 0 [some (.ref 28), some (.int x1)] [] M (fun r M1 => px_T 0 93 21 [some (.ref 0), some (.int x1)] (r.toList ++ []) M1 Q)) (h2 : (¬ (s0 = 0)) → Q (some (.int (-2))) M) : px_T 0 93 5 [some (.ref 0), some (.int x1)] [.int s0] M Q := by
  by_cases c1 : s0 = 0
  · obtain ⟨n, h⟩ := px_T_cl (k := 93) (pc := 18) (y := 11) (st := [.int x1, .ref 28]) rfl (h1 c1)
    exact ⟨n + 5, ⟨fun _ => ⟨rfl, ⟨rfl, h⟩⟩, fun q => absurd c1 q⟩⟩
  · exact ⟨4, ⟨fun q => absurd q c1, fun _ => ⟨trivial, h2 c1⟩⟩⟩
theorem sg_93_21 {d0 : Option Value} {d1 : Option Value} {s0 : Nat} {M : px_Mem} {Q : px_Po} (h_s0 : px_isW s0) (h1 : Q (some (.int (M.1 s0 0))) M) : px_T 0 93 21 [d0, d1] [.ref s0] M Q := by
  rcases h_s0 with rfl | rfl
  all_goals
    exact ⟨2, ⟨rfl, ⟨trivial, h1⟩⟩⟩
theorem sg_94_0 {x1 : Int32} {x2 : Int32} {M : px_Mem} {Q : px_Po} (h1 : px_T 0 153 0 [some (.int x1)] [] M (fun r M1 => px_T 0 94 4 [some (.ref 0), some (.int x1), some (.int x2)] (r.toList ++ []) M1 Q)) : px_T 0 94 0 [some (.ref 0), some (.int x1), some (.int x2)] [] M Q := by
  obtain ⟨n, h⟩ := px_T_cl (k := 94) (pc := 1) (y := 153) (st := [.int x1]) rfl (h1)
  exact ⟨n + 2, h⟩
theorem sg_94_4 {x1 : Int32} {x2 : Int32} {s0 : Int32} {M : px_Mem} {Q : px_Po} (h1 : (s0 = 0) → px_T 0 152 0 [some (.ref 0), some (.int x2)] [] M (fun r M1 => px_T 0 94 12 [some (.ref 0), some (.int x1), some (.int x2)] (r.toList ++ []) M1 Q)) (h2 : (¬ (s0 = 0)) → Q (some (.int (-2))) M) : px_T 0 94 4 [some (.ref 0), some (.int x1), some (.int x2)] [.int s0] M Q := by
  by_cases c1 : s0 = 0
  · obtain ⟨n, h⟩ := px_T_cl (k := 94) (pc := 9) (y := 152) (st := [.int x2, .ref 0]) rfl (h1 c1)
    exact ⟨n + 4, ⟨fun q => absurd c1 q, fun _ => ⟨rfl, h⟩⟩⟩
  · exact ⟨3, ⟨fun _ => ⟨trivial, h2 c1⟩, fun q => absurd q c1⟩⟩
theorem sg_94_12 {x1 : Int32} {x2 : Int32} {s0 : Int32} {M : px_Mem} {Q : px_Po} (h1 : (s0 = 0) → px_T 0 11 0 [some (.ref 28), some (.int x2)] [] M (fun r M1 => px_T 0 94 26 [some (.ref 0), some (.int x1), some (.int x2)] (r.toList ++ []) M1 Q)) (h2 : (¬ (s0 = 0)) → Q (some (.int (-2))) M) : px_T 0 94 12 [some (.ref 0), some (.int x1), some (.int x2)] [.int s0] M Q := by
  by_cases c1 : s0 = 0
  · obtain ⟨n, h⟩ := px_T_cl (k := 94) (pc := 23) (y := 11) (st := [.int x2, .ref 28]) rfl (h1 c1)
    exact ⟨n + 5, ⟨fun _ => ⟨rfl, ⟨rfl, h⟩⟩, fun q => absurd c1 q⟩⟩
  · exact ⟨3, ⟨fun q => absurd q c1, fun _ => ⟨trivial, h2 c1⟩⟩⟩
theorem sg_94_26 {d0 : Option Value} {x1 : Int32} {d2 : Option Value} {s0 : Nat} {M : px_Mem} {Q : px_Po} (h_s0 : px_isW s0) (h1 : px_T 0 64 0 [some (.ref s0), some (.int x1)] [] M (fun r M1 => px_T 0 94 30 [d0, some (.int x1), d2] (r.toList ++ []) M1 Q)) : px_T 0 94 26 [d0, some (.int x1), d2] [.ref s0] M Q := by
  rcases h_s0 with rfl | rfl
  all_goals
    obtain ⟨n, h⟩ := px_T_cl (k := 94) (pc := 27) (y := 64) (st := [.int x1, .ref s0]) rfl (h1)
    exact ⟨n + 2, ⟨rfl, h⟩⟩
theorem sg_94_30 {d0 : Option Value} {d1 : Option Value} {d2 : Option Value} {s0 : Int32} {M : px_Mem} {Q : px_Po} (h1 : Q (some (.int s0)) M) : px_T 0 94 30 [d0, d1, d2] [.int s0] M Q := by
  exact ⟨1, ⟨trivial, h1⟩⟩
theorem sg_95_0 {x1 : Int32} {x2 : Int32} {M : px_Mem} {Q : px_Po} (h1 : px_T 0 153 0 [some (.int x1)] [] M (fun r M1 => px_T 0 95 4 [some (.ref 0), some (.int x1), some (.int x2), none] (r.toList ++ []) M1 Q)) : px_T 0 95 0 [some (.ref 0), some (.int x1), some (.int x2), none] [] M Q := by
  obtain ⟨n, h⟩ := px_T_cl (k := 95) (pc := 1) (y := 153) (st := [.int x1]) rfl (h1)
  exact ⟨n + 2, h⟩
theorem sg_95_4 {x1 : Int32} {x2 : Int32} {d3 : Option Value} {s0 : Int32} {M : px_Mem} {Q : px_Po} (h1 : (s0 = 0) → px_T 0 152 0 [some (.ref 0), some (.int x2)] [] M (fun r M1 => px_T 0 95 12 [some (.ref 0), some (.int x1), some (.int x2), d3] (r.toList ++ []) M1 Q)) (h2 : (¬ (s0 = 0)) → Q (some (.int (-2))) M) : px_T 0 95 4 [some (.ref 0), some (.int x1), some (.int x2), d3] [.int s0] M Q := by
  by_cases c1 : s0 = 0
  · obtain ⟨n, h⟩ := px_T_cl (k := 95) (pc := 9) (y := 152) (st := [.int x2, .ref 0]) rfl (h1 c1)
    exact ⟨n + 4, ⟨fun q => absurd c1 q, fun _ => ⟨rfl, h⟩⟩⟩
  · exact ⟨3, ⟨fun _ => ⟨trivial, h2 c1⟩, fun q => absurd q c1⟩⟩
theorem sg_95_12 {x1 : Int32} {x2 : Int32} {d3 : Option Value} {s0 : Int32} {M : px_Mem} {Q : px_Po} (h1 : (s0 = 0) → px_T 0 11 0 [some (.ref 28), some (.int x2)] [] M (fun r M1 => px_T 0 95 26 [some (.ref 0), some (.int x1), some (.int x2), d3] (r.toList ++ []) M1 Q)) (h2 : (¬ (s0 = 0)) → Q (some (.int (-2))) M) : px_T 0 95 12 [some (.ref 0), some (.int x1), some (.int x2), d3] [.int s0] M Q := by
  by_cases c1 : s0 = 0
  · obtain ⟨n, h⟩ := px_T_cl (k := 95) (pc := 23) (y := 11) (st := [.int x2, .ref 28]) rfl (h1 c1)
    exact ⟨n + 5, ⟨fun _ => ⟨rfl, ⟨rfl, h⟩⟩, fun q => absurd c1 q⟩⟩
  · exact ⟨3, ⟨fun q => absurd q c1, fun _ => ⟨trivial, h2 c1⟩⟩⟩
theorem sg_95_26 {d0 : Option Value} {x1 : Int32} {d2 : Option Value} {d3 : Option Value} {s0 : Nat} {M : px_Mem} {Q : px_Po} (h_s0 : px_isW s0) (h1 : px_T 0 63 0 [some (.ref s0), some (.int x1)] [] M (fun r M1 => px_T 0 95 32 [d0, some (.int x1), d2, some (.ref s0)] (r.toList ++ []) M1 Q)) : px_T 0 95 26 [d0, some (.int x1), d2, d3] [.ref s0] M Q := by
  rcases h_s0 with rfl | rfl
  all_goals
    obtain ⟨n, h⟩ := px_T_cl (k := 95) (pc := 29) (y := 63) (st := [.int x1, .ref s0]) rfl (h1)
    exact ⟨n + 4, ⟨rfl, h⟩⟩
theorem sg_95_32 {d0 : Option Value} {x1 : Int32} {d2 : Option Value} {x3 : Nat} {s0 : Int32} {M : px_Mem} {Q : px_Po} (h_x3 : px_isW x3) (h1 : (s0 = 0) → Q (some (.int (-1))) M) (h2 : (¬ (s0 = 0)) → vp_in x1 16) (h3 : (¬ (s0 = 0)) → Q (some (.int (M.1 (x3 + 2) x1.toNatClampNeg))) M) : px_T 0 95 32 [d0, some (.int x1), d2, some (.ref x3)] [.int s0] M Q := by
  rcases h_x3 with rfl | rfl
  all_goals
    by_cases c1 : s0 = 0
    · exact ⟨3, ⟨fun _ => ⟨trivial, h1 c1⟩, fun q => absurd c1 q⟩⟩
    · exact ⟨7, ⟨fun q => absurd q c1, fun _ => ⟨rfl, ⟨Or.inl ⟨0, 16, Or.inl rfl, rfl, (h2 c1)⟩, ⟨trivial, h3 c1⟩⟩⟩⟩⟩
theorem sg_96_0 {x1 : Int32} {x2 : Int32} {M : px_Mem} {Q : px_Po} (h1 : px_T 0 153 0 [some (.int x1)] [] M (fun r M1 => px_T 0 96 4 [some (.ref 0), some (.int x1), some (.int x2), none, none, none] (r.toList ++ []) M1 Q)) : px_T 0 96 0 [some (.ref 0), some (.int x1), some (.int x2), none, none, none] [] M Q := by
  obtain ⟨n, h⟩ := px_T_cl (k := 96) (pc := 1) (y := 153) (st := [.int x1]) rfl (h1)
  exact ⟨n + 2, h⟩
theorem sg_96_4 {x1 : Int32} {x2 : Int32} {d3 : Option Value} {d4 : Option Value} {d5 : Option Value} {s0 : Int32} {M : px_Mem} {Q : px_Po} (h1 : (s0 = 0) → px_T 0 152 0 [some (.ref 0), some (.int x2)] [] M (fun r M1 => px_T 0 96 12 [some (.ref 0), some (.int x1), some (.int x2), d3, d4, d5] (r.toList ++ []) M1 Q)) (h2 : (¬ (s0 = 0)) → Q (some (.int (-2))) M) : px_T 0 96 4 [some (.ref 0), some (.int x1), some (.int x2), d3, d4, d5] [.int s0] M Q := by
  by_cases c1 : s0 = 0
  · obtain ⟨n, h⟩ := px_T_cl (k := 96) (pc := 9) (y := 152) (st := [.int x2, .ref 0]) rfl (h1 c1)
    exact ⟨n + 4, ⟨fun q => absurd c1 q, fun _ => ⟨rfl, h⟩⟩⟩
  · exact ⟨3, ⟨fun _ => ⟨trivial, h2 c1⟩, fun q => absurd q c1⟩⟩
theorem sg_96_12 {x1 : Int32} {x2 : Int32} {d3 : Option Value} {d4 : Option Value} {d5 : Option Value} {s0 : Int32} {M : px_Mem} {Q : px_Po} (h1 : (s0 = 0) → px_T 0 11 0 [some (.ref 28), some (.int x2)] [] M (fun r M1 => px_T 0 96 26 [some (.ref 0), some (.int x1), some (.int x2), d3, d4, d5] (r.toList ++ []) M1 Q)) (h2 : (¬ (s0 = 0)) → Q (some (.int (-2))) M) : px_T 0 96 12 [some (.ref 0), some (.int x1), some (.int x2), d3, d4, d5] [.int s0] M Q := by
  by_cases c1 : s0 = 0
  · obtain ⟨n, h⟩ := px_T_cl (k := 96) (pc := 23) (y := 11) (st := [.int x2, .ref 28]) rfl (h1 c1)
    exact ⟨n + 5, ⟨fun _ => ⟨rfl, ⟨rfl, h⟩⟩, fun q => absurd c1 q⟩⟩
  · exact ⟨3, ⟨fun q => absurd q c1, fun _ => ⟨trivial, h2 c1⟩⟩⟩
theorem sg_96_26 {d0 : Option Value} {x1 : Int32} {d2 : Option Value} {d3 : Option Value} {d4 : Option Value} {d5 : Option Value} {s0 : Nat} {M : px_Mem} {Q : px_Po} (h_s0 : px_isW s0) (h1 : px_T 0 96 33 [d0, some (.int x1), d2, some (.ref s0), some (.int 0), some (.int 1)] [] M Q) : px_T 0 96 26 [d0, some (.int x1), d2, d3, d4, d5] [.ref s0] M Q := by
  rcases h_s0 with rfl | rfl
  all_goals
    obtain ⟨n, h⟩ := h1
    exact ⟨n + 5, h⟩
theorem sg_96_33 {d0 : Option Value} {x1 : Int32} {d2 : Option Value} {x3 : Nat} {x4 : Int32} {x5 : Int32} {M : px_Mem} {Q : px_Po} (h_x3 : px_isW x3) (h1 : ((15 : Int32) < x5) → Q (some (.int x4)) M) (h2 : (¬ ((15 : Int32) < x5)) → px_T 0 64 0 [some (.ref x3), some (.int x5)] [] M (fun r M1 => px_T 0 96 46 [d0, some (.int x1), d2, some (.ref x3), some (.int x4), some (.int x5)] (r.toList ++ []) M1 Q)) : px_T 0 96 33 [d0, some (.int x1), d2, some (.ref x3), some (.int x4), some (.int x5)] [] M Q := by
  rcases h_x3 with rfl | rfl
  all_goals
    by_cases c1 : (15 : Int32) < x5
    · exact ⟨5, ⟨fun _ => ⟨trivial, h1 c1⟩, fun q => absurd c1 q⟩⟩
    · obtain ⟨n, h⟩ := px_T_cl (k := 96) (pc := 43) (y := 64) (st := [.int x5, .ref x3]) rfl (h2 c1)
      exact ⟨n + 6, ⟨fun q => absurd q c1, fun _ => ⟨rfl, h⟩⟩⟩
theorem sg_96_46 {d0 : Option Value} {x1 : Int32} {d2 : Option Value} {x3 : Nat} {x4 : Int32} {x5 : Int32} {s0 : Int32} {M : px_Mem} {Q : px_Po} (h_x3 : px_isW x3) (h1 : (s0 = x1) → px_T 0 161 0 [some (.int x5)] [] M (fun r M1 => px_T 0 96 57 [d0, some (.int x1), d2, some (.ref x3), some (.int x4), some (.int x5)] (r.toList ++ [.int x4]) M1 Q)) (h2 : (¬ (s0 = x1)) → px_T 0 96 33 [d0, some (.int x1), d2, some (.ref x3), some (.int x4), some (.int (x5 + 1))] [] M Q) : px_T 0 96 46 [d0, some (.int x1), d2, some (.ref x3), some (.int x4), some (.int x5)] [.int s0] M Q := by
  rcases h_x3 with rfl | rfl
  all_goals
    by_cases c1 : s0 = x1
    · obtain ⟨n, h⟩ := px_T_cl (k := 96) (pc := 54) (y := 161) (st := [.int x5, .int x4]) rfl (h1 c1)
      exact ⟨n + 5, ⟨fun q => absurd c1 q, fun _ => h⟩⟩
    · obtain ⟨n, h⟩ := h2 c1
      exact ⟨n + 4, ⟨fun _ => h, fun q => absurd q c1⟩⟩
theorem sg_96_57 {d0 : Option Value} {x1 : Int32} {d2 : Option Value} {x3 : Nat} {d4 : Option Value} {x5 : Int32} {s0 : Int32} {s1 : Int32} {M : px_Mem} {Q : px_Po} (h_x3 : px_isW x3) (h1 : px_T 0 96 33 [d0, some (.int x1), d2, some (.ref x3), some (.int (s1 ||| s0)), some (.int (x5 + 1))] [] M Q) : px_T 0 96 57 [d0, some (.int x1), d2, some (.ref x3), d4, some (.int x5)] [.int s0, .int s1] M Q := by
  rcases h_x3 with rfl | rfl
  all_goals
    obtain ⟨n, h⟩ := h1
    exact ⟨n + 4, h⟩
theorem sg_97_0 {x1 : Int32} {x2 : Int32} {M : px_Mem} {Q : px_Po} (h1 : px_T 0 153 0 [some (.int x1)] [] M (fun r M1 => px_T 0 97 4 [some (.ref 0), some (.int x1), some (.int x2)] (r.toList ++ []) M1 Q)) : px_T 0 97 0 [some (.ref 0), some (.int x1), some (.int x2)] [] M Q := by
  obtain ⟨n, h⟩ := px_T_cl (k := 97) (pc := 1) (y := 153) (st := [.int x1]) rfl (h1)
  exact ⟨n + 2, h⟩
theorem sg_97_4 {x1 : Int32} {x2 : Int32} {s0 : Int32} {M : px_Mem} {Q : px_Po} (h1 : (s0 = 0) → px_T 0 152 0 [some (.ref 0), some (.int x2)] [] M (fun r M1 => px_T 0 97 12 [some (.ref 0), some (.int x1), some (.int x2)] (r.toList ++ []) M1 Q)) (h2 : (¬ (s0 = 0)) → Q (some (.int (-2))) M) : px_T 0 97 4 [some (.ref 0), some (.int x1), some (.int x2)] [.int s0] M Q := by
  by_cases c1 : s0 = 0
  · obtain ⟨n, h⟩ := px_T_cl (k := 97) (pc := 9) (y := 152) (st := [.int x2, .ref 0]) rfl (h1 c1)
    exact ⟨n + 4, ⟨fun q => absurd c1 q, fun _ => ⟨rfl, h⟩⟩⟩
  · exact ⟨3, ⟨fun _ => ⟨trivial, h2 c1⟩, fun q => absurd q c1⟩⟩
theorem sg_97_12 {x1 : Int32} {x2 : Int32} {s0 : Int32} {M : px_Mem} {Q : px_Po} (h1 : (s0 = 0) → px_T 0 11 0 [some (.ref 28), some (.int x2)] [] M (fun r M1 => px_T 0 97 26 [some (.ref 0), some (.int x1), some (.int x2)] (r.toList ++ []) M1 Q)) (h2 : (¬ (s0 = 0)) → Q (some (.int (-2))) M) : px_T 0 97 12 [some (.ref 0), some (.int x1), some (.int x2)] [.int s0] M Q := by
  by_cases c1 : s0 = 0
  · obtain ⟨n, h⟩ := px_T_cl (k := 97) (pc := 23) (y := 11) (st := [.int x2, .ref 28]) rfl (h1 c1)
    exact ⟨n + 5, ⟨fun _ => ⟨rfl, ⟨rfl, h⟩⟩, fun q => absurd c1 q⟩⟩
  · exact ⟨3, ⟨fun q => absurd q c1, fun _ => ⟨trivial, h2 c1⟩⟩⟩
theorem sg_97_26 {d0 : Option Value} {x1 : Int32} {d2 : Option Value} {s0 : Nat} {M : px_Mem} {Q : px_Po} (h_s0 : px_isW s0) (h1 : px_T 0 67 0 [some (.ref s0), some (.int x1), none, none] [] M (fun r M1 => px_T 0 97 30 [d0, some (.int x1), d2] (r.toList ++ []) M1 Q)) : px_T 0 97 26 [d0, some (.int x1), d2] [.ref s0] M Q := by
  rcases h_s0 with rfl | rfl
  all_goals
    obtain ⟨n, h⟩ := px_T_cl (k := 97) (pc := 27) (y := 67) (st := [.int x1, .ref s0]) rfl (h1)
    exact ⟨n + 2, ⟨rfl, h⟩⟩
theorem sg_97_30 {d0 : Option Value} {d1 : Option Value} {d2 : Option Value} {s0 : Int32} {M : px_Mem} {Q : px_Po} (h1 : Q (some (.int s0)) M) : px_T 0 97 30 [d0, d1, d2] [.int s0] M Q := by
  exact ⟨1, ⟨trivial, h1⟩⟩
theorem sg_98_0 {x1 : Int32} {x2 : Int32} {M : px_Mem} {Q : px_Po} (h1 : px_T 0 153 0 [some (.int x1)] [] M (fun r M1 => px_T 0 98 4 [some (.ref 0), some (.int x1), some (.int x2), none] (r.toList ++ []) M1 Q)) : px_T 0 98 0 [some (.ref 0), some (.int x1), some (.int x2), none] [] M Q := by
  obtain ⟨n, h⟩ := px_T_cl (k := 98) (pc := 1) (y := 153) (st := [.int x1]) rfl (h1)
  exact ⟨n + 2, h⟩
theorem sg_98_4 {x1 : Int32} {x2 : Int32} {d3 : Option Value} {s0 : Int32} {M : px_Mem} {Q : px_Po} (h1 : (s0 = 0) → px_T 0 152 0 [some (.ref 0), some (.int x2)] [] M (fun r M1 => px_T 0 98 12 [some (.ref 0), some (.int x1), some (.int x2), d3] (r.toList ++ []) M1 Q)) (h2 : (¬ (s0 = 0)) → Q (some (.int (-2))) M) : px_T 0 98 4 [some (.ref 0), some (.int x1), some (.int x2), d3] [.int s0] M Q := by
  by_cases c1 : s0 = 0
  · obtain ⟨n, h⟩ := px_T_cl (k := 98) (pc := 9) (y := 152) (st := [.int x2, .ref 0]) rfl (h1 c1)
    exact ⟨n + 4, ⟨fun q => absurd c1 q, fun _ => ⟨rfl, h⟩⟩⟩
  · exact ⟨3, ⟨fun _ => ⟨trivial, h2 c1⟩, fun q => absurd q c1⟩⟩
theorem sg_98_12 {x1 : Int32} {x2 : Int32} {d3 : Option Value} {s0 : Int32} {M : px_Mem} {Q : px_Po} (h1 : (s0 = 0) → px_T 0 11 0 [some (.ref 28), some (.int x2)] [] M (fun r M1 => px_T 0 98 26 [some (.ref 0), some (.int x1), some (.int x2), d3] (r.toList ++ []) M1 Q)) (h2 : (¬ (s0 = 0)) → Q (some (.int (-2))) M) : px_T 0 98 12 [some (.ref 0), some (.int x1), some (.int x2), d3] [.int s0] M Q := by
  by_cases c1 : s0 = 0
  · obtain ⟨n, h⟩ := px_T_cl (k := 98) (pc := 23) (y := 11) (st := [.int x2, .ref 28]) rfl (h1 c1)
    exact ⟨n + 5, ⟨fun _ => ⟨rfl, ⟨rfl, h⟩⟩, fun q => absurd c1 q⟩⟩
  · exact ⟨3, ⟨fun q => absurd q c1, fun _ => ⟨trivial, h2 c1⟩⟩⟩
theorem sg_98_26 {d0 : Option Value} {x1 : Int32} {d2 : Option Value} {d3 : Option Value} {s0 : Nat} {M : px_Mem} {Q : px_Po} (h_s0 : px_isW s0) (h1 : px_T 0 63 0 [some (.ref s0), some (.int x1)] [] M (fun r M1 => px_T 0 98 32 [d0, some (.int x1), d2, some (.ref s0)] (r.toList ++ []) M1 Q)) : px_T 0 98 26 [d0, some (.int x1), d2, d3] [.ref s0] M Q := by
  rcases h_s0 with rfl | rfl
  all_goals
    obtain ⟨n, h⟩ := px_T_cl (k := 98) (pc := 29) (y := 63) (st := [.int x1, .ref s0]) rfl (h1)
    exact ⟨n + 4, ⟨rfl, h⟩⟩
theorem sg_98_32 {d0 : Option Value} {x1 : Int32} {d2 : Option Value} {x3 : Nat} {s0 : Int32} {M : px_Mem} {Q : px_Po} (h_x3 : px_isW x3) (h1 : (s0 = 0) → Q (some (.int (-1))) M) (h2 : (¬ (s0 = 0)) → px_T 0 65 0 [some (.ref x3), some (.int x1), none, none] [] M (fun r M1 => px_T 0 98 40 [d0, some (.int x1), d2, some (.ref x3)] (r.toList ++ []) M1 Q)) : px_T 0 98 32 [d0, some (.int x1), d2, some (.ref x3)] [.int s0] M Q := by
  rcases h_x3 with rfl | rfl
  all_goals
    by_cases c1 : s0 = 0
    · exact ⟨3, ⟨fun _ => ⟨trivial, h1 c1⟩, fun q => absurd c1 q⟩⟩
    · obtain ⟨n, h⟩ := px_T_cl (k := 98) (pc := 37) (y := 65) (st := [.int x1, .ref x3]) rfl (h2 c1)
      exact ⟨n + 4, ⟨fun q => absurd q c1, fun _ => ⟨rfl, h⟩⟩⟩
theorem sg_98_40 {d0 : Option Value} {d1 : Option Value} {d2 : Option Value} {d3 : Option Value} {s0 : Int32} {M : px_Mem} {Q : px_Po} (h1 : Q (some (.int s0)) M) : px_T 0 98 40 [d0, d1, d2, d3] [.int s0] M Q := by
  exact ⟨2, ⟨trivial, h1⟩⟩
theorem sg_99_0 {x1 : Int32} {x2 : Int32} {M : px_Mem} {Q : px_Po} (h1 : px_T 0 153 0 [some (.int x1)] [] M (fun r M1 => px_T 0 99 4 [some (.ref 0), some (.int x1), some (.int x2), none, none, none] (r.toList ++ []) M1 Q)) : px_T 0 99 0 [some (.ref 0), some (.int x1), some (.int x2), none, none, none] [] M Q := by
  obtain ⟨n, h⟩ := px_T_cl (k := 99) (pc := 1) (y := 153) (st := [.int x1]) rfl (h1)
  exact ⟨n + 2, h⟩
theorem sg_99_4 {x1 : Int32} {x2 : Int32} {d3 : Option Value} {d4 : Option Value} {d5 : Option Value} {s0 : Int32} {M : px_Mem} {Q : px_Po} (h1 : (s0 = 0) → px_T 0 152 0 [some (.ref 0), some (.int x2)] [] M (fun r M1 => px_T 0 99 12 [some (.ref 0), some (.int x1), some (.int x2), d3, d4, d5] (r.toList ++ []) M1 Q)) (h2 : (¬ (s0 = 0)) → Q (some (.int (-2))) M) : px_T 0 99 4 [some (.ref 0), some (.int x1), some (.int x2), d3, d4, d5] [.int s0] M Q := by
  by_cases c1 : s0 = 0
  · obtain ⟨n, h⟩ := px_T_cl (k := 99) (pc := 9) (y := 152) (st := [.int x2, .ref 0]) rfl (h1 c1)
    exact ⟨n + 4, ⟨fun q => absurd c1 q, fun _ => ⟨rfl, h⟩⟩⟩
  · exact ⟨3, ⟨fun _ => ⟨trivial, h2 c1⟩, fun q => absurd q c1⟩⟩
theorem sg_99_12 {x1 : Int32} {x2 : Int32} {d3 : Option Value} {d4 : Option Value} {d5 : Option Value} {s0 : Int32} {M : px_Mem} {Q : px_Po} (h1 : (s0 = 0) → px_T 0 11 0 [some (.ref 28), some (.int x2)] [] M (fun r M1 => px_T 0 99 26 [some (.ref 0), some (.int x1), some (.int x2), d3, d4, d5] (r.toList ++ []) M1 Q)) (h2 : (¬ (s0 = 0)) → Q (some (.int (-2))) M) : px_T 0 99 12 [some (.ref 0), some (.int x1), some (.int x2), d3, d4, d5] [.int s0] M Q := by
  by_cases c1 : s0 = 0
  · obtain ⟨n, h⟩ := px_T_cl (k := 99) (pc := 23) (y := 11) (st := [.int x2, .ref 28]) rfl (h1 c1)
    exact ⟨n + 5, ⟨fun _ => ⟨rfl, ⟨rfl, h⟩⟩, fun q => absurd c1 q⟩⟩
  · exact ⟨3, ⟨fun q => absurd q c1, fun _ => ⟨trivial, h2 c1⟩⟩⟩
theorem sg_99_26 {d0 : Option Value} {x1 : Int32} {d2 : Option Value} {d3 : Option Value} {d4 : Option Value} {d5 : Option Value} {s0 : Nat} {M : px_Mem} {Q : px_Po} (h_s0 : px_isW s0) (h1 : px_T 0 99 33 [d0, some (.int x1), d2, some (.ref s0), some (.int 0), some (.int 1)] [] M Q) : px_T 0 99 26 [d0, some (.int x1), d2, d3, d4, d5] [.ref s0] M Q := by
  rcases h_s0 with rfl | rfl
  all_goals
    obtain ⟨n, h⟩ := h1
    exact ⟨n + 5, h⟩
theorem sg_99_33 {d0 : Option Value} {x1 : Int32} {d2 : Option Value} {x3 : Nat} {x4 : Int32} {x5 : Int32} {M : px_Mem} {Q : px_Po} (h_x3 : px_isW x3) (h1 : ((15 : Int32) < x5) → Q (some (.int x4)) M) (h2 : (¬ ((15 : Int32) < x5)) → px_T 0 63 0 [some (.ref x3), some (.int x5)] [] M (fun r M1 => px_T 0 99 46 [d0, some (.int x1), d2, some (.ref x3), some (.int x4), some (.int x5)] (r.toList ++ []) M1 Q)) : px_T 0 99 33 [d0, some (.int x1), d2, some (.ref x3), some (.int x4), some (.int x5)] [] M Q := by
  rcases h_x3 with rfl | rfl
  all_goals
    by_cases c1 : (15 : Int32) < x5
    · exact ⟨5, ⟨fun _ => ⟨trivial, h1 c1⟩, fun q => absurd c1 q⟩⟩
    · obtain ⟨n, h⟩ := px_T_cl (k := 99) (pc := 43) (y := 63) (st := [.int x5, .ref x3]) rfl (h2 c1)
      exact ⟨n + 6, ⟨fun q => absurd q c1, fun _ => ⟨rfl, h⟩⟩⟩
theorem sg_99_46 {d0 : Option Value} {x1 : Int32} {d2 : Option Value} {x3 : Nat} {x4 : Int32} {x5 : Int32} {s0 : Int32} {M : px_Mem} {Q : px_Po} (h_x3 : px_isW x3) (h1 : (s0 = 0) → px_T 0 99 33 [d0, some (.int x1), d2, some (.ref x3), some (.int x4), some (.int (x5 + 1))] [] M Q) (h2 : (¬ (s0 = 0)) → vp_in x5 16) (h3 : (¬ (s0 = 0)) → ((M.1 (x3 + 2) x5.toNatClampNeg) = x1) → px_T 0 161 0 [some (.int x5)] [] M (fun r M1 => px_T 0 99 67 [d0, some (.int x1), d2, some (.ref x3), some (.int x4), some (.int x5)] (r.toList ++ [.int x4]) M1 Q)) (h4 : (¬ (s0 = 0)) → (¬ ((M.1 (x3 + 2) x5.toNatClampNeg) = x1)) → px_T 0 99 33 [d0, some (.int x1), d2, some (.ref x3), some (.int x4), some (.int (x5 + 1))] [] M Q) : px_T 0 99 46 [d0, some (.int x1), d2, some (.ref x3), some (.int x4), some (.int x5)] [.int s0] M Q := by
  rcases h_x3 with rfl | rfl
  all_goals
    by_cases c1 : s0 = 0
    · obtain ⟨n, h⟩ := h1 c1
      exact ⟨n + 3, ⟨fun _ => h, fun q => absurd c1 q⟩⟩
    · by_cases c2 : (M.1 (x3 + 2) x5.toNatClampNeg) = x1
      · obtain ⟨n, h⟩ := px_T_cl (k := 99) (pc := 64) (y := 161) (st := [.int x5, .int x4]) rfl (h3 c1 c2)
        exact ⟨n + 10, ⟨fun q => absurd q c1, fun _ => ⟨rfl, ⟨Or.inl ⟨0, 16, Or.inl rfl, rfl, (h2 c1)⟩, ⟨fun q => absurd c2 q, fun _ => h⟩⟩⟩⟩⟩
      · obtain ⟨n, h⟩ := h4 c1 c2
        exact ⟨n + 9, ⟨fun q => absurd q c1, fun _ => ⟨rfl, ⟨Or.inl ⟨0, 16, Or.inl rfl, rfl, (h2 c1)⟩, ⟨fun _ => h, fun q => absurd q c2⟩⟩⟩⟩⟩
theorem sg_99_67 {d0 : Option Value} {x1 : Int32} {d2 : Option Value} {x3 : Nat} {d4 : Option Value} {x5 : Int32} {s0 : Int32} {s1 : Int32} {M : px_Mem} {Q : px_Po} (h_x3 : px_isW x3) (h1 : px_T 0 99 33 [d0, some (.int x1), d2, some (.ref x3), some (.int (s1 ||| s0)), some (.int (x5 + 1))] [] M Q) : px_T 0 99 67 [d0, some (.int x1), d2, some (.ref x3), d4, some (.int x5)] [.int s0, .int s1] M Q := by
  rcases h_x3 with rfl | rfl
  all_goals
    obtain ⟨n, h⟩ := h1
    exact ⟨n + 4, h⟩
theorem sg_100_0 {x1 : Int32} {M : px_Mem} {Q : px_Po} (h1 : px_T 0 152 0 [some (.ref 0), some (.int x1)] [] M (fun r M1 => px_T 0 100 5 [some (.ref 0), some (.int x1), none, none, none] (r.toList ++ []) M1 Q)) : px_T 0 100 0 [some (.ref 0), some (.int x1), none, none, none] [] M Q := by
  obtain ⟨n, h⟩ := px_T_cl (k := 100) (pc := 2) (y := 152) (st := [.int x1, .ref 0]) rfl (h1)
  exact ⟨n + 3, ⟨rfl, h⟩⟩
theorem sg_100_5 {x1 : Int32} {d2 : Option Value} {d3 : Option Value} {d4 : Option Value} {s0 : Int32} {M : px_Mem} {Q : px_Po} (h1 : (s0 = 0) → px_T 0 11 0 [some (.ref 28), some (.int x1)] [] M (fun r M1 => px_T 0 100 19 [some (.ref 0), some (.int x1), d2, d3, d4] (r.toList ++ []) M1 Q)) (h2 : (¬ (s0 = 0)) → Q (some (.int (-2))) M) : px_T 0 100 5 [some (.ref 0), some (.int x1), d2, d3, d4] [.int s0] M Q := by
  by_cases c1 : s0 = 0
  · obtain ⟨n, h⟩ := px_T_cl (k := 100) (pc := 16) (y := 11) (st := [.int x1, .ref 28]) rfl (h1 c1)
    exact ⟨n + 5, ⟨fun _ => ⟨rfl, ⟨rfl, h⟩⟩, fun q => absurd c1 q⟩⟩
  · exact ⟨3, ⟨fun q => absurd q c1, fun _ => ⟨trivial, h2 c1⟩⟩⟩
theorem sg_100_19 {d0 : Option Value} {d1 : Option Value} {d2 : Option Value} {d3 : Option Value} {d4 : Option Value} {s0 : Nat} {M : px_Mem} {Q : px_Po} (h_s0 : px_isW s0) (h1 : px_T 0 100 25 [d0, d1, some (.ref s0), some (.int 0), some (.int 1)] [] M Q) : px_T 0 100 19 [d0, d1, d2, d3, d4] [.ref s0] M Q := by
  rcases h_s0 with rfl | rfl
  all_goals
    obtain ⟨n, h⟩ := h1
    exact ⟨n + 5, h⟩
theorem sg_100_25 {d0 : Option Value} {d1 : Option Value} {x2 : Nat} {x3 : Int32} {x4 : Int32} {M : px_Mem} {Q : px_Po} (h_x2 : px_isW x2) (h1 : ((15 : Int32) < x4) → px_T 0 332 0 [some (.int x3)] [] M (fun r M1 => px_T 0 100 64 [d0, d1, some (.ref x2), some (.int x3), some (.int x4)] (r.toList ++ []) M1 Q)) (h2 : (¬ ((15 : Int32) < x4)) → px_T 0 63 0 [some (.ref x2), some (.int x4)] [] M (fun r M1 => px_T 0 100 38 [d0, d1, some (.ref x2), some (.int x3), some (.int x4)] (r.toList ++ []) M1 Q)) : px_T 0 100 25 [d0, d1, some (.ref x2), some (.int x3), some (.int x4)] [] M Q := by
  rcases h_x2 with rfl | rfl
  all_goals
    by_cases c1 : (15 : Int32) < x4
    · obtain ⟨n, h⟩ := px_T_cl (k := 100) (pc := 61) (y := 332) (st := [.int x3]) rfl (h1 c1)
      exact ⟨n + 5, ⟨fun _ => h, fun q => absurd c1 q⟩⟩
    · obtain ⟨n, h⟩ := px_T_cl (k := 100) (pc := 35) (y := 63) (st := [.int x4, .ref x2]) rfl (h2 c1)
      exact ⟨n + 6, ⟨fun q => absurd q c1, fun _ => ⟨rfl, h⟩⟩⟩
theorem sg_100_64 {d0 : Option Value} {d1 : Option Value} {d2 : Option Value} {d3 : Option Value} {d4 : Option Value} {s0 : Int32} {M : px_Mem} {Q : px_Po} (h1 : Q (some (.int s0)) M) : px_T 0 100 64 [d0, d1, d2, d3, d4] [.int s0] M Q := by
  exact ⟨1, ⟨trivial, h1⟩⟩
theorem sg_100_38 {d0 : Option Value} {d1 : Option Value} {x2 : Nat} {x3 : Int32} {x4 : Int32} {s0 : Int32} {M : px_Mem} {Q : px_Po} (h_x2 : px_isW x2) (h1 : (s0 = 0) → px_T 0 100 25 [d0, d1, some (.ref x2), some (.int x3), some (.int (x4 + 1))] [] M Q) (h2 : (¬ (s0 = 0)) → vp_in x4 16) (h3 : (¬ (s0 = 0)) → px_T 0 161 0 [some (.int (M.1 (x2 + 2) x4.toNatClampNeg))] [] M (fun r M1 => px_T 0 100 52 [d0, d1, some (.ref x2), some (.int x3), some (.int x4)] (r.toList ++ [.int x3]) M1 Q)) : px_T 0 100 38 [d0, d1, some (.ref x2), some (.int x3), some (.int x4)] [.int s0] M Q := by
  rcases h_x2 with rfl | rfl
  all_goals
    by_cases c1 : s0 = 0
    · obtain ⟨n, h⟩ := h1 c1
      exact ⟨n + 3, ⟨fun _ => h, fun q => absurd c1 q⟩⟩
    · obtain ⟨n, h⟩ := px_T_cl (k := 100) (pc := 49) (y := 161) (st := [.int (M.1 (x2 + 2) x4.toNatClampNeg), .int x3]) rfl (h3 c1)
      exact ⟨n + 7, ⟨fun q => absurd q c1, fun _ => ⟨rfl, ⟨Or.inl ⟨0, 16, Or.inl rfl, rfl, (h2 c1)⟩, h⟩⟩⟩⟩
theorem sg_100_52 {d0 : Option Value} {d1 : Option Value} {x2 : Nat} {d3 : Option Value} {x4 : Int32} {s0 : Int32} {s1 : Int32} {M : px_Mem} {Q : px_Po} (h_x2 : px_isW x2) (h1 : px_T 0 100 25 [d0, d1, some (.ref x2), some (.int (s1 ||| s0)), some (.int (x4 + 1))] [] M Q) : px_T 0 100 52 [d0, d1, some (.ref x2), d3, some (.int x4)] [.int s0, .int s1] M Q := by
  rcases h_x2 with rfl | rfl
  all_goals
    obtain ⟨n, h⟩ := h1
    exact ⟨n + 4, h⟩
theorem sg_101_0 {x1 : Int32} {M : px_Mem} {Q : px_Po} (h1 : px_T 0 153 0 [some (.int x1)] [] M (fun r M1 => px_T 0 101 4 [some (.ref 0), some (.int x1)] (r.toList ++ []) M1 Q)) : px_T 0 101 0 [some (.ref 0), some (.int x1)] [] M Q := by
  obtain ⟨n, h⟩ := px_T_cl (k := 101) (pc := 1) (y := 153) (st := [.int x1]) rfl (h1)
  exact ⟨n + 2, h⟩
theorem sg_101_4 {x1 : Int32} {s0 : Int32} {M : px_Mem} {Q : px_Po} (h1 : (s0 = 0) → px_T 0 151 0 [some (.ref 0)] [] M (fun r M1 => px_T 0 101 11 [some (.ref 0), some (.int x1)] (r.toList ++ []) M1 Q)) (h2 : (¬ (s0 = 0)) → Q (some (.int (-2))) M) : px_T 0 101 4 [some (.ref 0), some (.int x1)] [.int s0] M Q := by
  by_cases c1 : s0 = 0
  · obtain ⟨n, h⟩ := px_T_cl (k := 101) (pc := 8) (y := 151) (st := [.ref 0]) rfl (h1 c1)
    exact ⟨n + 3, ⟨fun q => absurd c1 q, fun _ => ⟨rfl, h⟩⟩⟩
  · exact ⟨3, ⟨fun _ => ⟨trivial, h2 c1⟩, fun q => absurd q c1⟩⟩
theorem sg_101_11 {x1 : Int32} {s0 : Int32} {M : px_Mem} {Q : px_Po} (h1 : (s0 = 0) → px_T 0 164 0 [some (.ref 0), some (.int x1), some (.int 1), some (.int 0), none] [] M (fun r M1 => px_T 0 101 24 [some (.ref 0), some (.int x1)] (r.toList ++ []) M1 Q)) (h2 : (¬ (s0 = 0)) → Q (some (.int (-2))) M) : px_T 0 101 11 [some (.ref 0), some (.int x1)] [.int s0] M Q := by
  by_cases c1 : s0 = 0
  · obtain ⟨n, h⟩ := px_T_cl (k := 101) (pc := 21) (y := 164) (st := [.int 0, .int 1, .int x1, .ref 0]) rfl (h1 c1)
    exact ⟨n + 6, ⟨fun _ => ⟨rfl, h⟩, fun q => absurd c1 q⟩⟩
  · exact ⟨3, ⟨fun q => absurd q c1, fun _ => ⟨trivial, h2 c1⟩⟩⟩
theorem sg_101_24 {d0 : Option Value} {d1 : Option Value} {s0 : Int32} {M : px_Mem} {Q : px_Po} (h1 : Q (some (.int s0)) M) : px_T 0 101 24 [d0, d1] [.int s0] M Q := by
  exact ⟨1, ⟨trivial, h1⟩⟩
theorem sg_102_0 {x1 : Int32} {M : px_Mem} {Q : px_Po} (h1 : px_T 0 153 0 [some (.int x1)] [] M (fun r M1 => px_T 0 102 4 [some (.ref 0), some (.int x1), none] (r.toList ++ []) M1 Q)) : px_T 0 102 0 [some (.ref 0), some (.int x1), none] [] M Q := by
  obtain ⟨n, h⟩ := px_T_cl (k := 102) (pc := 1) (y := 153) (st := [.int x1]) rfl (h1)
  exact ⟨n + 2, h⟩
theorem sg_102_4 {x1 : Int32} {d2 : Option Value} {s0 : Int32} {M : px_Mem} {Q : px_Po} (h1 : (s0 = 0) → px_T 0 151 0 [some (.ref 0)] [] M (fun r M1 => px_T 0 102 11 [some (.ref 0), some (.int x1), d2] (r.toList ++ []) M1 Q)) (h2 : (¬ (s0 = 0)) → Q (some (.int (-2))) M) : px_T 0 102 4 [some (.ref 0), some (.int x1), d2] [.int s0] M Q := by
  by_cases c1 : s0 = 0
  · obtain ⟨n, h⟩ := px_T_cl (k := 102) (pc := 8) (y := 151) (st := [.ref 0]) rfl (h1 c1)
    exact ⟨n + 3, ⟨fun q => absurd c1 q, fun _ => ⟨rfl, h⟩⟩⟩
  · exact ⟨3, ⟨fun _ => ⟨trivial, h2 c1⟩, fun q => absurd q c1⟩⟩
theorem sg_102_11 {x1 : Int32} {d2 : Option Value} {s0 : Int32} {M : px_Mem} {Q : px_Po} (h1 : (s0 = 0) → px_T 0 164 0 [some (.ref 0), some (.int x1), some (.int 1), some (.int 0), none] [] M (fun r M1 => px_T 0 102 24 [some (.ref 0), some (.int x1), d2] (r.toList ++ []) M1 Q)) (h2 : (¬ (s0 = 0)) → Q (some (.int (-2))) M) : px_T 0 102 11 [some (.ref 0), some (.int x1), d2] [.int s0] M Q := by
  by_cases c1 : s0 = 0
  · obtain ⟨n, h⟩ := px_T_cl (k := 102) (pc := 21) (y := 164) (st := [.int 0, .int 1, .int x1, .ref 0]) rfl (h1 c1)
    exact ⟨n + 6, ⟨fun _ => ⟨rfl, h⟩, fun q => absurd c1 q⟩⟩
  · exact ⟨3, ⟨fun q => absurd q c1, fun _ => ⟨trivial, h2 c1⟩⟩⟩
theorem sg_102_24 {x1 : Int32} {d2 : Option Value} {s0 : Int32} {M : px_Mem} {Q : px_Po} (h1 : ((0 : Int32) ≤ s0) → px_T 0 164 0 [some (.ref 0), some (.int x1), some (.int 0), some (.int s0), none] [] M (fun r M1 => px_T 0 102 40 [some (.ref 0), some (.int x1), some (.int s0)] (r.toList ++ []) M1 Q)) (h2 : (¬ ((0 : Int32) ≤ s0)) → Q (some (.int (-1))) M) : px_T 0 102 24 [some (.ref 0), some (.int x1), d2] [.int s0] M Q := by
  by_cases c1 : (0 : Int32) ≤ s0
  · obtain ⟨n, h⟩ := px_T_cl (k := 102) (pc := 37) (y := 164) (st := [.int s0, .int 0, .int x1, .ref 0]) rfl (h1 c1)
    exact ⟨n + 8, ⟨fun _ => ⟨rfl, h⟩, fun q => absurd c1 q⟩⟩
  · exact ⟨6, ⟨fun q => absurd q c1, fun _ => ⟨trivial, h2 c1⟩⟩⟩
theorem sg_102_40 {d0 : Option Value} {d1 : Option Value} {d2 : Option Value} {s0 : Int32} {M : px_Mem} {Q : px_Po} (h1 : Q (some (.int s0)) M) : px_T 0 102 40 [d0, d1, d2] [.int s0] M Q := by
  exact ⟨1, ⟨trivial, h1⟩⟩
theorem sg_103_0 {x1 : Int32} {x2 : Int32} {x3 : Int32} {M : px_Mem} {Q : px_Po} (h1 : px_T 0 154 0 [some (.int x1), some (.int x2)] [] M (fun r M1 => px_T 0 103 5 [some (.ref 0), some (.int x1), some (.int x2), some (.int x3)] (r.toList ++ []) M1 Q)) : px_T 0 103 0 [some (.ref 0), some (.int x1), some (.int x2), some (.int x3)] [] M Q := by
  obtain ⟨n, h⟩ := px_T_cl (k := 103) (pc := 2) (y := 154) (st := [.int x2, .int x1]) rfl (h1)
  exact ⟨n + 3, h⟩
theorem sg_103_5 {x1 : Int32} {x2 : Int32} {x3 : Int32} {s0 : Int32} {M : px_Mem} {Q : px_Po} (h1 : (s0 = 0) → px_T 0 152 0 [some (.ref 0), some (.int x3)] [] M (fun r M1 => px_T 0 103 13 [some (.ref 0), some (.int x1), some (.int x2), some (.int x3)] (r.toList ++ []) M1 Q)) (h2 : (¬ (s0 = 0)) → Q (some (.int (-2))) M) : px_T 0 103 5 [some (.ref 0), some (.int x1), some (.int x2), some (.int x3)] [.int s0] M Q := by
  by_cases c1 : s0 = 0
  · obtain ⟨n, h⟩ := px_T_cl (k := 103) (pc := 10) (y := 152) (st := [.int x3, .ref 0]) rfl (h1 c1)
    exact ⟨n + 4, ⟨fun q => absurd c1 q, fun _ => ⟨rfl, h⟩⟩⟩
  · exact ⟨3, ⟨fun _ => ⟨trivial, h2 c1⟩, fun q => absurd q c1⟩⟩
theorem sg_103_13 {x1 : Int32} {x2 : Int32} {x3 : Int32} {s0 : Int32} {M : px_Mem} {Q : px_Po} (h1 : (s0 = 0) → px_T 0 11 0 [some (.ref 28), some (.int x3)] [] M (fun r M1 => px_T 0 103 27 [some (.ref 0), some (.int x1), some (.int x2), some (.int x3)] (r.toList ++ []) M1 Q)) (h2 : (¬ (s0 = 0)) → Q (some (.int (-2))) M) : px_T 0 103 13 [some (.ref 0), some (.int x1), some (.int x2), some (.int x3)] [.int s0] M Q := by
  by_cases c1 : s0 = 0
  · obtain ⟨n, h⟩ := px_T_cl (k := 103) (pc := 24) (y := 11) (st := [.int x3, .ref 28]) rfl (h1 c1)
    exact ⟨n + 5, ⟨fun _ => ⟨rfl, ⟨rfl, h⟩⟩, fun q => absurd c1 q⟩⟩
  · exact ⟨3, ⟨fun q => absurd q c1, fun _ => ⟨trivial, h2 c1⟩⟩⟩
theorem sg_103_27 {d0 : Option Value} {x1 : Int32} {x2 : Int32} {d3 : Option Value} {s0 : Nat} {M : px_Mem} {Q : px_Po} (h_s0 : px_isW s0) (h1 : px_T 0 68 0 [some (.ref s0), some (.int x1), some (.int x2), none] [] M (fun r M1 => px_T 0 103 32 [d0, some (.int x1), some (.int x2), d3] (r.toList ++ []) M1 Q)) : px_T 0 103 27 [d0, some (.int x1), some (.int x2), d3] [.ref s0] M Q := by
  rcases h_s0 with rfl | rfl
  all_goals
    obtain ⟨n, h⟩ := px_T_cl (k := 103) (pc := 29) (y := 68) (st := [.int x2, .int x1, .ref s0]) rfl (h1)
    exact ⟨n + 3, ⟨rfl, h⟩⟩
theorem sg_103_32 {d0 : Option Value} {d1 : Option Value} {d2 : Option Value} {d3 : Option Value} {s0 : Int32} {M : px_Mem} {Q : px_Po} (h1 : Q (some (.int s0)) M) : px_T 0 103 32 [d0, d1, d2, d3] [.int s0] M Q := by
  exact ⟨1, ⟨trivial, h1⟩⟩
theorem sg_104_0 {x1 : Int32} {x2 : Int32} {M : px_Mem} {Q : px_Po} (h1 : px_T 0 153 0 [some (.int x1)] [] M (fun r M1 => px_T 0 104 4 [some (.ref 0), some (.int x1), some (.int x2), none, none, none] (r.toList ++ []) M1 Q)) : px_T 0 104 0 [some (.ref 0), some (.int x1), some (.int x2), none, none, none] [] M Q := by
  obtain ⟨n, h⟩ := px_T_cl (k := 104) (pc := 1) (y := 153) (st := [.int x1]) rfl (h1)
  exact ⟨n + 2, h⟩
theorem sg_104_4 {x1 : Int32} {x2 : Int32} {d3 : Option Value} {d4 : Option Value} {d5 : Option Value} {s0 : Int32} {M : px_Mem} {Q : px_Po} (h1 : (s0 = 0) → px_T 0 152 0 [some (.ref 0), some (.int x2)] [] M (fun r M1 => px_T 0 104 12 [some (.ref 0), some (.int x1), some (.int x2), d3, d4, d5] (r.toList ++ []) M1 Q)) (h2 : (¬ (s0 = 0)) → Q (some (.int (-2))) M) : px_T 0 104 4 [some (.ref 0), some (.int x1), some (.int x2), d3, d4, d5] [.int s0] M Q := by
  by_cases c1 : s0 = 0
  · obtain ⟨n, h⟩ := px_T_cl (k := 104) (pc := 9) (y := 152) (st := [.int x2, .ref 0]) rfl (h1 c1)
    exact ⟨n + 4, ⟨fun q => absurd c1 q, fun _ => ⟨rfl, h⟩⟩⟩
  · exact ⟨3, ⟨fun _ => ⟨trivial, h2 c1⟩, fun q => absurd q c1⟩⟩
theorem sg_104_12 {x1 : Int32} {x2 : Int32} {d3 : Option Value} {d4 : Option Value} {d5 : Option Value} {s0 : Int32} {M : px_Mem} {Q : px_Po} (h1 : (s0 = 0) → px_T 0 11 0 [some (.ref 28), some (.int x2)] [] M (fun r M1 => px_T 0 104 26 [some (.ref 0), some (.int x1), some (.int x2), d3, d4, d5] (r.toList ++ []) M1 Q)) (h2 : (¬ (s0 = 0)) → Q (some (.int (-2))) M) : px_T 0 104 12 [some (.ref 0), some (.int x1), some (.int x2), d3, d4, d5] [.int s0] M Q := by
  by_cases c1 : s0 = 0
  · obtain ⟨n, h⟩ := px_T_cl (k := 104) (pc := 23) (y := 11) (st := [.int x2, .ref 28]) rfl (h1 c1)
    exact ⟨n + 5, ⟨fun _ => ⟨rfl, ⟨rfl, h⟩⟩, fun q => absurd c1 q⟩⟩
  · exact ⟨3, ⟨fun q => absurd q c1, fun _ => ⟨trivial, h2 c1⟩⟩⟩
theorem sg_104_26 {d0 : Option Value} {x1 : Int32} {d2 : Option Value} {d3 : Option Value} {d4 : Option Value} {d5 : Option Value} {s0 : Nat} {M : px_Mem} {Q : px_Po} (h_s0 : px_isW s0) (h1 : px_T 0 104 33 [d0, some (.int x1), d2, some (.ref s0), some (.int 0), some (.int 0)] [] M Q) : px_T 0 104 26 [d0, some (.int x1), d2, d3, d4, d5] [.ref s0] M Q := by
  rcases h_s0 with rfl | rfl
  all_goals
    obtain ⟨n, h⟩ := h1
    exact ⟨n + 5, h⟩
theorem sg_104_33 {d0 : Option Value} {x1 : Int32} {d2 : Option Value} {x3 : Nat} {x4 : Int32} {x5 : Int32} {M : px_Mem} {Q : px_Po} (h_x3 : px_isW x3) (h1 : ((8 : Int32) ≤ x5) → Q (some (.int x4)) M) (h2 : (¬ ((8 : Int32) ≤ x5)) → px_T 0 68 0 [some (.ref x3), some (.int x1), some (.int x5), none] [] M (fun r M1 => px_T 0 104 47 [d0, some (.int x1), d2, some (.ref x3), some (.int x4), some (.int x5)] (r.toList ++ []) M1 Q)) : px_T 0 104 33 [d0, some (.int x1), d2, some (.ref x3), some (.int x4), some (.int x5)] [] M Q := by
  rcases h_x3 with rfl | rfl
  all_goals
    by_cases c1 : (8 : Int32) ≤ x5
    · exact ⟨5, ⟨fun _ => ⟨trivial, h1 c1⟩, fun q => absurd c1 q⟩⟩
    · obtain ⟨n, h⟩ := px_T_cl (k := 104) (pc := 44) (y := 68) (st := [.int x5, .int x1, .ref x3]) rfl (h2 c1)
      exact ⟨n + 7, ⟨fun q => absurd q c1, fun _ => ⟨rfl, h⟩⟩⟩
theorem sg_104_47 {d0 : Option Value} {x1 : Int32} {d2 : Option Value} {x3 : Nat} {x4 : Int32} {x5 : Int32} {s0 : Int32} {M : px_Mem} {Q : px_Po} (h_x3 : px_isW x3) (h1 : (s0 < 0) → px_T 0 104 33 [d0, some (.int x1), d2, some (.ref x3), some (.int x4), some (.int (x5 + 1))] [] M Q) (h2 : (¬ (s0 < 0)) → px_T 0 104 33 [d0, some (.int x1), d2, some (.ref x3), some (.int (x4 ||| (1 <<< (x5 &&& 31)))), some (.int (x5 + 1))] [] M Q) : px_T 0 104 47 [d0, some (.int x1), d2, some (.ref x3), some (.int x4), some (.int x5)] [.int s0] M Q := by
  rcases h_x3 with rfl | rfl
  all_goals
    by_cases c1 : s0 < 0
    · obtain ⟨n, h⟩ := h1 c1
      exact ⟨n + 3, ⟨fun _ => h, fun q => absurd c1 q⟩⟩
    · obtain ⟨n, h⟩ := h2 c1
      exact ⟨n + 9, ⟨fun q => absurd q c1, fun _ => h⟩⟩
theorem sg_105_0 {x1 : Int32} {x2 : Int32} {M : px_Mem} {Q : px_Po} (h1 : px_T 0 155 0 [some (.int x1)] [] M (fun r M1 => px_T 0 105 4 [some (.ref 0), some (.int x1), some (.int x2)] (r.toList ++ []) M1 Q)) : px_T 0 105 0 [some (.ref 0), some (.int x1), some (.int x2)] [] M Q := by
  obtain ⟨n, h⟩ := px_T_cl (k := 105) (pc := 1) (y := 155) (st := [.int x1]) rfl (h1)
  exact ⟨n + 2, h⟩
theorem sg_105_4 {x1 : Int32} {x2 : Int32} {s0 : Int32} {M : px_Mem} {Q : px_Po} (h1 : (s0 = 0) → px_T 0 152 0 [some (.ref 0), some (.int x2)] [] M (fun r M1 => px_T 0 105 12 [some (.ref 0), some (.int x1), some (.int x2)] (r.toList ++ []) M1 Q)) (h2 : (¬ (s0 = 0)) → Q (some (.int (-2))) M) : px_T 0 105 4 [some (.ref 0), some (.int x1), some (.int x2)] [.int s0] M Q := by
  by_cases c1 : s0 = 0
  · obtain ⟨n, h⟩ := px_T_cl (k := 105) (pc := 9) (y := 152) (st := [.int x2, .ref 0]) rfl (h1 c1)
    exact ⟨n + 4, ⟨fun q => absurd c1 q, fun _ => ⟨rfl, h⟩⟩⟩
  · exact ⟨3, ⟨fun _ => ⟨trivial, h2 c1⟩, fun q => absurd q c1⟩⟩
theorem sg_105_12 {x1 : Int32} {x2 : Int32} {s0 : Int32} {M : px_Mem} {Q : px_Po} (h1 : (s0 = 0) → px_T 0 11 0 [some (.ref 28), some (.int x2)] [] M (fun r M1 => px_T 0 105 26 [some (.ref 0), some (.int x1), some (.int x2)] (r.toList ++ []) M1 Q)) (h2 : (¬ (s0 = 0)) → Q (some (.int (-2))) M) : px_T 0 105 12 [some (.ref 0), some (.int x1), some (.int x2)] [.int s0] M Q := by
  by_cases c1 : s0 = 0
  · obtain ⟨n, h⟩ := px_T_cl (k := 105) (pc := 23) (y := 11) (st := [.int x2, .ref 28]) rfl (h1 c1)
    exact ⟨n + 5, ⟨fun _ => ⟨rfl, ⟨rfl, h⟩⟩, fun q => absurd c1 q⟩⟩
  · exact ⟨3, ⟨fun q => absurd q c1, fun _ => ⟨trivial, h2 c1⟩⟩⟩
theorem sg_105_26 {d0 : Option Value} {x1 : Int32} {d2 : Option Value} {s0 : Nat} {M : px_Mem} {Q : px_Po} (h_s0 : px_isW s0) (h1 : vp_in x1 200) (h2 : Q (some (.int (M.1 (s0 + 6) x1.toNatClampNeg))) M) : px_T 0 105 26 [d0, some (.int x1), d2] [.ref s0] M Q := by
  rcases h_s0 with rfl | rfl
  all_goals
    exact ⟨4, ⟨rfl, ⟨Or.inl ⟨0, 200, Or.inl rfl, rfl, h1⟩, ⟨trivial, h2⟩⟩⟩⟩
theorem sg_106_0 {x1 : Int32} {x2 : Int32} {M : px_Mem} {Q : px_Po} (h1 : px_T 0 155 0 [some (.int x1)] [] M (fun r M1 => px_T 0 106 4 [some (.ref 0), some (.int x1), some (.int x2), none] (r.toList ++ []) M1 Q)) : px_T 0 106 0 [some (.ref 0), some (.int x1), some (.int x2), none] [] M Q := by
  obtain ⟨n, h⟩ := px_T_cl (k := 106) (pc := 1) (y := 155) (st := [.int x1]) rfl (h1)
  exact ⟨n + 2, h⟩
theorem sg_106_4 {x1 : Int32} {x2 : Int32} {d3 : Option Value} {s0 : Int32} {M : px_Mem} {Q : px_Po} (h1 : (s0 = 0) → px_T 0 152 0 [some (.ref 0), some (.int x2)] [] M (fun r M1 => px_T 0 106 12 [some (.ref 0), some (.int x1), some (.int x2), d3] (r.toList ++ []) M1 Q)) (h2 : (¬ (s0 = 0)) → Q (some (.int (-2))) M) : px_T 0 106 4 [some (.ref 0), some (.int x1), some (.int x2), d3] [.int s0] M Q := by
  by_cases c1 : s0 = 0
  · obtain ⟨n, h⟩ := px_T_cl (k := 106) (pc := 9) (y := 152) (st := [.int x2, .ref 0]) rfl (h1 c1)
    exact ⟨n + 4, ⟨fun q => absurd c1 q, fun _ => ⟨rfl, h⟩⟩⟩
  · exact ⟨3, ⟨fun _ => ⟨trivial, h2 c1⟩, fun q => absurd q c1⟩⟩
theorem sg_106_12 {x1 : Int32} {x2 : Int32} {d3 : Option Value} {s0 : Int32} {M : px_Mem} {Q : px_Po} (h1 : (s0 = 0) → px_T 0 11 0 [some (.ref 28), some (.int x2)] [] M (fun r M1 => px_T 0 106 26 [some (.ref 0), some (.int x1), some (.int x2), d3] (r.toList ++ []) M1 Q)) (h2 : (¬ (s0 = 0)) → Q (some (.int (-2))) M) : px_T 0 106 12 [some (.ref 0), some (.int x1), some (.int x2), d3] [.int s0] M Q := by
  by_cases c1 : s0 = 0
  · obtain ⟨n, h⟩ := px_T_cl (k := 106) (pc := 23) (y := 11) (st := [.int x2, .ref 28]) rfl (h1 c1)
    exact ⟨n + 5, ⟨fun _ => ⟨rfl, ⟨rfl, h⟩⟩, fun q => absurd c1 q⟩⟩
  · exact ⟨3, ⟨fun q => absurd q c1, fun _ => ⟨trivial, h2 c1⟩⟩⟩
theorem sg_106_26 {d0 : Option Value} {x1 : Int32} {d2 : Option Value} {d3 : Option Value} {s0 : Nat} {M : px_Mem} {Q : px_Po} (h_s0 : px_isW s0) (h1 : ((M.1 s0 1) ≤ x1) → Q (some (.int (-1))) M) (h2 : (¬ ((M.1 s0 1) ≤ x1)) → vp_in x1 200) (h3 : (¬ ((M.1 s0 1) ≤ x1)) → Q (some (.int (M.1 (s0 + 5) x1.toNatClampNeg))) M) : px_T 0 106 26 [d0, some (.int x1), d2, d3] [.ref s0] M Q := by
  rcases h_s0 with rfl | rfl
  all_goals
    by_cases c1 : (M.1 s0 1) ≤ x1
    · exact ⟨7, ⟨rfl, ⟨fun _ => ⟨trivial, h1 c1⟩, fun q => absurd c1 q⟩⟩⟩
    · exact ⟨11, ⟨rfl, ⟨fun q => absurd q c1, fun _ => ⟨rfl, ⟨Or.inl ⟨0, 200, Or.inl rfl, rfl, (h2 c1)⟩, ⟨trivial, h3 c1⟩⟩⟩⟩⟩⟩
theorem sg_107_0 {x1 : Int32} {M : px_Mem} {Q : px_Po} (h1 : px_T 0 152 0 [some (.ref 0), some (.int x1)] [] M (fun r M1 => px_T 0 107 5 [some (.ref 0), some (.int x1), none, none, none] (r.toList ++ []) M1 Q)) : px_T 0 107 0 [some (.ref 0), some (.int x1), none, none, none] [] M Q := by
  obtain ⟨n, h⟩ := px_T_cl (k := 107) (pc := 2) (y := 152) (st := [.int x1, .ref 0]) rfl (h1)
  exact ⟨n + 3, ⟨rfl, h⟩⟩
theorem sg_107_5 {x1 : Int32} {d2 : Option Value} {d3 : Option Value} {d4 : Option Value} {s0 : Int32} {M : px_Mem} {Q : px_Po} (h1 : (s0 = 0) → px_T 0 11 0 [some (.ref 28), some (.int x1)] [] M (fun r M1 => px_T 0 107 19 [some (.ref 0), some (.int x1), d2, d3, d4] (r.toList ++ []) M1 Q)) (h2 : (¬ (s0 = 0)) → Q (some (.int (-2))) M) : px_T 0 107 5 [some (.ref 0), some (.int x1), d2, d3, d4] [.int s0] M Q := by
  by_cases c1 : s0 = 0
  · obtain ⟨n, h⟩ := px_T_cl (k := 107) (pc := 16) (y := 11) (st := [.int x1, .ref 28]) rfl (h1 c1)
    exact ⟨n + 5, ⟨fun _ => ⟨rfl, ⟨rfl, h⟩⟩, fun q => absurd c1 q⟩⟩
  · exact ⟨3, ⟨fun q => absurd q c1, fun _ => ⟨trivial, h2 c1⟩⟩⟩
theorem sg_107_19 {d0 : Option Value} {d1 : Option Value} {d2 : Option Value} {d3 : Option Value} {d4 : Option Value} {s0 : Nat} {M : px_Mem} {Q : px_Po} (h_s0 : px_isW s0) (h1 : px_T 0 107 25 [d0, d1, some (.ref s0), some (.int 0), some (.int 0)] [] M Q) : px_T 0 107 19 [d0, d1, d2, d3, d4] [.ref s0] M Q := by
  rcases h_s0 with rfl | rfl
  all_goals
    obtain ⟨n, h⟩ := h1
    exact ⟨n + 5, h⟩
theorem sg_107_25 {d0 : Option Value} {d1 : Option Value} {x2 : Nat} {x3 : Int32} {x4 : Int32} {M : px_Mem} {Q : px_Po} (h_x2 : px_isW x2) (h1 : ((M.1 x2 1) ≤ x4) → Q (some (.int x3)) M) (h2 : (¬ ((M.1 x2 1) ≤ x4)) → vp_in x4 200) (h3 : (¬ ((M.1 x2 1) ≤ x4)) → ((M.1 (x2 + 6) x4.toNatClampNeg) ≤ 0) → px_T 0 107 25 [d0, d1, some (.ref x2), some (.int x3), some (.int (x4 + 1))] [] M Q) (h4 : (¬ ((M.1 x2 1) ≤ x4)) → (¬ ((M.1 (x2 + 6) x4.toNatClampNeg) ≤ 0)) → px_T 0 107 25 [d0, d1, some (.ref x2), some (.int (x3 + 1)), some (.int (x4 + 1))] [] M Q) : px_T 0 107 25 [d0, d1, some (.ref x2), some (.int x3), some (.int x4)] [] M Q := by
  rcases h_x2 with rfl | rfl
  all_goals
    by_cases c1 : (M.1 x2 1) ≤ x4
    · exact ⟨6, ⟨rfl, ⟨fun _ => ⟨trivial, h1 c1⟩, fun q => absurd c1 q⟩⟩⟩
    · by_cases c2 : (M.1 (x2 + 6) x4.toNatClampNeg) ≤ 0
      · obtain ⟨n, h⟩ := h3 c1 c2
        exact ⟨n + 11, ⟨rfl, ⟨fun q => absurd q c1, fun _ => ⟨rfl, ⟨Or.inl ⟨0, 200, Or.inl rfl, rfl, (h2 c1)⟩, ⟨fun _ => h, fun q => absurd c2 q⟩⟩⟩⟩⟩⟩
      · obtain ⟨n, h⟩ := h4 c1 c2
        exact ⟨n + 12, ⟨rfl, ⟨fun q => absurd q c1, fun _ => ⟨rfl, ⟨Or.inl ⟨0, 200, Or.inl rfl, rfl, (h2 c1)⟩, ⟨fun q => absurd q c2, fun _ => h⟩⟩⟩⟩⟩⟩
theorem sg_108_0 {x1 : Int32} {x2 : Int32} {M : px_Mem} {Q : px_Po} (h1 : px_T 0 155 0 [some (.int x1)] [] M (fun r M1 => px_T 0 108 4 [some (.ref 0), some (.int x1), some (.int x2)] (r.toList ++ []) M1 Q)) : px_T 0 108 0 [some (.ref 0), some (.int x1), some (.int x2)] [] M Q := by
  obtain ⟨n, h⟩ := px_T_cl (k := 108) (pc := 1) (y := 155) (st := [.int x1]) rfl (h1)
  exact ⟨n + 2, h⟩
theorem sg_108_4 {x1 : Int32} {x2 : Int32} {s0 : Int32} {M : px_Mem} {Q : px_Po} (h1 : (s0 = 0) → px_T 0 152 0 [some (.ref 0), some (.int x2)] [] M (fun r M1 => px_T 0 108 12 [some (.ref 0), some (.int x1), some (.int x2)] (r.toList ++ []) M1 Q)) (h2 : (¬ (s0 = 0)) → Q (some (.int (-2))) M) : px_T 0 108 4 [some (.ref 0), some (.int x1), some (.int x2)] [.int s0] M Q := by
  by_cases c1 : s0 = 0
  · obtain ⟨n, h⟩ := px_T_cl (k := 108) (pc := 9) (y := 152) (st := [.int x2, .ref 0]) rfl (h1 c1)
    exact ⟨n + 4, ⟨fun q => absurd c1 q, fun _ => ⟨rfl, h⟩⟩⟩
  · exact ⟨3, ⟨fun _ => ⟨trivial, h2 c1⟩, fun q => absurd q c1⟩⟩
theorem sg_108_12 {x1 : Int32} {x2 : Int32} {s0 : Int32} {M : px_Mem} {Q : px_Po} (h1 : (s0 = 0) → px_T 0 11 0 [some (.ref 28), some (.int x2)] [] M (fun r M1 => px_T 0 108 26 [some (.ref 0), some (.int x1), some (.int x2)] (r.toList ++ []) M1 Q)) (h2 : (¬ (s0 = 0)) → Q (some (.int (-2))) M) : px_T 0 108 12 [some (.ref 0), some (.int x1), some (.int x2)] [.int s0] M Q := by
  by_cases c1 : s0 = 0
  · obtain ⟨n, h⟩ := px_T_cl (k := 108) (pc := 23) (y := 11) (st := [.int x2, .ref 28]) rfl (h1 c1)
    exact ⟨n + 5, ⟨fun _ => ⟨rfl, ⟨rfl, h⟩⟩, fun q => absurd c1 q⟩⟩
  · exact ⟨3, ⟨fun q => absurd q c1, fun _ => ⟨trivial, h2 c1⟩⟩⟩
theorem sg_108_26 {d0 : Option Value} {x1 : Int32} {d2 : Option Value} {s0 : Nat} {M : px_Mem} {Q : px_Po} (h_s0 : px_isW s0) (h1 : px_T 0 70 0 [some (.ref s0), some (.int x1), none] [] M (fun r M1 => px_T 0 108 30 [d0, some (.int x1), d2] (r.toList ++ []) M1 Q)) : px_T 0 108 26 [d0, some (.int x1), d2] [.ref s0] M Q := by
  rcases h_s0 with rfl | rfl
  all_goals
    obtain ⟨n, h⟩ := px_T_cl (k := 108) (pc := 27) (y := 70) (st := [.int x1, .ref s0]) rfl (h1)
    exact ⟨n + 2, ⟨rfl, h⟩⟩
theorem sg_108_30 {d0 : Option Value} {d1 : Option Value} {d2 : Option Value} {s0 : Int32} {M : px_Mem} {Q : px_Po} (h1 : Q (some (.int s0)) M) : px_T 0 108 30 [d0, d1, d2] [.int s0] M Q := by
  exact ⟨1, ⟨trivial, h1⟩⟩
theorem sg_109_0 {x1 : Int32} {M : px_Mem} {Q : px_Po} (h1 : px_T 0 152 0 [some (.ref 0), some (.int x1)] [] M (fun r M1 => px_T 0 109 5 [some (.ref 0), some (.int x1), none, none, none] (r.toList ++ []) M1 Q)) : px_T 0 109 0 [some (.ref 0), some (.int x1), none, none, none] [] M Q := by
  obtain ⟨n, h⟩ := px_T_cl (k := 109) (pc := 2) (y := 152) (st := [.int x1, .ref 0]) rfl (h1)
  exact ⟨n + 3, ⟨rfl, h⟩⟩
theorem sg_109_5 {x1 : Int32} {d2 : Option Value} {d3 : Option Value} {d4 : Option Value} {s0 : Int32} {M : px_Mem} {Q : px_Po} (h1 : (s0 = 0) → px_T 0 11 0 [some (.ref 28), some (.int x1)] [] M (fun r M1 => px_T 0 109 19 [some (.ref 0), some (.int x1), d2, d3, d4] (r.toList ++ []) M1 Q)) (h2 : (¬ (s0 = 0)) → Q (some (.int (-2))) M) : px_T 0 109 5 [some (.ref 0), some (.int x1), d2, d3, d4] [.int s0] M Q := by
  by_cases c1 : s0 = 0
  · obtain ⟨n, h⟩ := px_T_cl (k := 109) (pc := 16) (y := 11) (st := [.int x1, .ref 28]) rfl (h1 c1)
    exact ⟨n + 5, ⟨fun _ => ⟨rfl, ⟨rfl, h⟩⟩, fun q => absurd c1 q⟩⟩
  · exact ⟨3, ⟨fun q => absurd q c1, fun _ => ⟨trivial, h2 c1⟩⟩⟩
theorem sg_109_19 {d0 : Option Value} {d1 : Option Value} {d2 : Option Value} {d3 : Option Value} {d4 : Option Value} {s0 : Nat} {M : px_Mem} {Q : px_Po} (h_s0 : px_isW s0) (h1 : px_T 0 109 25 [d0, d1, some (.ref s0), some (.int 0), some (.int 0)] [] M Q) : px_T 0 109 19 [d0, d1, d2, d3, d4] [.ref s0] M Q := by
  rcases h_s0 with rfl | rfl
  all_goals
    obtain ⟨n, h⟩ := h1
    exact ⟨n + 5, h⟩
theorem sg_109_25 {d0 : Option Value} {d1 : Option Value} {x2 : Nat} {x3 : Int32} {x4 : Int32} {M : px_Mem} {Q : px_Po} (h_x2 : px_isW x2) (h1 : ((M.1 x2 1) ≤ x4) → Q (some (.int x3)) M) (h2 : (¬ ((M.1 x2 1) ≤ x4)) → vp_in x4 200) (h3 : (¬ ((M.1 x2 1) ≤ x4)) → ((M.1 (x2 + 5) x4.toNatClampNeg) = 1) → px_T 0 70 0 [some (.ref x2), some (.int x4), none] [] M (fun r M1 => px_T 0 109 53 [d0, d1, some (.ref x2), some (.int x3), some (.int x4)] (r.toList ++ [.int 0, .int x3]) M1 Q)) (h4 : (¬ ((M.1 x2 1) ≤ x4)) → (¬ ((M.1 (x2 + 5) x4.toNatClampNeg) = 1)) → px_T 0 109 25 [d0, d1, some (.ref x2), some (.int x3), some (.int (x4 + 1))] [] M Q) : px_T 0 109 25 [d0, d1, some (.ref x2), some (.int x3), some (.int x4)] [] M Q := by
  rcases h_x2 with rfl | rfl
  all_goals
    by_cases c1 : (M.1 x2 1) ≤ x4
    · exact ⟨6, ⟨rfl, ⟨fun _ => ⟨trivial, h1 c1⟩, fun q => absurd c1 q⟩⟩⟩
    · by_cases c2 : (M.1 (x2 + 5) x4.toNatClampNeg) = 1
      · obtain ⟨n, h⟩ := px_T_cl (k := 109) (pc := 50) (y := 70) (st := [.int x4, .ref x2, .int 0, .int x3]) rfl (h3 c1 c2)
        exact ⟨n + 15, ⟨rfl, ⟨fun q => absurd q c1, fun _ => ⟨rfl, ⟨Or.inl ⟨0, 200, Or.inl rfl, rfl, (h2 c1)⟩, ⟨fun q => absurd c2 q, fun _ => ⟨rfl, h⟩⟩⟩⟩⟩⟩⟩
      · obtain ⟨n, h⟩ := h4 c1 c2
        exact ⟨n + 12, ⟨rfl, ⟨fun q => absurd q c1, fun _ => ⟨rfl, ⟨Or.inl ⟨0, 200, Or.inl rfl, rfl, (h2 c1)⟩, ⟨fun _ => h, fun q => absurd q c2⟩⟩⟩⟩⟩⟩
theorem sg_109_53 {d0 : Option Value} {d1 : Option Value} {x2 : Nat} {d3 : Option Value} {x4 : Int32} {s0 : Int32} {s1 : Int32} {s2 : Int32} {M : px_Mem} {Q : px_Po} (h_x2 : px_isW x2) (h1 : px_T 0 109 25 [d0, d1, some (.ref x2), some (.int (s2 + (if s1 < s0 then s0 else s1))), some (.int (x4 + 1))] [] M Q) : px_T 0 109 53 [d0, d1, some (.ref x2), d3, some (.int x4)] [.int s0, .int s1, .int s2] M Q := by
  rcases h_x2 with rfl | rfl
  all_goals
    obtain ⟨n, h⟩ := h1
    exact ⟨n + 5, ⟨(by decide), (by decide), (by decide), h⟩⟩
theorem sg_110_0 {x1 : Int32} {x2 : Int32} {x3 : Int32} {M : px_Mem} {Q : px_Po} (h1 : px_T 0 154 0 [some (.int x1), some (.int x2)] [] M (fun r M1 => px_T 0 110 5 [some (.ref 0), some (.int x1), some (.int x2), some (.int x3), none] (r.toList ++ []) M1 Q)) : px_T 0 110 0 [some (.ref 0), some (.int x1), some (.int x2), some (.int x3), none] [] M Q := by
  obtain ⟨n, h⟩ := px_T_cl (k := 110) (pc := 2) (y := 154) (st := [.int x2, .int x1]) rfl (h1)
  exact ⟨n + 3, h⟩
theorem sg_110_5 {x1 : Int32} {x2 : Int32} {x3 : Int32} {d4 : Option Value} {s0 : Int32} {M : px_Mem} {Q : px_Po} (h1 : (s0 = 0) → px_T 0 152 0 [some (.ref 0), some (.int x3)] [] M (fun r M1 => px_T 0 110 13 [some (.ref 0), some (.int x1), some (.int x2), some (.int x3), d4] (r.toList ++ []) M1 Q)) (h2 : (¬ (s0 = 0)) → Q (some (.int (-2))) M) : px_T 0 110 5 [some (.ref 0), some (.int x1), some (.int x2), some (.int x3), d4] [.int s0] M Q := by
  by_cases c1 : s0 = 0
  · obtain ⟨n, h⟩ := px_T_cl (k := 110) (pc := 10) (y := 152) (st := [.int x3, .ref 0]) rfl (h1 c1)
    exact ⟨n + 4, ⟨fun q => absurd c1 q, fun _ => ⟨rfl, h⟩⟩⟩
  · exact ⟨3, ⟨fun _ => ⟨trivial, h2 c1⟩, fun q => absurd q c1⟩⟩
theorem sg_110_13 {x1 : Int32} {x2 : Int32} {x3 : Int32} {d4 : Option Value} {s0 : Int32} {M : px_Mem} {Q : px_Po} (h1 : (s0 = 0) → px_T 0 11 0 [some (.ref 28), some (.int x3)] [] M (fun r M1 => px_T 0 110 27 [some (.ref 0), some (.int x1), some (.int x2), some (.int x3), d4] (r.toList ++ []) M1 Q)) (h2 : (¬ (s0 = 0)) → Q (some (.int (-2))) M) : px_T 0 110 13 [some (.ref 0), some (.int x1), some (.int x2), some (.int x3), d4] [.int s0] M Q := by
  by_cases c1 : s0 = 0
  · obtain ⟨n, h⟩ := px_T_cl (k := 110) (pc := 24) (y := 11) (st := [.int x3, .ref 28]) rfl (h1 c1)
    exact ⟨n + 5, ⟨fun _ => ⟨rfl, ⟨rfl, h⟩⟩, fun q => absurd c1 q⟩⟩
  · exact ⟨3, ⟨fun q => absurd q c1, fun _ => ⟨trivial, h2 c1⟩⟩⟩
theorem sg_110_27 {x1 : Int32} {x2 : Int32} {d3 : Option Value} {d4 : Option Value} {s0 : Nat} {M : px_Mem} {Q : px_Po} (h_s0 : px_isW s0) (h1 : px_T 0 44 0 [some (.ref 38), some (.ref s0), none, none, none] [] M (fun r M1 => px_T 0 110 38 [some (.ref 0), some (.int x1), some (.int x2), d3, some (.ref s0)] (r.toList ++ []) M1 Q)) : px_T 0 110 27 [some (.ref 0), some (.int x1), some (.int x2), d3, d4] [.ref s0] M Q := by
  rcases h_s0 with rfl | rfl
  all_goals
    obtain ⟨n, h⟩ := px_T_cl (k := 110) (pc := 35) (y := 44) (st := [.ref s0, .ref 38]) rfl (h1)
    exact ⟨n + 5, ⟨rfl, ⟨rfl, h⟩⟩⟩
theorem sg_110_38 {x1 : Int32} {x2 : Int32} {d3 : Option Value} {x4 : Nat} {M : px_Mem} {Q : px_Po} (h_x4 : px_isW x4) (h1 : px_T 0 68 0 [some (.ref x4), some (.int x1), some (.int x2), none] [] M (fun r M1 => px_T 0 110 49 [some (.ref 0), some (.int x1), some (.int x2), d3, some (.ref x4)] (r.toList ++ [.ref 38]) M1 Q)) : px_T 0 110 38 [some (.ref 0), some (.int x1), some (.int x2), d3, some (.ref x4)] [] M Q := by
  rcases h_x4 with rfl | rfl
  all_goals
    obtain ⟨n, h⟩ := px_T_cl (k := 110) (pc := 46) (y := 68) (st := [.int x2, .int x1, .ref x4, .ref 38]) rfl (h1)
    exact ⟨n + 6, ⟨rfl, ⟨rfl, h⟩⟩⟩
theorem sg_110_49 {d0 : Option Value} {d1 : Option Value} {d2 : Option Value} {d3 : Option Value} {d4 : Option Value} {s0 : Int32} {M : px_Mem} {Q : px_Po} (h1 : px_T 0 45 0 [some (.ref 38), some (.int s0)] [] M (fun r M1 => px_T 0 110 52 [d0, d1, d2, d3, d4] (r.toList ++ []) M1 Q)) : px_T 0 110 49 [d0, d1, d2, d3, d4] [.int s0, .ref 38] M Q := by
  obtain ⟨n, h⟩ := px_T_cl (k := 110) (pc := 49) (y := 45) (st := [.int s0, .ref 38]) rfl (h1)
  exact ⟨n + 1, ⟨rfl, h⟩⟩
theorem sg_110_52 {d0 : Option Value} {d1 : Option Value} {d2 : Option Value} {d3 : Option Value} {d4 : Option Value} {s0 : Int32} {M : px_Mem} {Q : px_Po} (h1 : Q (some (.int s0)) M) : px_T 0 110 52 [d0, d1, d2, d3, d4] [.int s0] M Q := by
  exact ⟨1, ⟨trivial, h1⟩⟩
theorem sg_111_0 {x1 : Int32} {x2 : Int32} {x3 : Int32} {M : px_Mem} {Q : px_Po} (h1 : px_T 0 154 0 [some (.int x1), some (.int x2)] [] M (fun r M1 => px_T 0 111 5 [some (.ref 0), some (.int x1), some (.int x2), some (.int x3), none, none] (r.toList ++ []) M1 Q)) : px_T 0 111 0 [some (.ref 0), some (.int x1), some (.int x2), some (.int x3), none, none] [] M Q := by
  obtain ⟨n, h⟩ := px_T_cl (k := 111) (pc := 2) (y := 154) (st := [.int x2, .int x1]) rfl (h1)
  exact ⟨n + 3, h⟩
theorem sg_111_5 {x1 : Int32} {x2 : Int32} {x3 : Int32} {d4 : Option Value} {d5 : Option Value} {s0 : Int32} {M : px_Mem} {Q : px_Po} (h1 : (s0 = 0) → px_T 0 152 0 [some (.ref 0), some (.int x3)] [] M (fun r M1 => px_T 0 111 13 [some (.ref 0), some (.int x1), some (.int x2), some (.int x3), d4, d5] (r.toList ++ []) M1 Q)) (h2 : (¬ (s0 = 0)) → Q (some (.int (-2))) M) : px_T 0 111 5 [some (.ref 0), some (.int x1), some (.int x2), some (.int x3), d4, d5] [.int s0] M Q := by
  by_cases c1 : s0 = 0
  · obtain ⟨n, h⟩ := px_T_cl (k := 111) (pc := 10) (y := 152) (st := [.int x3, .ref 0]) rfl (h1 c1)
    exact ⟨n + 4, ⟨fun q => absurd c1 q, fun _ => ⟨rfl, h⟩⟩⟩
  · exact ⟨3, ⟨fun _ => ⟨trivial, h2 c1⟩, fun q => absurd q c1⟩⟩
theorem sg_111_13 {x1 : Int32} {x2 : Int32} {x3 : Int32} {d4 : Option Value} {d5 : Option Value} {s0 : Int32} {M : px_Mem} {Q : px_Po} (h1 : (s0 = 0) → px_T 0 11 0 [some (.ref 28), some (.int x3)] [] M (fun r M1 => px_T 0 111 27 [some (.ref 0), some (.int x1), some (.int x2), some (.int x3), d4, d5] (r.toList ++ []) M1 Q)) (h2 : (¬ (s0 = 0)) → Q (some (.int (-2))) M) : px_T 0 111 13 [some (.ref 0), some (.int x1), some (.int x2), some (.int x3), d4, d5] [.int s0] M Q := by
  by_cases c1 : s0 = 0
  · obtain ⟨n, h⟩ := px_T_cl (k := 111) (pc := 24) (y := 11) (st := [.int x3, .ref 28]) rfl (h1 c1)
    exact ⟨n + 5, ⟨fun _ => ⟨rfl, ⟨rfl, h⟩⟩, fun q => absurd c1 q⟩⟩
  · exact ⟨3, ⟨fun q => absurd q c1, fun _ => ⟨trivial, h2 c1⟩⟩⟩
theorem sg_111_27 {d0 : Option Value} {x1 : Int32} {x2 : Int32} {d3 : Option Value} {d4 : Option Value} {d5 : Option Value} {s0 : Nat} {M : px_Mem} {Q : px_Po} (h_s0 : px_isW s0) (h1 : px_T 0 68 0 [some (.ref s0), some (.int x1), some (.int x2), none] [] M (fun r M1 => px_T 0 111 36 [d0, some (.int x1), some (.int x2), d3, some (.ref s0), d5] (r.toList ++ []) M1 Q)) : px_T 0 111 27 [d0, some (.int x1), some (.int x2), d3, d4, d5] [.ref s0] M Q := by
  rcases h_s0 with rfl | rfl
  all_goals
    obtain ⟨n, h⟩ := px_T_cl (k := 111) (pc := 33) (y := 68) (st := [.int x2, .int x1, .ref s0]) rfl (h1)
    exact ⟨n + 5, ⟨rfl, h⟩⟩
theorem sg_111_36 {d0 : Option Value} {d1 : Option Value} {d2 : Option Value} {d3 : Option Value} {x4 : Nat} {d5 : Option Value} {s0 : Int32} {M : px_Mem} {Q : px_Po} (h_x4 : px_isW x4) (h1 : ((0 : Int32) ≤ s0) → px_T 0 69 0 [some (.ref x4), some (.int s0), none, none] [] M (fun r M1 => px_T 0 111 54 [d0, d1, d2, d3, some (.ref x4), some (.int s0)] (r.toList ++ []) M1 Q)) (h2 : (¬ ((0 : Int32) ≤ s0)) → Q (some (.int 0)) M) : px_T 0 111 36 [d0, d1, d2, d3, some (.ref x4), d5] [.int s0] M Q := by
  rcases h_x4 with rfl | rfl
  all_goals
    by_cases c1 : (0 : Int32) ≤ s0
    · obtain ⟨n, h⟩ := px_T_cl (k := 111) (pc := 51) (y := 69) (st := [.int s0, .ref x4]) rfl (h1 c1)
      exact ⟨n + 6, ⟨fun _ => ⟨rfl, h⟩, fun q => absurd c1 q⟩⟩
    · exact ⟨6, ⟨fun q => absurd q c1, fun _ => ⟨trivial, h2 c1⟩⟩⟩
theorem sg_111_54 {d0 : Option Value} {d1 : Option Value} {d2 : Option Value} {d3 : Option Value} {d4 : Option Value} {d5 : Option Value} {s0 : Int32} {M : px_Mem} {Q : px_Po} (h1 : Q (some (.int s0)) M) : px_T 0 111 54 [d0, d1, d2, d3, d4, d5] [.int s0] M Q := by
  exact ⟨1, ⟨trivial, h1⟩⟩
theorem sg_112_0 {x1 : Int32} {x2 : Int32} {M : px_Mem} {Q : px_Po} (h1 : px_T 0 152 0 [some (.ref 0), some (.int x1)] [] M (fun r M1 => px_T 0 112 5 [some (.ref 0), some (.int x1), some (.int x2)] (r.toList ++ []) M1 Q)) : px_T 0 112 0 [some (.ref 0), some (.int x1), some (.int x2)] [] M Q := by
  obtain ⟨n, h⟩ := px_T_cl (k := 112) (pc := 2) (y := 152) (st := [.int x1, .ref 0]) rfl (h1)
  exact ⟨n + 3, ⟨rfl, h⟩⟩
theorem sg_112_5 {x1 : Int32} {x2 : Int32} {s0 : Int32} {M : px_Mem} {Q : px_Po} (h1 : (s0 = 0) → px_T 0 152 0 [some (.ref 0), some (.int x2)] [] M (fun r M1 => px_T 0 112 13 [some (.ref 0), some (.int x1), some (.int x2)] (r.toList ++ []) M1 Q)) (h2 : (¬ (s0 = 0)) → Q (some (.int (-2))) M) : px_T 0 112 5 [some (.ref 0), some (.int x1), some (.int x2)] [.int s0] M Q := by
  by_cases c1 : s0 = 0
  · obtain ⟨n, h⟩ := px_T_cl (k := 112) (pc := 10) (y := 152) (st := [.int x2, .ref 0]) rfl (h1 c1)
    exact ⟨n + 4, ⟨fun q => absurd c1 q, fun _ => ⟨rfl, h⟩⟩⟩
  · exact ⟨3, ⟨fun _ => ⟨trivial, h2 c1⟩, fun q => absurd q c1⟩⟩
theorem sg_112_13 {x1 : Int32} {x2 : Int32} {s0 : Int32} {M : px_Mem} {Q : px_Po} (h1 : (s0 = 0) → px_T 0 48 0 [some (.ref 38), none] [] M (fun r M1 => px_T 0 112 26 [some (.ref 0), some (.int x1), some (.int x2)] (r.toList ++ []) M1 Q)) (h2 : (¬ (s0 = 0)) → Q (some (.int (-2))) M) : px_T 0 112 13 [some (.ref 0), some (.int x1), some (.int x2)] [.int s0] M Q := by
  by_cases c1 : s0 = 0
  · obtain ⟨n, h⟩ := px_T_cl (k := 112) (pc := 23) (y := 48) (st := [.ref 38]) rfl (h1 c1)
    exact ⟨n + 4, ⟨fun _ => ⟨rfl, ⟨rfl, h⟩⟩, fun q => absurd c1 q⟩⟩
  · exact ⟨3, ⟨fun q => absurd q c1, fun _ => ⟨trivial, h2 c1⟩⟩⟩
theorem sg_112_26 {x1 : Int32} {x2 : Int32} {M : px_Mem} {Q : px_Po} (h1 : px_T 0 46 0 [some (.ref 38), some (.int x1)] [] M (fun r M1 => px_T 0 112 34 [some (.ref 0), some (.int x1), some (.int x2)] (r.toList ++ []) M1 Q)) : px_T 0 112 26 [some (.ref 0), some (.int x1), some (.int x2)] [] M Q := by
  obtain ⟨n, h⟩ := px_T_cl (k := 112) (pc := 31) (y := 46) (st := [.int x1, .ref 38]) rfl (h1)
  exact ⟨n + 4, ⟨rfl, ⟨rfl, h⟩⟩⟩
theorem sg_112_34 {d1 : Option Value} {x2 : Int32} {s0 : Int32} {M : px_Mem} {Q : px_Po} (h1 : px_T 0 46 0 [some (.ref 38), some (.int x2)] [] M (fun r M1 => px_T 0 112 42 [some (.ref 0), d1, some (.int x2)] (r.toList ++ [.int s0]) M1 Q)) : px_T 0 112 34 [some (.ref 0), d1, some (.int x2)] [.int s0] M Q := by
  obtain ⟨n, h⟩ := px_T_cl (k := 112) (pc := 39) (y := 46) (st := [.int x2, .ref 38, .int s0]) rfl (h1)
  exact ⟨n + 4, ⟨rfl, ⟨rfl, h⟩⟩⟩
theorem sg_112_42 {d0 : Option Value} {d1 : Option Value} {d2 : Option Value} {s0 : Int32} {s1 : Int32} {M : px_Mem} {Q : px_Po} (h1 : (s1 = s0) → Q (some (.int 1)) M) (h2 : (¬ (s1 = s0)) → Q (some (.int 0)) M) : px_T 0 112 42 [d0, d1, d2] [.int s0, .int s1] M Q := by
  by_cases c1 : s1 = s0
  · exact ⟨4, ⟨fun q => absurd c1 q, fun _ => ⟨trivial, h1 c1⟩⟩⟩
  · exact ⟨3, ⟨fun _ => ⟨trivial, h2 c1⟩, fun q => absurd q c1⟩⟩
theorem sg_113_0 {x1 : Int32} {M : px_Mem} {Q : px_Po} (h1 : px_T 0 152 0 [some (.ref 0), some (.int x1)] [] M (fun r M1 => px_T 0 113 5 [some (.ref 0), some (.int x1)] (r.toList ++ []) M1 Q)) : px_T 0 113 0 [some (.ref 0), some (.int x1)] [] M Q := by
  obtain ⟨n, h⟩ := px_T_cl (k := 113) (pc := 2) (y := 152) (st := [.int x1, .ref 0]) rfl (h1)
  exact ⟨n + 3, ⟨rfl, h⟩⟩
theorem sg_113_5 {x1 : Int32} {s0 : Int32} {M : px_Mem} {Q : px_Po} (h1 : (s0 = 0) → px_T 0 48 0 [some (.ref 38), none] [] M (fun r M1 => px_T 0 113 18 [some (.ref 0), some (.int x1)] (r.toList ++ []) M1 Q)) (h2 : (¬ (s0 = 0)) → Q (some (.int (-2))) M) : px_T 0 113 5 [some (.ref 0), some (.int x1)] [.int s0] M Q := by
  by_cases c1 : s0 = 0
  · obtain ⟨n, h⟩ := px_T_cl (k := 113) (pc := 15) (y := 48) (st := [.ref 38]) rfl (h1 c1)
    exact ⟨n + 4, ⟨fun _ => ⟨rfl, ⟨rfl, h⟩⟩, fun q => absurd c1 q⟩⟩
  · exact ⟨3, ⟨fun q => absurd q c1, fun _ => ⟨trivial, h2 c1⟩⟩⟩
theorem sg_113_18 {x1 : Int32} {M : px_Mem} {Q : px_Po} (h1 : px_T 0 46 0 [some (.ref 38), some (.int x1)] [] M (fun r M1 => px_T 0 113 26 [some (.ref 0), some (.int x1)] (r.toList ++ []) M1 Q)) : px_T 0 113 18 [some (.ref 0), some (.int x1)] [] M Q := by
  obtain ⟨n, h⟩ := px_T_cl (k := 113) (pc := 23) (y := 46) (st := [.int x1, .ref 38]) rfl (h1)
  exact ⟨n + 4, ⟨rfl, ⟨rfl, h⟩⟩⟩
theorem sg_113_26 {d0 : Option Value} {d1 : Option Value} {s0 : Int32} {M : px_Mem} {Q : px_Po} (h1 : Q (some (.int s0)) M) : px_T 0 113 26 [d0, d1] [.int s0] M Q := by
  exact ⟨1, ⟨trivial, h1⟩⟩
theorem sg_114_0 {M : px_Mem} {Q : px_Po} (h1 : px_T 0 151 0 [some (.ref 0)] [] M (fun r M1 => px_T 0 114 4 [some (.ref 0), none, none] (r.toList ++ []) M1 Q)) : px_T 0 114 0 [some (.ref 0), none, none] [] M Q := by
  obtain ⟨n, h⟩ := px_T_cl (k := 114) (pc := 1) (y := 151) (st := [.ref 0]) rfl (h1)
  exact ⟨n + 2, ⟨rfl, h⟩⟩
theorem sg_114_4 {d1 : Option Value} {d2 : Option Value} {s0 : Int32} {M : px_Mem} {Q : px_Po} (h1 : (s0 = 0) → px_T 0 48 0 [some (.ref 38), none] [] M (fun r M1 => px_T 0 114 17 [some (.ref 0), d1, d2] (r.toList ++ []) M1 Q)) (h2 : (¬ (s0 = 0)) → Q (some (.int (-2))) M) : px_T 0 114 4 [some (.ref 0), d1, d2] [.int s0] M Q := by
  by_cases c1 : s0 = 0
  · obtain ⟨n, h⟩ := px_T_cl (k := 114) (pc := 14) (y := 48) (st := [.ref 38]) rfl (h1 c1)
    exact ⟨n + 4, ⟨fun _ => ⟨rfl, ⟨rfl, h⟩⟩, fun q => absurd c1 q⟩⟩
  · exact ⟨3, ⟨fun q => absurd q c1, fun _ => ⟨trivial, h2 c1⟩⟩⟩
theorem sg_114_17 {d1 : Option Value} {d2 : Option Value} {M : px_Mem} {Q : px_Po} (h1 : px_T 0 114 21 [some (.ref 0), some (.int 0), some (.int 0)] [] M Q) : px_T 0 114 17 [some (.ref 0), d1, d2] [] M Q := by
  obtain ⟨n, h⟩ := h1
  exact ⟨n + 4, h⟩
theorem sg_114_21 {x1 : Int32} {x2 : Int32} {M : px_Mem} {Q : px_Po} (h1 : px_T 0 53 0 [some (.ref 4)] [] M (fun r M1 => px_T 0 114 29 [some (.ref 0), some (.int x1), some (.int x2)] (r.toList ++ [.int x2]) M1 Q)) : px_T 0 114 21 [some (.ref 0), some (.int x1), some (.int x2)] [] M Q := by
  obtain ⟨n, h⟩ := px_T_cl (k := 114) (pc := 26) (y := 53) (st := [.ref 4, .int x2]) rfl (h1)
  exact ⟨n + 4, ⟨rfl, ⟨rfl, h⟩⟩⟩
theorem sg_114_29 {x1 : Int32} {x2 : Int32} {s0 : Int32} {s1 : Int32} {M : px_Mem} {Q : px_Po} (h1 : (s0 < s1) → Q (some (.int x1)) M) (h2 : (¬ (s0 < s1)) → px_T 0 46 0 [some (.ref 38), some (.int x2)] [] M (fun r M1 => px_T 0 114 40 [some (.ref 0), some (.int x1), some (.int x2)] (r.toList ++ []) M1 Q)) : px_T 0 114 29 [some (.ref 0), some (.int x1), some (.int x2)] [.int s0, .int s1] M Q := by
  by_cases c1 : s0 < s1
  · exact ⟨3, ⟨fun _ => ⟨trivial, h1 c1⟩, fun q => absurd c1 q⟩⟩
  · obtain ⟨n, h⟩ := px_T_cl (k := 114) (pc := 37) (y := 46) (st := [.int x2, .ref 38]) rfl (h2 c1)
    exact ⟨n + 5, ⟨fun q => absurd q c1, fun _ => ⟨rfl, ⟨rfl, h⟩⟩⟩⟩
theorem sg_114_40 {x1 : Int32} {x2 : Int32} {s0 : Int32} {M : px_Mem} {Q : px_Po} (h1 : (s0 = x2) → px_T 0 114 21 [some (.ref 0), some (.int (x1 + 1)), some (.int (x2 + 1))] [] M Q) (h2 : (¬ (s0 = x2)) → px_T 0 114 21 [some (.ref 0), some (.int x1), some (.int (x2 + 1))] [] M Q) : px_T 0 114 40 [some (.ref 0), some (.int x1), some (.int x2)] [.int s0] M Q := by
  by_cases c1 : s0 = x2
  · obtain ⟨n, h⟩ := h1 c1
    exact ⟨n + 5, ⟨fun q => absurd c1 q, fun _ => h⟩⟩
  · obtain ⟨n, h⟩ := h2 c1
    exact ⟨n + 4, ⟨fun _ => h, fun q => absurd q c1⟩⟩
theorem sg_115_0 {M : px_Mem} {Q : px_Po} (h1 : px_T 0 151 0 [some (.ref 0)] [] M (fun r M1 => px_T 0 115 4 [some (.ref 0)] (r.toList ++ []) M1 Q)) : px_T 0 115 0 [some (.ref 0)] [] M Q := by
  obtain ⟨n, h⟩ := px_T_cl (k := 115) (pc := 1) (y := 151) (st := [.ref 0]) rfl (h1)
  exact ⟨n + 2, ⟨rfl, h⟩⟩
theorem sg_115_4 {s0 : Int32} {M : px_Mem} {Q : px_Po} (h1 : (s0 = 0) → px_T 0 48 0 [some (.ref 38), none] [] M (fun r M1 => px_T 0 115 17 [some (.ref 0)] (r.toList ++ []) M1 Q)) (h2 : (¬ (s0 = 0)) → Q (some (.int (-2))) M) : px_T 0 115 4 [some (.ref 0)] [.int s0] M Q := by
  by_cases c1 : s0 = 0
  · obtain ⟨n, h⟩ := px_T_cl (k := 115) (pc := 14) (y := 48) (st := [.ref 38]) rfl (h1 c1)
    exact ⟨n + 4, ⟨fun _ => ⟨rfl, ⟨rfl, h⟩⟩, fun q => absurd c1 q⟩⟩
  · exact ⟨3, ⟨fun q => absurd q c1, fun _ => ⟨trivial, h2 c1⟩⟩⟩
theorem sg_115_17 {M : px_Mem} {Q : px_Po} (h1 : px_T 0 47 0 [some (.ref 38), none, none] [] M (fun r M1 => px_T 0 115 24 [some (.ref 0)] (r.toList ++ []) M1 Q)) : px_T 0 115 17 [some (.ref 0)] [] M Q := by
  obtain ⟨n, h⟩ := px_T_cl (k := 115) (pc := 21) (y := 47) (st := [.ref 38]) rfl (h1)
  exact ⟨n + 3, ⟨rfl, ⟨rfl, h⟩⟩⟩
theorem sg_115_24 {d0 : Option Value} {s0 : Int32} {M : px_Mem} {Q : px_Po} (h1 : Q (some (.int s0)) M) : px_T 0 115 24 [d0] [.int s0] M Q := by
  exact ⟨1, ⟨trivial, h1⟩⟩
theorem sg_116_0 {x1 : Int32} {x2 : Int32} {M : px_Mem} {Q : px_Po} (h1 : px_T 0 153 0 [some (.int x1)] [] M (fun r M1 => px_T 0 116 4 [some (.ref 0), some (.int x1), some (.int x2), none] (r.toList ++ []) M1 Q)) : px_T 0 116 0 [some (.ref 0), some (.int x1), some (.int x2), none] [] M Q := by
  obtain ⟨n, h⟩ := px_T_cl (k := 116) (pc := 1) (y := 153) (st := [.int x1]) rfl (h1)
  exact ⟨n + 2, h⟩
theorem sg_116_4 {x1 : Int32} {x2 : Int32} {d3 : Option Value} {s0 : Int32} {M : px_Mem} {Q : px_Po} (h1 : (s0 = 0) → px_T 0 152 0 [some (.ref 0), some (.int x2)] [] M (fun r M1 => px_T 0 116 12 [some (.ref 0), some (.int x1), some (.int x2), d3] (r.toList ++ []) M1 Q)) (h2 : (¬ (s0 = 0)) → Q (some (.int (-2))) M) : px_T 0 116 4 [some (.ref 0), some (.int x1), some (.int x2), d3] [.int s0] M Q := by
  by_cases c1 : s0 = 0
  · obtain ⟨n, h⟩ := px_T_cl (k := 116) (pc := 9) (y := 152) (st := [.int x2, .ref 0]) rfl (h1 c1)
    exact ⟨n + 4, ⟨fun q => absurd c1 q, fun _ => ⟨rfl, h⟩⟩⟩
  · exact ⟨3, ⟨fun _ => ⟨trivial, h2 c1⟩, fun q => absurd q c1⟩⟩
theorem sg_116_12 {x1 : Int32} {x2 : Int32} {d3 : Option Value} {s0 : Int32} {M : px_Mem} {Q : px_Po} (h1 : (s0 = 0) → px_T 0 11 0 [some (.ref 28), some (.int x2)] [] M (fun r M1 => px_T 0 116 26 [some (.ref 0), some (.int x1), some (.int x2), d3] (r.toList ++ []) M1 Q)) (h2 : (¬ (s0 = 0)) → Q (some (.int (-2))) M) : px_T 0 116 12 [some (.ref 0), some (.int x1), some (.int x2), d3] [.int s0] M Q := by
  by_cases c1 : s0 = 0
  · obtain ⟨n, h⟩ := px_T_cl (k := 116) (pc := 23) (y := 11) (st := [.int x2, .ref 28]) rfl (h1 c1)
    exact ⟨n + 5, ⟨fun _ => ⟨rfl, ⟨rfl, h⟩⟩, fun q => absurd c1 q⟩⟩
  · exact ⟨3, ⟨fun q => absurd q c1, fun _ => ⟨trivial, h2 c1⟩⟩⟩
theorem sg_116_26 {x1 : Int32} {d2 : Option Value} {d3 : Option Value} {s0 : Nat} {M : px_Mem} {Q : px_Po} (h_s0 : px_isW s0) (h1 : px_T 0 63 0 [some (.ref s0), some (.int x1)] [] M (fun r M1 => px_T 0 116 32 [some (.ref 0), some (.int x1), d2, some (.ref s0)] (r.toList ++ []) M1 Q)) : px_T 0 116 26 [some (.ref 0), some (.int x1), d2, d3] [.ref s0] M Q := by
  rcases h_s0 with rfl | rfl
  all_goals
    obtain ⟨n, h⟩ := px_T_cl (k := 116) (pc := 29) (y := 63) (st := [.int x1, .ref s0]) rfl (h1)
    exact ⟨n + 4, ⟨rfl, h⟩⟩
theorem sg_116_32 {x1 : Int32} {d2 : Option Value} {x3 : Nat} {s0 : Int32} {M : px_Mem} {Q : px_Po} (h_x3 : px_isW x3) (h1 : (s0 = 0) → Q (some (.int (-1))) M) (h2 : (¬ (s0 = 0)) → px_T 0 16 0 [some (.ref 44), some (.ref x3), none] [] M (fun r M1 => px_T 0 116 45 [some (.ref 0), some (.int x1), d2, some (.ref x3)] (r.toList ++ []) M1 Q)) : px_T 0 116 32 [some (.ref 0), some (.int x1), d2, some (.ref x3)] [.int s0] M Q := by
  rcases h_x3 with rfl | rfl
  all_goals
    by_cases c1 : s0 = 0
    · exact ⟨3, ⟨fun q => absurd c1 q, fun _ => ⟨trivial, h1 c1⟩⟩⟩
    · obtain ⟨n, h⟩ := px_T_cl (k := 116) (pc := 42) (y := 16) (st := [.ref x3, .ref 44]) rfl (h2 c1)
      exact ⟨n + 5, ⟨fun _ => ⟨rfl, ⟨rfl, h⟩⟩, fun q => absurd q c1⟩⟩
theorem sg_116_45 {x1 : Int32} {d2 : Option Value} {d3 : Option Value} {M : px_Mem} {Q : px_Po} (h1 : vp_in x1 16) (h2 : Q (some (.int (M.1 45 x1.toNatClampNeg))) M) : px_T 0 116 45 [some (.ref 0), some (.int x1), d2, d3] [] M Q := by
  exact ⟨6, ⟨rfl, ⟨rfl, ⟨Or.inl ⟨0, 16, Or.inl rfl, rfl, h1⟩, ⟨trivial, h2⟩⟩⟩⟩⟩
theorem sg_117_0 {x1 : Int32} {M : px_Mem} {Q : px_Po} (h1 : px_T 0 152 0 [some (.ref 0), some (.int x1)] [] M (fun r M1 => px_T 0 117 5 [some (.ref 0), some (.int x1)] (r.toList ++ []) M1 Q)) : px_T 0 117 0 [some (.ref 0), some (.int x1)] [] M Q := by
  obtain ⟨n, h⟩ := px_T_cl (k := 117) (pc := 2) (y := 152) (st := [.int x1, .ref 0]) rfl (h1)
  exact ⟨n + 3, ⟨rfl, h⟩⟩
theorem sg_117_5 {x1 : Int32} {s0 : Int32} {M : px_Mem} {Q : px_Po} (h1 : (s0 = 0) → px_T 0 11 0 [some (.ref 28), some (.int x1)] [] M (fun r M1 => px_T 0 117 23 [some (.ref 0), some (.int x1)] (r.toList ++ [.ref 44]) M1 Q)) (h2 : (¬ (s0 = 0)) → Q (some (.int (-2))) M) : px_T 0 117 5 [some (.ref 0), some (.int x1)] [.int s0] M Q := by
  by_cases c1 : s0 = 0
  · obtain ⟨n, h⟩ := px_T_cl (k := 117) (pc := 20) (y := 11) (st := [.int x1, .ref 28, .ref 44]) rfl (h1 c1)
    exact ⟨n + 7, ⟨fun _ => ⟨rfl, ⟨rfl, ⟨rfl, h⟩⟩⟩, fun q => absurd c1 q⟩⟩
  · exact ⟨3, ⟨fun q => absurd q c1, fun _ => ⟨trivial, h2 c1⟩⟩⟩
theorem sg_117_23 {d1 : Option Value} {s0 : Nat} {M : px_Mem} {Q : px_Po} (h_s0 : px_isW s0) (h1 : px_T 0 16 0 [some (.ref 44), some (.ref s0), none] [] M (fun r M1 => px_T 0 117 26 [some (.ref 0), d1] (r.toList ++ []) M1 Q)) : px_T 0 117 23 [some (.ref 0), d1] [.ref s0, .ref 44] M Q := by
  rcases h_s0 with rfl | rfl
  all_goals
    obtain ⟨n, h⟩ := px_T_cl (k := 117) (pc := 23) (y := 16) (st := [.ref s0, .ref 44]) rfl (h1)
    exact ⟨n + 1, ⟨rfl, h⟩⟩
theorem sg_117_26 {d1 : Option Value} {M : px_Mem} {Q : px_Po} (h1 : Q (some (.int (M.1 44 3))) M) : px_T 0 117 26 [some (.ref 0), d1] [] M Q := by
  exact ⟨4, ⟨rfl, ⟨rfl, ⟨trivial, h1⟩⟩⟩⟩
theorem sg_118_0 {x1 : Int32} {M : px_Mem} {Q : px_Po} (h1 : px_T 0 152 0 [some (.ref 0), some (.int x1)] [] M (fun r M1 => px_T 0 118 5 [some (.ref 0), some (.int x1)] (r.toList ++ []) M1 Q)) : px_T 0 118 0 [some (.ref 0), some (.int x1)] [] M Q := by
  obtain ⟨n, h⟩ := px_T_cl (k := 118) (pc := 2) (y := 152) (st := [.int x1, .ref 0]) rfl (h1)
  exact ⟨n + 3, ⟨rfl, h⟩⟩
theorem sg_118_5 {x1 : Int32} {s0 : Int32} {M : px_Mem} {Q : px_Po} (h1 : (s0 = 0) → px_T 0 11 0 [some (.ref 28), some (.int x1)] [] M (fun r M1 => px_T 0 118 23 [some (.ref 0), some (.int x1)] (r.toList ++ [.ref 44]) M1 Q)) (h2 : (¬ (s0 = 0)) → Q (some (.int (-2))) M) : px_T 0 118 5 [some (.ref 0), some (.int x1)] [.int s0] M Q := by
  by_cases c1 : s0 = 0
  · obtain ⟨n, h⟩ := px_T_cl (k := 118) (pc := 20) (y := 11) (st := [.int x1, .ref 28, .ref 44]) rfl (h1 c1)
    exact ⟨n + 7, ⟨fun _ => ⟨rfl, ⟨rfl, ⟨rfl, h⟩⟩⟩, fun q => absurd c1 q⟩⟩
  · exact ⟨3, ⟨fun q => absurd q c1, fun _ => ⟨trivial, h2 c1⟩⟩⟩
theorem sg_118_23 {d1 : Option Value} {s0 : Nat} {M : px_Mem} {Q : px_Po} (h_s0 : px_isW s0) (h1 : px_T 0 16 0 [some (.ref 44), some (.ref s0), none] [] M (fun r M1 => px_T 0 118 26 [some (.ref 0), d1] (r.toList ++ []) M1 Q)) : px_T 0 118 23 [some (.ref 0), d1] [.ref s0, .ref 44] M Q := by
  rcases h_s0 with rfl | rfl
  all_goals
    obtain ⟨n, h⟩ := px_T_cl (k := 118) (pc := 23) (y := 16) (st := [.ref s0, .ref 44]) rfl (h1)
    exact ⟨n + 1, ⟨rfl, h⟩⟩
theorem sg_118_26 {d1 : Option Value} {M : px_Mem} {Q : px_Po} (h1 : px_T 0 17 0 [some (.ref 44), some (.int 1), none, none] [] M (fun r M1 => px_T 0 118 35 [some (.ref 0), d1] (r.toList ++ [.int 2]) M1 Q)) : px_T 0 118 26 [some (.ref 0), d1] [] M Q := by
  obtain ⟨n, h⟩ := px_T_cl (k := 118) (pc := 32) (y := 17) (st := [.int 1, .ref 44, .int 2]) rfl (h1)
  exact ⟨n + 5, ⟨rfl, ⟨rfl, h⟩⟩⟩
theorem sg_118_35 {d1 : Option Value} {s0 : Int32} {s1 : Int32} {M : px_Mem} {Q : px_Po} (h1 : px_T 0 17 0 [some (.ref 44), some (.int 2), none, none] [] M (fun r M1 => px_T 0 118 46 [some (.ref 0), d1] (r.toList ++ [.int (s1 * (s0 - 1))]) M1 Q)) : px_T 0 118 35 [some (.ref 0), d1] [.int s0, .int s1] M Q := by
  obtain ⟨n, h⟩ := px_T_cl (k := 118) (pc := 43) (y := 17) (st := [.int 2, .ref 44, .int (s1 * (s0 - 1))]) rfl (h1)
  exact ⟨n + 7, ⟨rfl, ⟨rfl, h⟩⟩⟩
theorem sg_118_46 {d1 : Option Value} {s0 : Int32} {s1 : Int32} {M : px_Mem} {Q : px_Po} (h1 : px_T 0 17 0 [some (.ref 44), some (.int 3), none, none] [] M (fun r M1 => px_T 0 118 55 [some (.ref 0), d1] (r.toList ++ [.int (s1 + s0)]) M1 Q)) : px_T 0 118 46 [some (.ref 0), d1] [.int s0, .int s1] M Q := by
  obtain ⟨n, h⟩ := px_T_cl (k := 118) (pc := 52) (y := 17) (st := [.int 3, .ref 44, .int (s1 + s0)]) rfl (h1)
  exact ⟨n + 5, ⟨rfl, ⟨rfl, h⟩⟩⟩
theorem sg_118_55 {d1 : Option Value} {s0 : Int32} {s1 : Int32} {M : px_Mem} {Q : px_Po} (h1 : px_T 0 17 0 [some (.ref 44), some (.int 4), none, none] [] M (fun r M1 => px_T 0 118 65 [some (.ref 0), d1] (r.toList ++ [.int 3, .int (s1 + s0)]) M1 Q)) : px_T 0 118 55 [some (.ref 0), d1] [.int s0, .int s1] M Q := by
  obtain ⟨n, h⟩ := px_T_cl (k := 118) (pc := 62) (y := 17) (st := [.int 4, .ref 44, .int 3, .int (s1 + s0)]) rfl (h1)
  exact ⟨n + 6, ⟨rfl, ⟨rfl, h⟩⟩⟩
theorem sg_118_65 {d0 : Option Value} {d1 : Option Value} {s0 : Int32} {s1 : Int32} {s2 : Int32} {M : px_Mem} {Q : px_Po} (h1 : Q (some (.int (s2 + (s1 * s0)))) M) : px_T 0 118 65 [d0, d1] [.int s0, .int s1, .int s2] M Q := by
  exact ⟨3, ⟨trivial, h1⟩⟩
theorem sg_119_0 {x1 : Int32} {x2 : Int32} {M : px_Mem} {Q : px_Po} (h1 : (x1 < 0) → Q (some (.int (-2))) M) (h2 : (¬ (x1 < 0)) → px_T 0 152 0 [some (.ref 0), some (.int x2)] [] M (fun r M1 => px_T 0 119 9 [some (.ref 0), some (.int x1), some (.int x2)] (r.toList ++ []) M1 Q)) : px_T 0 119 0 [some (.ref 0), some (.int x1), some (.int x2)] [] M Q := by
  by_cases c1 : x1 < 0
  · exact ⟨4, ⟨fun _ => ⟨trivial, h1 c1⟩, fun q => absurd c1 q⟩⟩
  · obtain ⟨n, h⟩ := px_T_cl (k := 119) (pc := 6) (y := 152) (st := [.int x2, .ref 0]) rfl (h2 c1)
    exact ⟨n + 5, ⟨fun q => absurd q c1, fun _ => ⟨rfl, h⟩⟩⟩
theorem sg_119_9 {x1 : Int32} {x2 : Int32} {s0 : Int32} {M : px_Mem} {Q : px_Po} (h1 : (s0 = 0) → px_T 0 11 0 [some (.ref 28), some (.int x2)] [] M (fun r M1 => px_T 0 119 27 [some (.ref 0), some (.int x1), some (.int x2)] (r.toList ++ [.ref 44]) M1 Q)) (h2 : (¬ (s0 = 0)) → Q (some (.int (-2))) M) : px_T 0 119 9 [some (.ref 0), some (.int x1), some (.int x2)] [.int s0] M Q := by
  by_cases c1 : s0 = 0
  · obtain ⟨n, h⟩ := px_T_cl (k := 119) (pc := 24) (y := 11) (st := [.int x2, .ref 28, .ref 44]) rfl (h1 c1)
    exact ⟨n + 7, ⟨fun _ => ⟨rfl, ⟨rfl, ⟨rfl, h⟩⟩⟩, fun q => absurd c1 q⟩⟩
  · exact ⟨3, ⟨fun q => absurd q c1, fun _ => ⟨trivial, h2 c1⟩⟩⟩
theorem sg_119_27 {x1 : Int32} {d2 : Option Value} {s0 : Nat} {M : px_Mem} {Q : px_Po} (h_s0 : px_isW s0) (h1 : px_T 0 16 0 [some (.ref 44), some (.ref s0), none] [] M (fun r M1 => px_T 0 119 30 [some (.ref 0), some (.int x1), d2] (r.toList ++ []) M1 Q)) : px_T 0 119 27 [some (.ref 0), some (.int x1), d2] [.ref s0, .ref 44] M Q := by
  rcases h_s0 with rfl | rfl
  all_goals
    obtain ⟨n, h⟩ := px_T_cl (k := 119) (pc := 27) (y := 16) (st := [.ref s0, .ref 44]) rfl (h1)
    exact ⟨n + 1, ⟨rfl, h⟩⟩
theorem sg_119_30 {x1 : Int32} {d2 : Option Value} {M : px_Mem} {Q : px_Po} (h1 : ((M.1 44 2) ≤ x1) → Q (some (.int (-1))) M) (h2 : (¬ ((M.1 44 2) ≤ x1)) → vp_in x1 15) (h3 : (¬ ((M.1 44 2) ≤ x1)) → Q (some (.int (M.1 46 x1.toNatClampNeg))) M) : px_T 0 119 30 [some (.ref 0), some (.int x1), d2] [] M Q := by
  by_cases c1 : (M.1 44 2) ≤ x1
  · exact ⟨7, ⟨rfl, ⟨rfl, ⟨fun _ => ⟨trivial, h1 c1⟩, fun q => absurd c1 q⟩⟩⟩⟩
  · exact ⟨12, ⟨rfl, ⟨rfl, ⟨fun q => absurd q c1, fun _ => ⟨rfl, ⟨rfl, ⟨Or.inl ⟨0, 15, Or.inl rfl, rfl, (h2 c1)⟩, ⟨trivial, h3 c1⟩⟩⟩⟩⟩⟩⟩⟩
theorem sg_120_0 {x1 : Int32} {M : px_Mem} {Q : px_Po} (h1 : px_T 0 152 0 [some (.ref 0), some (.int x1)] [] M (fun r M1 => px_T 0 120 5 [some (.ref 0), some (.int x1)] (r.toList ++ []) M1 Q)) : px_T 0 120 0 [some (.ref 0), some (.int x1)] [] M Q := by
  obtain ⟨n, h⟩ := px_T_cl (k := 120) (pc := 2) (y := 152) (st := [.int x1, .ref 0]) rfl (h1)
  exact ⟨n + 3, ⟨rfl, h⟩⟩
theorem sg_120_5 {x1 : Int32} {s0 : Int32} {M : px_Mem} {Q : px_Po} (h1 : (s0 = 0) → px_T 0 11 0 [some (.ref 28), some (.int x1)] [] M (fun r M1 => px_T 0 120 23 [some (.ref 0), some (.int x1)] (r.toList ++ [.ref 44]) M1 Q)) (h2 : (¬ (s0 = 0)) → Q (some (.int (-2))) M) : px_T 0 120 5 [some (.ref 0), some (.int x1)] [.int s0] M Q := by
  by_cases c1 : s0 = 0
  · obtain ⟨n, h⟩ := px_T_cl (k := 120) (pc := 20) (y := 11) (st := [.int x1, .ref 28, .ref 44]) rfl (h1 c1)
    exact ⟨n + 7, ⟨fun _ => ⟨rfl, ⟨rfl, ⟨rfl, h⟩⟩⟩, fun q => absurd c1 q⟩⟩
  · exact ⟨3, ⟨fun q => absurd q c1, fun _ => ⟨trivial, h2 c1⟩⟩⟩
theorem sg_120_23 {d1 : Option Value} {s0 : Nat} {M : px_Mem} {Q : px_Po} (h_s0 : px_isW s0) (h1 : px_T 0 16 0 [some (.ref 44), some (.ref s0), none] [] M (fun r M1 => px_T 0 120 26 [some (.ref 0), d1] (r.toList ++ []) M1 Q)) : px_T 0 120 23 [some (.ref 0), d1] [.ref s0, .ref 44] M Q := by
  rcases h_s0 with rfl | rfl
  all_goals
    obtain ⟨n, h⟩ := px_T_cl (k := 120) (pc := 23) (y := 16) (st := [.ref s0, .ref 44]) rfl (h1)
    exact ⟨n + 1, ⟨rfl, h⟩⟩
theorem sg_120_26 {d1 : Option Value} {M : px_Mem} {Q : px_Po} (h1 : px_T 0 17 0 [some (.ref 44), some (.int 4), none, none] [] M (fun r M1 => px_T 0 120 34 [some (.ref 0), d1] (r.toList ++ []) M1 Q)) : px_T 0 120 26 [some (.ref 0), d1] [] M Q := by
  obtain ⟨n, h⟩ := px_T_cl (k := 120) (pc := 31) (y := 17) (st := [.int 4, .ref 44]) rfl (h1)
  exact ⟨n + 4, ⟨rfl, ⟨rfl, h⟩⟩⟩
theorem sg_120_34 {d0 : Option Value} {d1 : Option Value} {s0 : Int32} {M : px_Mem} {Q : px_Po} (h1 : Q (some (.int s0)) M) : px_T 0 120 34 [d0, d1] [.int s0] M Q := by
  exact ⟨1, ⟨trivial, h1⟩⟩
theorem sg_121_0 {M : px_Mem} {Q : px_Po} (h1 : px_T 0 151 0 [some (.ref 0)] [] M (fun r M1 => px_T 0 121 4 [some (.ref 0), none, none] (r.toList ++ []) M1 Q)) : px_T 0 121 0 [some (.ref 0), none, none] [] M Q := by
  obtain ⟨n, h⟩ := px_T_cl (k := 121) (pc := 1) (y := 151) (st := [.ref 0]) rfl (h1)
  exact ⟨n + 2, ⟨rfl, h⟩⟩
theorem sg_121_4 {d1 : Option Value} {d2 : Option Value} {s0 : Int32} {M : px_Mem} {Q : px_Po} (h1 : (s0 = 0) → px_T 0 121 14 [some (.ref 0), some (.int 0), some (.int 0)] [] M Q) (h2 : (¬ (s0 = 0)) → Q (some (.int (-2))) M) : px_T 0 121 4 [some (.ref 0), d1, d2] [.int s0] M Q := by
  by_cases c1 : s0 = 0
  · obtain ⟨n, h⟩ := h1 c1
    exact ⟨n + 5, ⟨fun _ => h, fun q => absurd c1 q⟩⟩
  · exact ⟨3, ⟨fun q => absurd q c1, fun _ => ⟨trivial, h2 c1⟩⟩⟩
theorem sg_121_14 {x1 : Int32} {x2 : Int32} {M : px_Mem} {Q : px_Po} (h1 : px_T 0 53 0 [some (.ref 4)] [] M (fun r M1 => px_T 0 121 22 [some (.ref 0), some (.int x1), some (.int x2)] (r.toList ++ [.int x2]) M1 Q)) : px_T 0 121 14 [some (.ref 0), some (.int x1), some (.int x2)] [] M Q := by
  obtain ⟨n, h⟩ := px_T_cl (k := 121) (pc := 19) (y := 53) (st := [.ref 4, .int x2]) rfl (h1)
  exact ⟨n + 4, ⟨rfl, ⟨rfl, h⟩⟩⟩
theorem sg_121_22 {x1 : Int32} {x2 : Int32} {s0 : Int32} {s1 : Int32} {M : px_Mem} {Q : px_Po} (h1 : (s0 < s1) → Q (some (.int x1)) M) (h2 : (¬ (s0 < s1)) → px_T 0 11 0 [some (.ref 28), some (.int x2)] [] M (fun r M1 => px_T 0 121 37 [some (.ref 0), some (.int x1), some (.int x2)] (r.toList ++ [.ref 44]) M1 Q)) : px_T 0 121 22 [some (.ref 0), some (.int x1), some (.int x2)] [.int s0, .int s1] M Q := by
  by_cases c1 : s0 < s1
  · exact ⟨3, ⟨fun _ => ⟨trivial, h1 c1⟩, fun q => absurd c1 q⟩⟩
  · obtain ⟨n, h⟩ := px_T_cl (k := 121) (pc := 34) (y := 11) (st := [.int x2, .ref 28, .ref 44]) rfl (h2 c1)
    exact ⟨n + 7, ⟨fun q => absurd q c1, fun _ => ⟨rfl, ⟨rfl, ⟨rfl, h⟩⟩⟩⟩⟩
theorem sg_121_37 {x1 : Int32} {x2 : Int32} {s0 : Nat} {M : px_Mem} {Q : px_Po} (h_s0 : px_isW s0) (h1 : px_T 0 16 0 [some (.ref 44), some (.ref s0), none] [] M (fun r M1 => px_T 0 121 40 [some (.ref 0), some (.int x1), some (.int x2)] (r.toList ++ []) M1 Q)) : px_T 0 121 37 [some (.ref 0), some (.int x1), some (.int x2)] [.ref s0, .ref 44] M Q := by
  rcases h_s0 with rfl | rfl
  all_goals
    obtain ⟨n, h⟩ := px_T_cl (k := 121) (pc := 37) (y := 16) (st := [.ref s0, .ref 44]) rfl (h1)
    exact ⟨n + 1, ⟨rfl, h⟩⟩
theorem sg_121_40 {x1 : Int32} {x2 : Int32} {M : px_Mem} {Q : px_Po} (h1 : ((M.1 44 3) = 0) → px_T 0 121 14 [some (.ref 0), some (.int x2), some (.int (x2 + 1))] [] M Q) (h2 : (¬ ((M.1 44 3) = 0)) → px_T 0 121 14 [some (.ref 0), some (.int x1), some (.int (x2 + 1))] [] M Q) : px_T 0 121 40 [some (.ref 0), some (.int x1), some (.int x2)] [] M Q := by
  by_cases c1 : (M.1 44 3) = 0
  · obtain ⟨n, h⟩ := h1 c1
    exact ⟨n + 8, ⟨rfl, ⟨rfl, ⟨fun q => absurd c1 q, fun _ => h⟩⟩⟩⟩
  · obtain ⟨n, h⟩ := h2 c1
    exact ⟨n + 6, ⟨rfl, ⟨rfl, ⟨fun _ => h, fun q => absurd q c1⟩⟩⟩⟩
theorem sg_122_0 {x1 : Int32} {x2 : Int32} {x3 : Int32} {M : px_Mem} {Q : px_Po} (h1 : px_T 0 153 0 [some (.int x1)] [] M (fun r M1 => px_T 0 122 4 [some (.ref 0), some (.int x1), some (.int x2), some (.int x3), none] (r.toList ++ []) M1 Q)) : px_T 0 122 0 [some (.ref 0), some (.int x1), some (.int x2), some (.int x3), none] [] M Q := by
  obtain ⟨n, h⟩ := px_T_cl (k := 122) (pc := 1) (y := 153) (st := [.int x1]) rfl (h1)
  exact ⟨n + 2, h⟩
theorem sg_122_4 {x1 : Int32} {x2 : Int32} {x3 : Int32} {d4 : Option Value} {s0 : Int32} {M : px_Mem} {Q : px_Po} (h1 : (s0 = 0) → px_T 0 152 0 [some (.ref 0), some (.int x2)] [] M (fun r M1 => px_T 0 122 12 [some (.ref 0), some (.int x1), some (.int x2), some (.int x3), d4] (r.toList ++ []) M1 Q)) (h2 : (¬ (s0 = 0)) → Q (some (.int (-2))) M) : px_T 0 122 4 [some (.ref 0), some (.int x1), some (.int x2), some (.int x3), d4] [.int s0] M Q := by
  by_cases c1 : s0 = 0
  · obtain ⟨n, h⟩ := px_T_cl (k := 122) (pc := 9) (y := 152) (st := [.int x2, .ref 0]) rfl (h1 c1)
    exact ⟨n + 4, ⟨fun q => absurd c1 q, fun _ => ⟨rfl, h⟩⟩⟩
  · exact ⟨3, ⟨fun _ => ⟨trivial, h2 c1⟩, fun q => absurd q c1⟩⟩
theorem sg_122_12 {x1 : Int32} {x2 : Int32} {x3 : Int32} {d4 : Option Value} {s0 : Int32} {M : px_Mem} {Q : px_Po} (h1 : (s0 = 0) → px_T 0 152 0 [some (.ref 0), some (.int x3)] [] M (fun r M1 => px_T 0 122 20 [some (.ref 0), some (.int x1), some (.int x2), some (.int x3), d4] (r.toList ++ []) M1 Q)) (h2 : (¬ (s0 = 0)) → Q (some (.int (-2))) M) : px_T 0 122 12 [some (.ref 0), some (.int x1), some (.int x2), some (.int x3), d4] [.int s0] M Q := by
  by_cases c1 : s0 = 0
  · obtain ⟨n, h⟩ := px_T_cl (k := 122) (pc := 17) (y := 152) (st := [.int x3, .ref 0]) rfl (h1 c1)
    exact ⟨n + 4, ⟨fun q => absurd c1 q, fun _ => ⟨rfl, h⟩⟩⟩
  · exact ⟨3, ⟨fun _ => ⟨trivial, h2 c1⟩, fun q => absurd q c1⟩⟩
theorem sg_122_20 {x1 : Int32} {x2 : Int32} {x3 : Int32} {d4 : Option Value} {s0 : Int32} {M : px_Mem} {Q : px_Po} (h1 : (s0 = 0) → (x2 ≤ x3) → px_T 0 11 0 [some (.ref 28), some (.int x2)] [] M (fun r M1 => px_T 0 122 39 [some (.ref 0), some (.int x1), some (.int x2), some (.int x3), d4] (r.toList ++ []) M1 Q)) (h2 : (s0 = 0) → (¬ (x2 ≤ x3)) → Q (some (.int (-2))) M) (h3 : (¬ (s0 = 0)) → Q (some (.int (-2))) M) : px_T 0 122 20 [some (.ref 0), some (.int x1), some (.int x2), some (.int x3), d4] [.int s0] M Q := by
  by_cases c1 : s0 = 0
  · by_cases c2 : x2 ≤ x3
    · obtain ⟨n, h⟩ := px_T_cl (k := 122) (pc := 36) (y := 11) (st := [.int x2, .ref 28]) rfl (h1 c1 c2)
      exact ⟨n + 8, ⟨fun q => absurd c1 q, fun _ => ⟨fun _ => ⟨rfl, ⟨rfl, h⟩⟩, fun q => absurd c2 q⟩⟩⟩
    · exact ⟨6, ⟨fun q => absurd c1 q, fun _ => ⟨fun q => absurd q c2, fun _ => ⟨trivial, h2 c1 c2⟩⟩⟩⟩
  · exact ⟨3, ⟨fun _ => ⟨trivial, h3 c1⟩, fun q => absurd q c1⟩⟩
theorem sg_122_39 {x1 : Int32} {d2 : Option Value} {x3 : Int32} {d4 : Option Value} {s0 : Nat} {M : px_Mem} {Q : px_Po} (h_s0 : px_isW s0) (h1 : px_T 0 62 0 [some (.ref s0)] [] M (fun r M1 => px_T 0 122 42 [some (.ref 0), some (.int x1), d2, some (.int x3), d4] (r.toList ++ []) M1 Q)) : px_T 0 122 39 [some (.ref 0), some (.int x1), d2, some (.int x3), d4] [.ref s0] M Q := by
  rcases h_s0 with rfl | rfl
  all_goals
    obtain ⟨n, h⟩ := px_T_cl (k := 122) (pc := 39) (y := 62) (st := [.ref s0]) rfl (h1)
    exact ⟨n + 1, ⟨rfl, h⟩⟩
theorem sg_122_42 {x1 : Int32} {d2 : Option Value} {x3 : Int32} {d4 : Option Value} {M : px_Mem} {Q : px_Po} (h1 : px_T 0 11 0 [some (.ref 28), some (.int x3)] [] M (fun r M1 => px_T 0 122 50 [some (.ref 0), some (.int x1), d2, some (.int x3), d4] (r.toList ++ []) M1 Q)) : px_T 0 122 42 [some (.ref 0), some (.int x1), d2, some (.int x3), d4] [] M Q := by
  obtain ⟨n, h⟩ := px_T_cl (k := 122) (pc := 47) (y := 11) (st := [.int x3, .ref 28]) rfl (h1)
  exact ⟨n + 4, ⟨rfl, ⟨rfl, h⟩⟩⟩
theorem sg_122_50 {d0 : Option Value} {x1 : Int32} {d2 : Option Value} {d3 : Option Value} {d4 : Option Value} {s0 : Nat} {M : px_Mem} {Q : px_Po} (h_s0 : px_isW s0) (h1 : px_T 0 63 0 [some (.ref s0), some (.int x1)] [] M (fun r M1 => px_T 0 122 58 [d0, some (.int x1), d2, d3, some (.ref s0)] (r.toList ++ []) M1 Q)) : px_T 0 122 50 [d0, some (.int x1), d2, d3, d4] [.ref s0] M Q := by
  rcases h_s0 with rfl | rfl
  all_goals
    obtain ⟨n, h⟩ := px_T_cl (k := 122) (pc := 55) (y := 63) (st := [.int x1, .ref s0]) rfl (h1)
    exact ⟨n + 4, ⟨rfl, h⟩⟩
theorem sg_122_58 {d0 : Option Value} {x1 : Int32} {d2 : Option Value} {d3 : Option Value} {x4 : Nat} {s0 : Int32} {M : px_Mem} {Q : px_Po} (h_x4 : px_isW x4) (h1 : (s0 = 0) → Q (some (.int 0)) M) (h2 : (¬ (s0 = 0)) → vp_in x1 16) (h3 : (¬ (s0 = 0)) → Q (some (.int (M.1 (x4 + 3) x1.toNatClampNeg))) M) : px_T 0 122 58 [d0, some (.int x1), d2, d3, some (.ref x4)] [.int s0] M Q := by
  rcases h_x4 with rfl | rfl
  all_goals
    by_cases c1 : s0 = 0
    · exact ⟨3, ⟨fun _ => ⟨trivial, h1 c1⟩, fun q => absurd c1 q⟩⟩
    · exact ⟨7, ⟨fun q => absurd q c1, fun _ => ⟨rfl, ⟨Or.inl ⟨0, 16, Or.inl rfl, rfl, (h2 c1)⟩, ⟨trivial, h3 c1⟩⟩⟩⟩⟩
theorem sg_123_0 {x1 : Int32} {x2 : Int32} {x3 : Int32} {x4 : Int32} {M : px_Mem} {Q : px_Po} (h1 : px_T 0 159 0 [some (.ref 0), some (.int x1), some (.int x2), some (.int x3)] [] M (fun r M1 => px_T 0 123 7 [some (.ref 0), some (.int x1), some (.int x2), some (.int x3), some (.int x4)] (r.toList ++ []) M1 Q)) : px_T 0 123 0 [some (.ref 0), some (.int x1), some (.int x2), some (.int x3), some (.int x4)] [] M Q := by
  obtain ⟨n, h⟩ := px_T_cl (k := 123) (pc := 4) (y := 159) (st := [.int x3, .int x2, .int x1, .ref 0]) rfl (h1)
  exact ⟨n + 5, ⟨rfl, h⟩⟩
theorem sg_123_7 {x1 : Int32} {x2 : Int32} {x3 : Int32} {x4 : Int32} {s0 : Int32} {M : px_Mem} {Q : px_Po} (h1 : (s0 = 0) → ((0 : Int32) ≤ x4) → px_T 0 14 0 [some (.ref 28), some (.int x1), some (.int x2), some (.int x3), some (.int x4), none, none] [] M (fun r M1 => px_T 0 123 30 [some (.ref 0), some (.int x1), some (.int x2), some (.int x3), some (.int x4)] (r.toList ++ []) M1 Q)) (h2 : (s0 = 0) → (¬ ((0 : Int32) ≤ x4)) → Q (some (.int (-2))) M) (h3 : (¬ (s0 = 0)) → Q (some (.int (-2))) M) : px_T 0 123 7 [some (.ref 0), some (.int x1), some (.int x2), some (.int x3), some (.int x4)] [.int s0] M Q := by
  by_cases c1 : s0 = 0
  · by_cases c2 : (0 : Int32) ≤ x4
    · obtain ⟨n, h⟩ := px_T_cl (k := 123) (pc := 27) (y := 14) (st := [.int x4, .int x3, .int x2, .int x1, .ref 28]) rfl (h1 c1 c2)
      exact ⟨n + 10, ⟨fun q => absurd c1 q, fun _ => ⟨fun _ => ⟨rfl, ⟨rfl, h⟩⟩, fun q => absurd c2 q⟩⟩⟩
    · exact ⟨5, ⟨fun q => absurd c1 q, fun _ => ⟨fun q => absurd q c2, fun _ => ⟨trivial, h2 c1 c2⟩⟩⟩⟩
  · exact ⟨3, ⟨fun _ => ⟨trivial, h3 c1⟩, fun q => absurd q c1⟩⟩
theorem sg_123_30 {d1 : Option Value} {d2 : Option Value} {d3 : Option Value} {d4 : Option Value} {M : px_Mem} {Q : px_Po} (h1 : Q (some (.int (M.1 28 4))) M) : px_T 0 123 30 [some (.ref 0), d1, d2, d3, d4] [] M Q := by
  exact ⟨4, ⟨rfl, ⟨rfl, ⟨trivial, h1⟩⟩⟩⟩
theorem sg_124_0 {x1 : Int32} {x2 : Int32} {x3 : Int32} {M : px_Mem} {Q : px_Po} (h1 : px_T 0 159 0 [some (.ref 0), some (.int x1), some (.int x2), some (.int x3)] [] M (fun r M1 => px_T 0 124 7 [some (.ref 0), some (.int x1), some (.int x2), some (.int x3)] (r.toList ++ []) M1 Q)) : px_T 0 124 0 [some (.ref 0), some (.int x1), some (.int x2), some (.int x3)] [] M Q := by
  obtain ⟨n, h⟩ := px_T_cl (k := 124) (pc := 4) (y := 159) (st := [.int x3, .int x2, .int x1, .ref 0]) rfl (h1)
  exact ⟨n + 5, ⟨rfl, h⟩⟩
theorem sg_124_7 {x1 : Int32} {x2 : Int32} {x3 : Int32} {s0 : Int32} {M : px_Mem} {Q : px_Po} (h1 : (s0 = 0) → px_T 0 14 0 [some (.ref 28), some (.int x1), some (.int x2), some (.int x3), some (.int 0), none, none] [] M (fun r M1 => px_T 0 124 24 [some (.ref 0), some (.int x1), some (.int x2), some (.int x3)] (r.toList ++ []) M1 Q)) (h2 : (¬ (s0 = 0)) → Q (some (.int (-2))) M) : px_T 0 124 7 [some (.ref 0), some (.int x1), some (.int x2), some (.int x3)] [.int s0] M Q := by
  by_cases c1 : s0 = 0
  · obtain ⟨n, h⟩ := px_T_cl (k := 124) (pc := 21) (y := 14) (st := [.int 0, .int x3, .int x2, .int x1, .ref 28]) rfl (h1 c1)
    exact ⟨n + 8, ⟨fun _ => ⟨rfl, ⟨rfl, h⟩⟩, fun q => absurd c1 q⟩⟩
  · exact ⟨3, ⟨fun q => absurd q c1, fun _ => ⟨trivial, h2 c1⟩⟩⟩
theorem sg_124_24 {d1 : Option Value} {d2 : Option Value} {d3 : Option Value} {M : px_Mem} {Q : px_Po} (h1 : Q (some (.int (M.1 28 5))) M) : px_T 0 124 24 [some (.ref 0), d1, d2, d3] [] M Q := by
  exact ⟨4, ⟨rfl, ⟨rfl, ⟨trivial, h1⟩⟩⟩⟩
theorem sg_125_0 {x1 : Int32} {x2 : Int32} {M : px_Mem} {Q : px_Po} (h1 : px_T 0 159 0 [some (.ref 0), some (.int x1), some (.int 1), some (.int x2)] [] M (fun r M1 => px_T 0 125 7 [some (.ref 0), some (.int x1), some (.int x2), none, none, none, none, none] (r.toList ++ []) M1 Q)) : px_T 0 125 0 [some (.ref 0), some (.int x1), some (.int x2), none, none, none, none, none] [] M Q := by
  obtain ⟨n, h⟩ := px_T_cl (k := 125) (pc := 4) (y := 159) (st := [.int x2, .int 1, .int x1, .ref 0]) rfl (h1)
  exact ⟨n + 5, ⟨rfl, h⟩⟩
theorem sg_125_7 {x1 : Int32} {x2 : Int32} {d3 : Option Value} {d4 : Option Value} {d5 : Option Value} {d6 : Option Value} {d7 : Option Value} {s0 : Int32} {M : px_Mem} {Q : px_Po} (h1 : (s0 = 0) → px_T 0 125 24 [some (.ref 0), some (.int x1), some (.int x2), some (.int 0), some (.int 0), some (.int 0), some (.int 1), d7] [] M Q) (h2 : (¬ (s0 = 0)) → Q (some (.int (-2))) M) : px_T 0 125 7 [some (.ref 0), some (.int x1), some (.int x2), d3, d4, d5, d6, d7] [.int s0] M Q := by
  by_cases c1 : s0 = 0
  · obtain ⟨n, h⟩ := h1 c1
    exact ⟨n + 9, ⟨fun _ => h, fun q => absurd c1 q⟩⟩
  · exact ⟨3, ⟨fun q => absurd q c1, fun _ => ⟨trivial, h2 c1⟩⟩⟩
theorem sg_125_24 {x1 : Int32} {x2 : Int32} {x3 : Int32} {x4 : Int32} {x5 : Int32} {x6 : Int32} {d7 : Option Value} {M : px_Mem} {Q : px_Po} (h1 : ((40 : Int32) < x6) → Q (some (.int x3)) M) (h2 : (¬ ((40 : Int32) < x6)) → px_T 0 14 0 [some (.ref 28), some (.int x1), some (.int x6), some (.int x2), some (.int 0), none, none] [] M (fun r M1 => px_T 0 125 43 [some (.ref 0), some (.int x1), some (.int x2), some (.int x3), some (.int x4), some (.int x5), some (.int x6), d7] (r.toList ++ []) M1 Q)) : px_T 0 125 24 [some (.ref 0), some (.int x1), some (.int x2), some (.int x3), some (.int x4), some (.int x5), some (.int x6), d7] [] M Q := by
  by_cases c1 : (40 : Int32) < x6
  · exact ⟨5, ⟨fun _ => ⟨trivial, h1 c1⟩, fun q => absurd c1 q⟩⟩
  · obtain ⟨n, h⟩ := px_T_cl (k := 125) (pc := 40) (y := 14) (st := [.int 0, .int x2, .int x6, .int x1, .ref 28]) rfl (h2 c1)
    exact ⟨n + 10, ⟨fun q => absurd q c1, fun _ => ⟨rfl, ⟨rfl, h⟩⟩⟩⟩
theorem sg_125_43 {x1 : Int32} {x2 : Int32} {x3 : Int32} {x4 : Int32} {x5 : Int32} {x6 : Int32} {d7 : Option Value} {M : px_Mem} {Q : px_Po} (h1 : ((M.1 28 6) < x4) → (x3 = 0) → px_T 0 125 24 [some (.ref 0), some (.int x1), some (.int x2), some (.int x6), some (.int (M.1 28 6)), some (.int (M.1 28 5)), some (.int (x6 + 1)), some (.int 1)] [] M Q) (h2 : ((M.1 28 6) < x4) → (¬ (x3 = 0)) → px_T 0 125 24 [some (.ref 0), some (.int x1), some (.int x2), some (.int x6), some (.int (M.1 28 6)), some (.int (M.1 28 5)), some (.int (x6 + 1)), some (.int 1)] [] M Q) (h3 : (¬ ((M.1 28 6) < x4)) → ((M.1 28 6) = x4) → (x5 < (M.1 28 5)) → (x3 = 0) → px_T 0 125 24 [some (.ref 0), some (.int x1), some (.int x2), some (.int x6), some (.int (M.1 28 6)), some (.int (M.1 28 5)), some (.int (x6 + 1)), some (.int 0)] [] M Q) (h4 : (¬ ((M.1 28 6) < x4)) → ((M.1 28 6) = x4) → (x5 < (M.1 28 5)) → (¬ (x3 = 0)) → px_T 0 125 24 [some (.ref 0), some (.int x1), some (.int x2), some (.int x3), some (.int x4), some (.int x5), some (.int (x6 + 1)), some (.int 0)] [] M Q) (h5 : (¬ ((M.1 28 6) < x4)) → ((M.1 28 6) = x4) → (¬ (x5 < (M.1 28 5))) → (x3 = 0) → px_T 0 125 24 [some (.ref 0), some (.int x1), some (.int x2), some (.int x6), some (.int (M.1 28 6)), some (.int (M.1 28 5)), some (.int (x6 + 1)), some (.int 1)] [] M Q) (h6 : (¬ ((M.1 28 6) < x4)) → ((M.1 28 6) = x4) → (¬ (x5 < (M.1 28 5))) → (¬ (x3 = 0)) → px_T 0 125 24 [some (.ref 0), some (.int x1), some (.int x2), some (.int x6), some (.int (M.1 28 6)), some (.int (M.1 28 5)), some (.int (x6 + 1)), some (.int 1)] [] M Q) (h7 : (¬ ((M.1 28 6) < x4)) → (¬ ((M.1 28 6) = x4)) → (x3 = 0) → px_T 0 125 24 [some (.ref 0), some (.int x1), some (.int x2), some (.int x6), some (.int (M.1 28 6)), some (.int (M.1 28 5)), some (.int (x6 + 1)), some (.int 0)] [] M Q) (h8 : (¬ ((M.1 28 6) < x4)) → (¬ ((M.1 28 6) = x4)) → (¬ (x3 = 0)) → px_T 0 125 24 [some (.ref 0), some (.int x1), some (.int x2), some (.int x3), some (.int x4), some (.int x5), some (.int (x6 + 1)), some (.int 0)] [] M Q) : px_T 0 125 43 [some (.ref 0), some (.int x1), some (.int x2), some (.int x3), some (.int x4), some (.int x5), some (.int x6), d7] [] M Q := by
  by_cases c1 : (M.1 28 6) < x4
  · by_cases c2 : x3 = 0
    · obtain ⟨n, h⟩ := h1 c1 c2
      exact ⟨n + 22, ⟨rfl, ⟨rfl, ⟨fun _ => ⟨fun _ => ⟨rfl, ⟨rfl, ⟨rfl, ⟨rfl, h⟩⟩⟩⟩, fun q => absurd c2 q⟩, fun q => absurd c1 q⟩⟩⟩⟩
    · obtain ⟨n, h⟩ := h2 c1 c2
      exact ⟨n + 24, ⟨rfl, ⟨rfl, ⟨fun _ => ⟨fun q => absurd q c2, fun _ => ⟨fun q => absurd q (by decide), fun _ => ⟨rfl, ⟨rfl, ⟨rfl, ⟨rfl, h⟩⟩⟩⟩⟩⟩, fun q => absurd c1 q⟩⟩⟩⟩
  · by_cases c3 : (M.1 28 6) = x4
    · by_cases c4 : x5 < (M.1 28 5)
      · by_cases c5 : x3 = 0
        · obtain ⟨n, h⟩ := h3 c1 c3 c4 c5
          exact ⟨n + 31, ⟨rfl, ⟨rfl, ⟨fun q => absurd q c1, fun _ => ⟨rfl, ⟨rfl, ⟨fun q => absurd c3 q, fun _ => ⟨rfl, ⟨rfl, ⟨fun _ => ⟨fun _ => ⟨rfl, ⟨rfl, ⟨rfl, ⟨rfl, h⟩⟩⟩⟩, fun q => absurd c5 q⟩, fun q => absurd c4 q⟩⟩⟩⟩⟩⟩⟩⟩⟩⟩
        · obtain ⟨n, h⟩ := h4 c1 c3 c4 c5
          exact ⟨n + 23, ⟨rfl, ⟨rfl, ⟨fun q => absurd q c1, fun _ => ⟨rfl, ⟨rfl, ⟨fun q => absurd c3 q, fun _ => ⟨rfl, ⟨rfl, ⟨fun _ => ⟨fun q => absurd q c5, fun _ => ⟨fun _ => h, fun q => absurd (by decide) q⟩⟩, fun q => absurd c4 q⟩⟩⟩⟩⟩⟩⟩⟩⟩⟩
      · by_cases c6 : x3 = 0
        · obtain ⟨n, h⟩ := h5 c1 c3 c4 c6
          exact ⟨n + 32, ⟨rfl, ⟨rfl, ⟨fun q => absurd q c1, fun _ => ⟨rfl, ⟨rfl, ⟨fun q => absurd c3 q, fun _ => ⟨rfl, ⟨rfl, ⟨fun q => absurd q c4, fun _ => ⟨fun _ => ⟨rfl, ⟨rfl, ⟨rfl, ⟨rfl, h⟩⟩⟩⟩, fun q => absurd c6 q⟩⟩⟩⟩⟩⟩⟩⟩⟩⟩⟩
        · obtain ⟨n, h⟩ := h6 c1 c3 c4 c6
          exact ⟨n + 34, ⟨rfl, ⟨rfl, ⟨fun q => absurd q c1, fun _ => ⟨rfl, ⟨rfl, ⟨fun q => absurd c3 q, fun _ => ⟨rfl, ⟨rfl, ⟨fun q => absurd q c4, fun _ => ⟨fun q => absurd q c6, fun _ => ⟨fun q => absurd q (by decide), fun _ => ⟨rfl, ⟨rfl, ⟨rfl, ⟨rfl, h⟩⟩⟩⟩⟩⟩⟩⟩⟩⟩⟩⟩⟩⟩⟩⟩
    · by_cases c7 : x3 = 0
      · obtain ⟨n, h⟩ := h7 c1 c3 c7
        exact ⟨n + 26, ⟨rfl, ⟨rfl, ⟨fun q => absurd q c1, fun _ => ⟨rfl, ⟨rfl, ⟨fun _ => ⟨fun _ => ⟨rfl, ⟨rfl, ⟨rfl, ⟨rfl, h⟩⟩⟩⟩, fun q => absurd c7 q⟩, fun q => absurd q c3⟩⟩⟩⟩⟩⟩⟩
      · obtain ⟨n, h⟩ := h8 c1 c3 c7
        exact ⟨n + 18, ⟨rfl, ⟨rfl, ⟨fun q => absurd q c1, fun _ => ⟨rfl, ⟨rfl, ⟨fun _ => ⟨fun q => absurd q c7, fun _ => ⟨fun _ => h, fun q => absurd (by decide) q⟩⟩, fun q => absurd q c3⟩⟩⟩⟩⟩⟩⟩
theorem sg_126_0 {M : px_Mem} {Q : px_Po} (h1 : px_T 0 151 0 [some (.ref 0)] [] M (fun r M1 => px_T 0 126 4 [some (.ref 0), none, none, none, none] (r.toList ++ []) M1 Q)) : px_T 0 126 0 [some (.ref 0), none, none, none, none] [] M Q := by
  obtain ⟨n, h⟩ := px_T_cl (k := 126) (pc := 1) (y := 151) (st := [.ref 0]) rfl (h1)
  exact ⟨n + 2, ⟨rfl, h⟩⟩
theorem sg_126_4 {d1 : Option Value} {d2 : Option Value} {d3 : Option Value} {d4 : Option Value} {s0 : Int32} {M : px_Mem} {Q : px_Po} (h1 : (s0 = 0) → px_T 0 53 0 [some (.ref 4)] [] M (fun r M1 => px_T 0 126 21 [some (.ref 0), d1, d2, d3, d4] (r.toList ++ [.ref 28]) M1 Q)) (h2 : (¬ (s0 = 0)) → Q (some (.int (-2))) M) : px_T 0 126 4 [some (.ref 0), d1, d2, d3, d4] [.int s0] M Q := by
  by_cases c1 : s0 = 0
  · obtain ⟨n, h⟩ := px_T_cl (k := 126) (pc := 18) (y := 53) (st := [.ref 4, .ref 28]) rfl (h1 c1)
    exact ⟨n + 6, ⟨fun _ => ⟨rfl, ⟨rfl, ⟨rfl, h⟩⟩⟩, fun q => absurd c1 q⟩⟩
  · exact ⟨3, ⟨fun q => absurd q c1, fun _ => ⟨trivial, h2 c1⟩⟩⟩
theorem sg_126_21 {d1 : Option Value} {d2 : Option Value} {d3 : Option Value} {d4 : Option Value} {s0 : Int32} {M : px_Mem} {Q : px_Po} (h1 : px_T 0 11 0 [some (.ref 28), some (.int s0)] [] M (fun r M1 => px_T 0 126 24 [some (.ref 0), d1, d2, d3, d4] (r.toList ++ []) M1 Q)) : px_T 0 126 21 [some (.ref 0), d1, d2, d3, d4] [.int s0, .ref 28] M Q := by
  obtain ⟨n, h⟩ := px_T_cl (k := 126) (pc := 21) (y := 11) (st := [.int s0, .ref 28]) rfl (h1)
  exact ⟨n + 1, ⟨rfl, h⟩⟩
theorem sg_126_24 {d1 : Option Value} {d2 : Option Value} {d3 : Option Value} {d4 : Option Value} {s0 : Nat} {M : px_Mem} {Q : px_Po} (h_s0 : px_isW s0) (h1 : px_T 0 332 0 [some (.int (M.1 s0 0))] [] M (fun r M1 => px_T 0 126 30 [some (.ref 0), d1, d2, d3, d4] (r.toList ++ []) M1 Q)) : px_T 0 126 24 [some (.ref 0), d1, d2, d3, d4] [.ref s0] M Q := by
  rcases h_s0 with rfl | rfl
  all_goals
    obtain ⟨n, h⟩ := px_T_cl (k := 126) (pc := 27) (y := 332) (st := [.int (M.1 s0 0)]) rfl (h1)
    exact ⟨n + 2, ⟨rfl, h⟩⟩
theorem sg_126_30 {d1 : Option Value} {d2 : Option Value} {d3 : Option Value} {d4 : Option Value} {s0 : Int32} {M : px_Mem} {Q : px_Po} (h1 : px_T 0 126 35 [some (.ref 0), some (.int s0), some (.int (-1)), some (.int 0), d4] [] M Q) : px_T 0 126 30 [some (.ref 0), d1, d2, d3, d4] [.int s0] M Q := by
  obtain ⟨n, h⟩ := h1
  exact ⟨n + 5, h⟩
theorem sg_126_35 {x1 : Int32} {x2 : Int32} {x3 : Int32} {d4 : Option Value} {M : px_Mem} {Q : px_Po} (h1 : ((M.1 4 4) ≤ x3) → Q (some (.int x2)) M) (h2 : (¬ ((M.1 4 4) ≤ x3)) → px_T 0 165 0 [some (.ref 0), some (.int x3), some (.int (M.1 4 2)), none, none] [] M (fun r M1 => px_T 0 126 58 [some (.ref 0), some (.int x1), some (.int x2), some (.int x3), d4] (r.toList ++ []) M1 Q)) : px_T 0 126 35 [some (.ref 0), some (.int x1), some (.int x2), some (.int x3), d4] [] M Q := by
  by_cases c1 : (M.1 4 4) ≤ x3
  · exact ⟨7, ⟨rfl, ⟨rfl, ⟨fun _ => ⟨trivial, h1 c1⟩, fun q => absurd c1 q⟩⟩⟩⟩
  · obtain ⟨n, h⟩ := px_T_cl (k := 126) (pc := 55) (y := 165) (st := [.int (M.1 4 2), .int x3, .ref 0]) rfl (h2 c1)
    exact ⟨n + 11, ⟨rfl, ⟨rfl, ⟨fun q => absurd q c1, fun _ => ⟨rfl, ⟨rfl, ⟨rfl, h⟩⟩⟩⟩⟩⟩⟩
theorem sg_126_58 {x1 : Int32} {x2 : Int32} {x3 : Int32} {d4 : Option Value} {s0 : Int32} {M : px_Mem} {Q : px_Po} (h1 : px_T 0 332 0 [some (.int (M.1 47 0))] [] M (fun r M1 => px_T 0 126 69 [some (.ref 0), some (.int x1), some (.int x2), some (.int x3), d4] (r.toList ++ []) M1 Q)) : px_T 0 126 58 [some (.ref 0), some (.int x1), some (.int x2), some (.int x3), d4] [.int s0] M Q := by
  obtain ⟨n, h⟩ := px_T_cl (k := 126) (pc := 66) (y := 332) (st := [.int (M.1 47 0)]) rfl (h1)
  exact ⟨n + 5, ⟨rfl, ⟨rfl, h⟩⟩⟩
theorem sg_126_69 {x1 : Int32} {x2 : Int32} {x3 : Int32} {d4 : Option Value} {s0 : Int32} {M : px_Mem} {Q : px_Po} (h1 : (s0 ≤ x1) → px_T 0 126 35 [some (.ref 0), some (.int x1), some (.int x2), some (.int (x3 + 1)), some (.int s0)] [] M Q) (h2 : (¬ (s0 ≤ x1)) → px_T 0 126 35 [some (.ref 0), some (.int s0), some (.int x3), some (.int (x3 + 1)), some (.int s0)] [] M Q) : px_T 0 126 69 [some (.ref 0), some (.int x1), some (.int x2), some (.int x3), d4] [.int s0] M Q := by
  by_cases c1 : s0 ≤ x1
  · obtain ⟨n, h⟩ := h1 c1
    exact ⟨n + 6, ⟨fun _ => h, fun q => absurd c1 q⟩⟩
  · obtain ⟨n, h⟩ := h2 c1
    exact ⟨n + 10, ⟨fun q => absurd q c1, fun _ => h⟩⟩
theorem sg_127_0 {M : px_Mem} {Q : px_Po} (h1 : px_T 0 151 0 [some (.ref 0)] [] M (fun r M1 => px_T 0 127 4 [some (.ref 0), none, none, none, none, none, none] (r.toList ++ []) M1 Q)) : px_T 0 127 0 [some (.ref 0), none, none, none, none, none, none] [] M Q := by
  obtain ⟨n, h⟩ := px_T_cl (k := 127) (pc := 1) (y := 151) (st := [.ref 0]) rfl (h1)
  exact ⟨n + 2, ⟨rfl, h⟩⟩
theorem sg_127_4 {d1 : Option Value} {d2 : Option Value} {d3 : Option Value} {d4 : Option Value} {d5 : Option Value} {d6 : Option Value} {s0 : Int32} {M : px_Mem} {Q : px_Po} (h1 : (s0 = 0) → px_T 0 53 0 [some (.ref 4)] [] M (fun r M1 => px_T 0 127 21 [some (.ref 0), d1, d2, d3, d4, d5, d6] (r.toList ++ [.ref 28]) M1 Q)) (h2 : (¬ (s0 = 0)) → Q (some (.int (-2))) M) : px_T 0 127 4 [some (.ref 0), d1, d2, d3, d4, d5, d6] [.int s0] M Q := by
  by_cases c1 : s0 = 0
  · obtain ⟨n, h⟩ := px_T_cl (k := 127) (pc := 18) (y := 53) (st := [.ref 4, .ref 28]) rfl (h1 c1)
    exact ⟨n + 6, ⟨fun _ => ⟨rfl, ⟨rfl, ⟨rfl, h⟩⟩⟩, fun q => absurd c1 q⟩⟩
  · exact ⟨3, ⟨fun q => absurd q c1, fun _ => ⟨trivial, h2 c1⟩⟩⟩
theorem sg_127_21 {d1 : Option Value} {d2 : Option Value} {d3 : Option Value} {d4 : Option Value} {d5 : Option Value} {d6 : Option Value} {s0 : Int32} {M : px_Mem} {Q : px_Po} (h1 : px_T 0 13 0 [some (.ref 28), some (.int s0), none, none] [] M (fun r M1 => px_T 0 127 24 [some (.ref 0), d1, d2, d3, d4, d5, d6] (r.toList ++ []) M1 Q)) : px_T 0 127 21 [some (.ref 0), d1, d2, d3, d4, d5, d6] [.int s0, .ref 28] M Q := by
  obtain ⟨n, h⟩ := px_T_cl (k := 127) (pc := 21) (y := 13) (st := [.int s0, .ref 28]) rfl (h1)
  exact ⟨n + 1, ⟨rfl, h⟩⟩
theorem sg_127_24 {d1 : Option Value} {d2 : Option Value} {d3 : Option Value} {d4 : Option Value} {d5 : Option Value} {d6 : Option Value} {s0 : Int32} {M : px_Mem} {Q : px_Po} (h1 : px_T 0 127 32 [some (.ref 0), some (.int s0), some (.int 0), some (.int (-1)), some (.int 0), d5, d6] [] M Q) : px_T 0 127 24 [some (.ref 0), d1, d2, d3, d4, d5, d6] [.int s0] M Q := by
  obtain ⟨n, h⟩ := h1
  exact ⟨n + 7, h⟩
theorem sg_127_32 {x1 : Int32} {x2 : Int32} {x3 : Int32} {x4 : Int32} {d5 : Option Value} {d6 : Option Value} {M : px_Mem} {Q : px_Po} (h1 : ((M.1 4 4) ≤ x4) → Q (some (.int x3)) M) (h2 : (¬ ((M.1 4 4) ≤ x4)) → px_T 0 12 0 [some (.ref 28), some (.int x4)] [] M (fun r M1 => px_T 0 127 53 [some (.ref 0), some (.int x1), some (.int x2), some (.int x3), some (.int x4), d5, d6] (r.toList ++ []) M1 Q)) : px_T 0 127 32 [some (.ref 0), some (.int x1), some (.int x2), some (.int x3), some (.int x4), d5, d6] [] M Q := by
  by_cases c1 : (M.1 4 4) ≤ x4
  · exact ⟨7, ⟨rfl, ⟨rfl, ⟨fun _ => ⟨trivial, h1 c1⟩, fun q => absurd c1 q⟩⟩⟩⟩
  · obtain ⟨n, h⟩ := px_T_cl (k := 127) (pc := 50) (y := 12) (st := [.int x4, .ref 28]) rfl (h2 c1)
    exact ⟨n + 9, ⟨rfl, ⟨rfl, ⟨fun q => absurd q c1, fun _ => ⟨rfl, ⟨rfl, h⟩⟩⟩⟩⟩⟩
theorem sg_127_53 {x1 : Int32} {x2 : Int32} {x3 : Int32} {x4 : Int32} {d5 : Option Value} {d6 : Option Value} {s0 : Int32} {M : px_Mem} {Q : px_Po} (h1 : (s0 = 0) → px_T 0 165 0 [some (.ref 0), some (.int x4), some (.int (M.1 4 2)), none, none] [] M (fun r M1 => px_T 0 127 76 [some (.ref 0), some (.int x1), some (.int x2), some (.int x3), some (.int x4), some (.int 0), d6] (r.toList ++ []) M1 Q)) (h2 : (¬ (s0 = 0)) → px_T 0 165 0 [some (.ref 0), some (.int x4), some (.int (M.1 4 2)), none, none] [] M (fun r M1 => px_T 0 127 76 [some (.ref 0), some (.int x1), some (.int x2), some (.int x3), some (.int x4), some (.int 1), d6] (r.toList ++ []) M1 Q)) : px_T 0 127 53 [some (.ref 0), some (.int x1), some (.int x2), some (.int x3), some (.int x4), d5, d6] [.int s0] M Q := by
  by_cases c1 : s0 = 0
  · obtain ⟨n, h⟩ := px_T_cl (k := 127) (pc := 73) (y := 165) (st := [.int (M.1 4 2), .int x4, .ref 0]) rfl (h1 c1)
    exact ⟨n + 9, ⟨fun _ => ⟨rfl, ⟨rfl, ⟨rfl, h⟩⟩⟩, fun q => absurd c1 q⟩⟩
  · obtain ⟨n, h⟩ := px_T_cl (k := 127) (pc := 73) (y := 165) (st := [.int (M.1 4 2), .int x4, .ref 0]) rfl (h2 c1)
    exact ⟨n + 10, ⟨fun q => absurd q c1, fun _ => ⟨rfl, ⟨rfl, ⟨rfl, h⟩⟩⟩⟩⟩
theorem sg_127_76 {x1 : Int32} {x2 : Int32} {x3 : Int32} {x4 : Int32} {x5 : Int32} {d6 : Option Value} {s0 : Int32} {M : px_Mem} {Q : px_Po} (h1 : ((s0 - (x1 - x5)) ≤ x2) → px_T 0 127 32 [some (.ref 0), some (.int x1), some (.int x2), some (.int x3), some (.int (x4 + 1)), some (.int x5), some (.int (s0 - (x1 - x5)))] [] M Q) (h2 : (¬ ((s0 - (x1 - x5)) ≤ x2)) → px_T 0 127 32 [some (.ref 0), some (.int x1), some (.int (s0 - (x1 - x5))), some (.int x4), some (.int (x4 + 1)), some (.int x5), some (.int (s0 - (x1 - x5)))] [] M Q) : px_T 0 127 76 [some (.ref 0), some (.int x1), some (.int x2), some (.int x3), some (.int x4), some (.int x5), d6] [.int s0] M Q := by
  by_cases c1 : (s0 - (x1 - x5)) ≤ x2
  · obtain ⟨n, h⟩ := h1 c1
    exact ⟨n + 10, ⟨fun _ => h, fun q => absurd c1 q⟩⟩
  · obtain ⟨n, h⟩ := h2 c1
    exact ⟨n + 14, ⟨fun q => absurd q c1, fun _ => h⟩⟩
theorem sg_128_0 {x1 : Int32} {M : px_Mem} {Q : px_Po} (h1 : px_T 0 167 0 [some (.ref 0), some (.int x1)] [] M (fun r M1 => px_T 0 128 5 [some (.ref 0), some (.int x1), none, none, none] (r.toList ++ []) M1 Q)) : px_T 0 128 0 [some (.ref 0), some (.int x1), none, none, none] [] M Q := by
  obtain ⟨n, h⟩ := px_T_cl (k := 128) (pc := 2) (y := 167) (st := [.int x1, .ref 0]) rfl (h1)
  exact ⟨n + 3, ⟨rfl, h⟩⟩
theorem sg_128_5 {d1 : Option Value} {d2 : Option Value} {d3 : Option Value} {d4 : Option Value} {s0 : Int32} {M : px_Mem} {Q : px_Po} (h1 : (s0 = 0) → px_T 0 128 17 [some (.ref 0), d1, some (.int s0), some (.int 0), some (.int 0)] [] M Q) (h2 : (¬ (s0 = 0)) → Q (some (.int s0)) M) : px_T 0 128 5 [some (.ref 0), d1, d2, d3, d4] [.int s0] M Q := by
  by_cases c1 : s0 = 0
  · obtain ⟨n, h⟩ := h1 c1
    exact ⟨n + 7, ⟨fun _ => h, fun q => absurd c1 q⟩⟩
  · exact ⟨5, ⟨fun q => absurd q c1, fun _ => ⟨trivial, h2 c1⟩⟩⟩
theorem sg_128_17 {d1 : Option Value} {d2 : Option Value} {x3 : Int32} {x4 : Int32} {M : px_Mem} {Q : px_Po} (h1 : ((M.1 4 4) ≤ x4) → Q (some (.int x3)) M) (h2 : (¬ ((M.1 4 4) ≤ x4)) → px_T 0 168 0 [some (.ref 0), some (.int x4), some (.int (M.1 4 2)), none, none] [] M (fun r M1 => px_T 0 128 42 [some (.ref 0), d1, d2, some (.int x3), some (.int x4)] (r.toList ++ []) M1 Q)) : px_T 0 128 17 [some (.ref 0), d1, d2, some (.int x3), some (.int x4)] [] M Q := by
  by_cases c1 : (M.1 4 4) ≤ x4
  · exact ⟨7, ⟨rfl, ⟨rfl, ⟨fun _ => ⟨trivial, h1 c1⟩, fun q => absurd c1 q⟩⟩⟩⟩
  · obtain ⟨n, h⟩ := px_T_cl (k := 128) (pc := 39) (y := 168) (st := [.int (M.1 4 2), .int x4, .ref 0]) rfl (h2 c1)
    exact ⟨n + 11, ⟨rfl, ⟨rfl, ⟨fun q => absurd q c1, fun _ => ⟨rfl, ⟨rfl, ⟨rfl, h⟩⟩⟩⟩⟩⟩⟩
theorem sg_128_42 {d1 : Option Value} {d2 : Option Value} {x3 : Int32} {x4 : Int32} {s0 : Int32} {M : px_Mem} {Q : px_Po} (h1 : (s0 = 0) → px_T 0 128 17 [some (.ref 0), d1, d2, some (.int x3), some (.int (x4 + 1))] [] M Q) (h2 : (¬ (s0 = 0)) → px_T 0 128 17 [some (.ref 0), d1, d2, some (.int (x3 + 1)), some (.int (x4 + 1))] [] M Q) : px_T 0 128 42 [some (.ref 0), d1, d2, some (.int x3), some (.int x4)] [.int s0] M Q := by
  by_cases c1 : s0 = 0
  · obtain ⟨n, h⟩ := h1 c1
    exact ⟨n + 3, ⟨fun _ => h, fun q => absurd c1 q⟩⟩
  · obtain ⟨n, h⟩ := h2 c1
    exact ⟨n + 4, ⟨fun q => absurd q c1, fun _ => h⟩⟩
theorem sg_129_0 {x1 : Int32} {M : px_Mem} {Q : px_Po} (h1 : px_T 0 167 0 [some (.ref 0), some (.int x1)] [] M (fun r M1 => px_T 0 129 5 [some (.ref 0), some (.int x1), none, none] (r.toList ++ []) M1 Q)) : px_T 0 129 0 [some (.ref 0), some (.int x1), none, none] [] M Q := by
  obtain ⟨n, h⟩ := px_T_cl (k := 129) (pc := 2) (y := 167) (st := [.int x1, .ref 0]) rfl (h1)
  exact ⟨n + 3, ⟨rfl, h⟩⟩
theorem sg_129_5 {d1 : Option Value} {d2 : Option Value} {d3 : Option Value} {s0 : Int32} {M : px_Mem} {Q : px_Po} (h1 : (s0 = 0) → px_T 0 129 14 [some (.ref 0), d1, some (.int s0), some (.int 0)] [] M Q) (h2 : (¬ (s0 = 0)) → Q (some (.int s0)) M) : px_T 0 129 5 [some (.ref 0), d1, d2, d3] [.int s0] M Q := by
  by_cases c1 : s0 = 0
  · obtain ⟨n, h⟩ := h1 c1
    exact ⟨n + 5, ⟨fun _ => h, fun q => absurd c1 q⟩⟩
  · exact ⟨5, ⟨fun q => absurd q c1, fun _ => ⟨trivial, h2 c1⟩⟩⟩
theorem sg_129_14 {d1 : Option Value} {d2 : Option Value} {x3 : Int32} {M : px_Mem} {Q : px_Po} (h1 : ((M.1 4 4) ≤ x3) → Q (some (.int (-1))) M) (h2 : (¬ ((M.1 4 4) ≤ x3)) → px_T 0 168 0 [some (.ref 0), some (.int x3), some (.int (M.1 4 2)), none, none] [] M (fun r M1 => px_T 0 129 37 [some (.ref 0), d1, d2, some (.int x3)] (r.toList ++ []) M1 Q)) : px_T 0 129 14 [some (.ref 0), d1, d2, some (.int x3)] [] M Q := by
  by_cases c1 : (M.1 4 4) ≤ x3
  · exact ⟨7, ⟨rfl, ⟨rfl, ⟨fun _ => ⟨trivial, h1 c1⟩, fun q => absurd c1 q⟩⟩⟩⟩
  · obtain ⟨n, h⟩ := px_T_cl (k := 129) (pc := 34) (y := 168) (st := [.int (M.1 4 2), .int x3, .ref 0]) rfl (h2 c1)
    exact ⟨n + 11, ⟨rfl, ⟨rfl, ⟨fun q => absurd q c1, fun _ => ⟨rfl, ⟨rfl, ⟨rfl, h⟩⟩⟩⟩⟩⟩⟩
theorem sg_129_37 {d1 : Option Value} {d2 : Option Value} {x3 : Int32} {s0 : Int32} {M : px_Mem} {Q : px_Po} (h1 : (s0 = 0) → px_T 0 129 14 [some (.ref 0), d1, d2, some (.int (x3 + 1))] [] M Q) (h2 : (¬ (s0 = 0)) → Q (some (.int x3)) M) : px_T 0 129 37 [some (.ref 0), d1, d2, some (.int x3)] [.int s0] M Q := by
  by_cases c1 : s0 = 0
  · obtain ⟨n, h⟩ := h1 c1
    exact ⟨n + 3, ⟨fun _ => h, fun q => absurd c1 q⟩⟩
  · exact ⟨3, ⟨fun q => absurd q c1, fun _ => ⟨trivial, h2 c1⟩⟩⟩
theorem sg_130_0 {x1 : Int32} {M : px_Mem} {Q : px_Po} (h1 : px_T 0 167 0 [some (.ref 0), some (.int x1)] [] M (fun r M1 => px_T 0 130 5 [some (.ref 0), some (.int x1), none] (r.toList ++ []) M1 Q)) : px_T 0 130 0 [some (.ref 0), some (.int x1), none] [] M Q := by
  obtain ⟨n, h⟩ := px_T_cl (k := 130) (pc := 2) (y := 167) (st := [.int x1, .ref 0]) rfl (h1)
  exact ⟨n + 3, ⟨rfl, h⟩⟩
theorem sg_130_5 {d1 : Option Value} {d2 : Option Value} {s0 : Int32} {M : px_Mem} {Q : px_Po} (h1 : (s0 = 0) → px_T 0 168 0 [some (.ref 0), some (.int (-1)), some (.int (M.1 4 2)), none, none] [] M (fun r M1 => px_T 0 130 24 [some (.ref 0), d1, some (.int s0)] (r.toList ++ []) M1 Q)) (h2 : (¬ (s0 = 0)) → Q (some (.int s0)) M) : px_T 0 130 5 [some (.ref 0), d1, d2] [.int s0] M Q := by
  by_cases c1 : s0 = 0
  · obtain ⟨n, h⟩ := px_T_cl (k := 130) (pc := 21) (y := 168) (st := [.int (M.1 4 2), .int (-1), .ref 0]) rfl (h1 c1)
    exact ⟨n + 9, ⟨fun _ => ⟨rfl, ⟨rfl, ⟨rfl, h⟩⟩⟩, fun q => absurd c1 q⟩⟩
  · exact ⟨5, ⟨fun q => absurd q c1, fun _ => ⟨trivial, h2 c1⟩⟩⟩
theorem sg_130_24 {d0 : Option Value} {d1 : Option Value} {d2 : Option Value} {s0 : Int32} {M : px_Mem} {Q : px_Po} (h1 : (s0 = 0) → Q (some (.int 0)) M) (h2 : (¬ (s0 = 0)) → Q (some (.int 1)) M) : px_T 0 130 24 [d0, d1, d2] [.int s0] M Q := by
  by_cases c1 : s0 = 0
  · exact ⟨3, ⟨fun _ => ⟨trivial, h1 c1⟩, fun q => absurd c1 q⟩⟩
  · exact ⟨4, ⟨fun q => absurd q c1, fun _ => ⟨trivial, h2 c1⟩⟩⟩
theorem sg_131_0 {x1 : Int32} {M : px_Mem} {Q : px_Po} (h1 : px_T 0 167 0 [some (.ref 0), some (.int x1)] [] M (fun r M1 => px_T 0 131 5 [some (.ref 0), some (.int x1), none, none, none] (r.toList ++ []) M1 Q)) : px_T 0 131 0 [some (.ref 0), some (.int x1), none, none, none] [] M Q := by
  obtain ⟨n, h⟩ := px_T_cl (k := 131) (pc := 2) (y := 167) (st := [.int x1, .ref 0]) rfl (h1)
  exact ⟨n + 3, ⟨rfl, h⟩⟩
theorem sg_131_5 {d1 : Option Value} {d2 : Option Value} {d3 : Option Value} {d4 : Option Value} {s0 : Int32} {M : px_Mem} {Q : px_Po} (h1 : (s0 = 0) → px_T 0 131 17 [some (.ref 0), d1, some (.int s0), some (.int 0), some (.int 0)] [] M Q) (h2 : (¬ (s0 = 0)) → Q (some (.int s0)) M) : px_T 0 131 5 [some (.ref 0), d1, d2, d3, d4] [.int s0] M Q := by
  by_cases c1 : s0 = 0
  · obtain ⟨n, h⟩ := h1 c1
    exact ⟨n + 7, ⟨fun _ => h, fun q => absurd c1 q⟩⟩
  · exact ⟨5, ⟨fun q => absurd q c1, fun _ => ⟨trivial, h2 c1⟩⟩⟩
theorem sg_131_17 {d1 : Option Value} {d2 : Option Value} {x3 : Int32} {x4 : Int32} {M : px_Mem} {Q : px_Po} (h1 : ((4 : Int32) ≤ x4) → Q (some (.int x3)) M) (h2 : (¬ ((4 : Int32) ≤ x4)) → px_T 0 168 0 [some (.ref 0), some (.int (-1)), some (.int x4), none, none] [] M (fun r M1 => px_T 0 131 30 [some (.ref 0), d1, d2, some (.int x3), some (.int x4)] (r.toList ++ []) M1 Q)) : px_T 0 131 17 [some (.ref 0), d1, d2, some (.int x3), some (.int x4)] [] M Q := by
  by_cases c1 : (4 : Int32) ≤ x4
  · exact ⟨5, ⟨fun _ => ⟨trivial, h1 c1⟩, fun q => absurd c1 q⟩⟩
  · obtain ⟨n, h⟩ := px_T_cl (k := 131) (pc := 27) (y := 168) (st := [.int x4, .int (-1), .ref 0]) rfl (h2 c1)
    exact ⟨n + 7, ⟨fun q => absurd q c1, fun _ => ⟨rfl, h⟩⟩⟩
theorem sg_131_30 {d1 : Option Value} {d2 : Option Value} {x3 : Int32} {x4 : Int32} {s0 : Int32} {M : px_Mem} {Q : px_Po} (h1 : (s0 = 0) → px_T 0 131 17 [some (.ref 0), d1, d2, some (.int x3), some (.int (x4 + 1))] [] M Q) (h2 : (¬ (s0 = 0)) → px_T 0 131 17 [some (.ref 0), d1, d2, some (.int (x3 ||| (1 <<< (x4 &&& 31)))), some (.int (x4 + 1))] [] M Q) : px_T 0 131 30 [some (.ref 0), d1, d2, some (.int x3), some (.int x4)] [.int s0] M Q := by
  by_cases c1 : s0 = 0
  · obtain ⟨n, h⟩ := h1 c1
    exact ⟨n + 3, ⟨fun _ => h, fun q => absurd c1 q⟩⟩
  · obtain ⟨n, h⟩ := h2 c1
    exact ⟨n + 9, ⟨fun q => absurd q c1, fun _ => h⟩⟩
theorem sg_132_0 {x1 : Int32} {M : px_Mem} {Q : px_Po} (h1 : (x1 < 0) → Q (some (.int (-2))) M) (h2 : (¬ (x1 < 0)) → ((4 : Int32) ≤ x1) → Q (some (.int (-2))) M) (h3 : (¬ (x1 < 0)) → (¬ ((4 : Int32) ≤ x1)) → px_T 0 151 0 [some (.ref 0)] [] M (fun r M1 => px_T 0 132 13 [some (.ref 0), some (.int x1)] (r.toList ++ []) M1 Q)) : px_T 0 132 0 [some (.ref 0), some (.int x1)] [] M Q := by
  by_cases c1 : x1 < 0
  · exact ⟨4, ⟨fun _ => ⟨trivial, h1 c1⟩, fun q => absurd c1 q⟩⟩
  · by_cases c2 : (4 : Int32) ≤ x1
    · exact ⟨7, ⟨fun q => absurd q c1, fun _ => ⟨fun _ => ⟨trivial, h2 c1 c2⟩, fun q => absurd c2 q⟩⟩⟩
    · obtain ⟨n, h⟩ := px_T_cl (k := 132) (pc := 10) (y := 151) (st := [.ref 0]) rfl (h3 c1 c2)
      exact ⟨n + 7, ⟨fun q => absurd q c1, fun _ => ⟨fun q => absurd q c2, fun _ => ⟨rfl, h⟩⟩⟩⟩
theorem sg_132_13 {x1 : Int32} {s0 : Int32} {M : px_Mem} {Q : px_Po} (h1 : (s0 = 0) → px_T 0 166 0 [some (.ref 0), some (.int x1)] [] M (fun r M1 => px_T 0 132 24 [some (.ref 0), some (.int x1)] (r.toList ++ []) M1 Q)) (h2 : (¬ (s0 = 0)) → Q (some (.int (-2))) M) : px_T 0 132 13 [some (.ref 0), some (.int x1)] [.int s0] M Q := by
  by_cases c1 : s0 = 0
  · obtain ⟨n, h⟩ := px_T_cl (k := 132) (pc := 21) (y := 166) (st := [.int x1, .ref 0]) rfl (h1 c1)
    exact ⟨n + 4, ⟨fun _ => ⟨rfl, h⟩, fun q => absurd c1 q⟩⟩
  · exact ⟨3, ⟨fun q => absurd q c1, fun _ => ⟨trivial, h2 c1⟩⟩⟩
theorem sg_132_24 {d0 : Option Value} {d1 : Option Value} {s0 : Int32} {M : px_Mem} {Q : px_Po} (h1 : Q (some (.int s0)) M) : px_T 0 132 24 [d0, d1] [.int s0] M Q := by
  exact ⟨1, ⟨trivial, h1⟩⟩
theorem sg_133_0 {M : px_Mem} {Q : px_Po} (h1 : px_T 0 151 0 [some (.ref 0)] [] M (fun r M1 => px_T 0 133 4 [some (.ref 0), none, none, none, none] (r.toList ++ []) M1 Q)) : px_T 0 133 0 [some (.ref 0), none, none, none, none] [] M Q := by
  obtain ⟨n, h⟩ := px_T_cl (k := 133) (pc := 1) (y := 151) (st := [.ref 0]) rfl (h1)
  exact ⟨n + 2, ⟨rfl, h⟩⟩
theorem sg_133_4 {d1 : Option Value} {d2 : Option Value} {d3 : Option Value} {d4 : Option Value} {s0 : Int32} {M : px_Mem} {Q : px_Po} (h1 : (s0 = 0) → px_T 0 166 0 [some (.ref 0), some (.int 0)] [] M (fun r M1 => px_T 0 133 17 [some (.ref 0), some (.int 0), d2, d3, d4] (r.toList ++ []) M1 Q)) (h2 : (¬ (s0 = 0)) → Q (some (.int (-2))) M) : px_T 0 133 4 [some (.ref 0), d1, d2, d3, d4] [.int s0] M Q := by
  by_cases c1 : s0 = 0
  · obtain ⟨n, h⟩ := px_T_cl (k := 133) (pc := 14) (y := 166) (st := [.int 0, .ref 0]) rfl (h1 c1)
    exact ⟨n + 6, ⟨fun _ => ⟨rfl, h⟩, fun q => absurd c1 q⟩⟩
  · exact ⟨3, ⟨fun q => absurd q c1, fun _ => ⟨trivial, h2 c1⟩⟩⟩
theorem sg_133_17 {x1 : Int32} {d2 : Option Value} {d3 : Option Value} {d4 : Option Value} {s0 : Int32} {M : px_Mem} {Q : px_Po} (h1 : px_T 0 133 20 [some (.ref 0), some (.int x1), some (.int s0), some (.int 1), d4] [] M Q) : px_T 0 133 17 [some (.ref 0), some (.int x1), d2, d3, d4] [.int s0] M Q := by
  obtain ⟨n, h⟩ := h1
  exact ⟨n + 3, h⟩
theorem sg_133_20 {x1 : Int32} {x2 : Int32} {x3 : Int32} {d4 : Option Value} {M : px_Mem} {Q : px_Po} (h1 : ((4 : Int32) ≤ x3) → Q (some (.int x1)) M) (h2 : (¬ ((4 : Int32) ≤ x3)) → px_T 0 166 0 [some (.ref 0), some (.int x3)] [] M (fun r M1 => px_T 0 133 30 [some (.ref 0), some (.int x1), some (.int x2), some (.int x3), d4] (r.toList ++ []) M1 Q)) : px_T 0 133 20 [some (.ref 0), some (.int x1), some (.int x2), some (.int x3), d4] [] M Q := by
  by_cases c1 : (4 : Int32) ≤ x3
  · exact ⟨5, ⟨fun _ => ⟨trivial, h1 c1⟩, fun q => absurd c1 q⟩⟩
  · obtain ⟨n, h⟩ := px_T_cl (k := 133) (pc := 27) (y := 166) (st := [.int x3, .ref 0]) rfl (h2 c1)
    exact ⟨n + 6, ⟨fun q => absurd q c1, fun _ => ⟨rfl, h⟩⟩⟩
theorem sg_133_30 {x1 : Int32} {x2 : Int32} {x3 : Int32} {d4 : Option Value} {s0 : Int32} {M : px_Mem} {Q : px_Po} (h1 : (x2 ≤ s0) → px_T 0 133 20 [some (.ref 0), some (.int x1), some (.int x2), some (.int (x3 + 1)), some (.int s0)] [] M Q) (h2 : (¬ (x2 ≤ s0)) → px_T 0 133 20 [some (.ref 0), some (.int x3), some (.int s0), some (.int (x3 + 1)), some (.int s0)] [] M Q) : px_T 0 133 30 [some (.ref 0), some (.int x1), some (.int x2), some (.int x3), d4] [.int s0] M Q := by
  by_cases c1 : x2 ≤ s0
  · obtain ⟨n, h⟩ := h1 c1
    exact ⟨n + 6, ⟨fun _ => h, fun q => absurd c1 q⟩⟩
  · obtain ⟨n, h⟩ := h2 c1
    exact ⟨n + 10, ⟨fun q => absurd q c1, fun _ => h⟩⟩
theorem sg_134_0 {x1 : Int32} {M : px_Mem} {Q : px_Po} (h1 : (x1 < 0) → Q (some (.int (-2))) M) (h2 : (¬ (x1 < 0)) → ((32767 : Int32) < x1) → Q (some (.int (-2))) M) (h3 : (¬ (x1 < 0)) → (¬ ((32767 : Int32) < x1)) → px_T 0 151 0 [some (.ref 0)] [] M (fun r M1 => px_T 0 134 15 [some (.ref 0), some (.int x1)] (r.toList ++ []) M1 Q)) : px_T 0 134 0 [some (.ref 0), some (.int x1)] [] M Q := by
  by_cases c1 : x1 < 0
  · exact ⟨4, ⟨fun _ => ⟨trivial, h1 c1⟩, fun q => absurd c1 q⟩⟩
  · by_cases c2 : (32767 : Int32) < x1
    · exact ⟨7, ⟨fun q => absurd q c1, fun _ => ⟨fun _ => ⟨trivial, h2 c1 c2⟩, fun q => absurd c2 q⟩⟩⟩
    · obtain ⟨n, h⟩ := px_T_cl (k := 134) (pc := 12) (y := 151) (st := [.ref 0]) rfl (h3 c1 c2)
      exact ⟨n + 7, ⟨fun q => absurd q c1, fun _ => ⟨fun q => absurd q c2, fun _ => ⟨rfl, h⟩⟩⟩⟩
theorem sg_134_15 {x1 : Int32} {s0 : Int32} {M : px_Mem} {Q : px_Po} (h1 : (s0 = 0) → px_T 0 169 0 [some (.ref 0), some (.int x1), none, none, none] [] M (fun r M1 => px_T 0 134 26 [some (.ref 0), some (.int x1)] (r.toList ++ []) M1 Q)) (h2 : (¬ (s0 = 0)) → Q (some (.int (-2))) M) : px_T 0 134 15 [some (.ref 0), some (.int x1)] [.int s0] M Q := by
  by_cases c1 : s0 = 0
  · obtain ⟨n, h⟩ := px_T_cl (k := 134) (pc := 23) (y := 169) (st := [.int x1, .ref 0]) rfl (h1 c1)
    exact ⟨n + 4, ⟨fun _ => ⟨rfl, h⟩, fun q => absurd c1 q⟩⟩
  · exact ⟨3, ⟨fun q => absurd q c1, fun _ => ⟨trivial, h2 c1⟩⟩⟩
theorem sg_134_26 {d0 : Option Value} {d1 : Option Value} {s0 : Int32} {M : px_Mem} {Q : px_Po} (h1 : Q (some (.int s0)) M) : px_T 0 134 26 [d0, d1] [.int s0] M Q := by
  exact ⟨1, ⟨trivial, h1⟩⟩
theorem sg_135_0 {x1 : Int32} {x2 : Int32} {M : px_Mem} {Q : px_Po} (h1 : (x1 < 2) → Q (some (.int (-1000))) M) (h2 : (¬ (x1 < 2)) → ((7 : Int32) < x1) → Q (some (.int (-1000))) M) (h3 : (¬ (x1 < 2)) → (¬ ((7 : Int32) < x1)) → (x2 < 0) → Q (some (.int (-1000))) M) (h4 : (¬ (x1 < 2)) → (¬ ((7 : Int32) < x1)) → (¬ (x2 < 0)) → ((1 : Int32) < x2) → Q (some (.int (-1000))) M) (h5 : (¬ (x1 < 2)) → (¬ ((7 : Int32) < x1)) → (¬ (x2 < 0)) → (¬ ((1 : Int32) < x2)) → px_T 0 151 0 [some (.ref 0)] [] M (fun r M1 => px_T 0 135 24 [some (.ref 0), some (.int x1), some (.int x2), none, none, none, none] (r.toList ++ []) M1 Q)) : px_T 0 135 0 [some (.ref 0), some (.int x1), some (.int x2), none, none, none, none] [] M Q := by
  by_cases c1 : x1 < 2
  · exact ⟨5, ⟨fun _ => ⟨trivial, h1 c1⟩, fun q => absurd c1 q⟩⟩
  · by_cases c2 : (7 : Int32) < x1
    · exact ⟨8, ⟨fun q => absurd q c1, fun _ => ⟨fun _ => ⟨trivial, h2 c1 c2⟩, fun q => absurd c2 q⟩⟩⟩
    · by_cases c3 : x2 < 0
      · exact ⟨10, ⟨fun q => absurd q c1, fun _ => ⟨fun q => absurd q c2, fun _ => ⟨fun _ => ⟨trivial, h3 c1 c2 c3⟩, fun q => absurd c3 q⟩⟩⟩⟩
      · by_cases c4 : (1 : Int32) < x2
        · exact ⟨13, ⟨fun q => absurd q c1, fun _ => ⟨fun q => absurd q c2, fun _ => ⟨fun q => absurd q c3, fun _ => ⟨fun _ => ⟨trivial, h4 c1 c2 c3 c4⟩, fun q => absurd c4 q⟩⟩⟩⟩⟩
        · obtain ⟨n, h⟩ := px_T_cl (k := 135) (pc := 21) (y := 151) (st := [.ref 0]) rfl (h5 c1 c2 c3 c4)
          exact ⟨n + 13, ⟨fun q => absurd q c1, fun _ => ⟨fun q => absurd q c2, fun _ => ⟨fun q => absurd q c3, fun _ => ⟨fun q => absurd q c4, fun _ => ⟨rfl, h⟩⟩⟩⟩⟩⟩
theorem sg_135_24 {x1 : Int32} {x2 : Int32} {d3 : Option Value} {d4 : Option Value} {d5 : Option Value} {d6 : Option Value} {s0 : Int32} {M : px_Mem} {Q : px_Po} (h1 : (s0 = 0) → px_T 0 135 33 [some (.ref 0), some (.int x1), some (.int x2), some (.int 0), d4, d5, d6] [] M Q) (h2 : (¬ (s0 = 0)) → Q (some (.int (-1000))) M) : px_T 0 135 24 [some (.ref 0), some (.int x1), some (.int x2), d3, d4, d5, d6] [.int s0] M Q := by
  by_cases c1 : s0 = 0
  · obtain ⟨n, h⟩ := h1 c1
    exact ⟨n + 3, ⟨fun _ => h, fun q => absurd c1 q⟩⟩
  · exact ⟨3, ⟨fun q => absurd q c1, fun _ => ⟨trivial, h2 c1⟩⟩⟩
theorem sg_135_33 {x1 : Int32} {x2 : Int32} {x3 : Int32} {d4 : Option Value} {d5 : Option Value} {d6 : Option Value} {M : px_Mem} {Q : px_Po} (h1 : ((64 : Int32) ≤ x3) → px_T 0 135 77 [some (.ref 0), some (.int x1), some (.int x2), some (.int (1 <<< ((x1 - 2) &&& 31))), some (.int 0), some (.int 0), d6] [] M Q) (h2 : (¬ ((64 : Int32) ≤ x3)) → px_T 0 169 0 [some (.ref 0), some (.int (32641 ||| (x3 <<< (1 &&& 31)))), none, none, none] [] M (fun r M1 => px_T 0 135 58 [some (.ref 0), some (.int x1), some (.int x2), some (.int x3), d4, d5, d6] (r.toList ++ [.int x3, .ref 55]) M1 Q)) : px_T 0 135 33 [some (.ref 0), some (.int x1), some (.int x2), some (.int x3), d4, d5, d6] [] M Q := by
  by_cases c1 : (64 : Int32) ≤ x3
  · obtain ⟨n, h⟩ := h1 c1
    exact ⟨n + 15, ⟨rfl, (Or.inl ⟨0, 64, rfl, (by decide), ⟨fun _ => h, fun q => absurd c1 q⟩⟩)⟩⟩
  · obtain ⟨n, h⟩ := px_T_cl (k := 135) (pc := 55) (y := 169) (st := [.int (32641 ||| (x3 <<< (1 &&& 31))), .ref 0, .int x3, .ref 55]) rfl (h2 c1)
    exact ⟨n + 15, ⟨rfl, (Or.inl ⟨0, 64, rfl, (by decide), ⟨fun q => absurd q c1, fun _ => ⟨rfl, ⟨rfl, h⟩⟩⟩⟩)⟩⟩
theorem sg_135_77 {d1 : Option Value} {x2 : Int32} {x3 : Int32} {x4 : Int32} {x5 : Int32} {d6 : Option Value} {M : px_Mem} {Q : px_Po} (h1 : ((64 : Int32) ≤ x5) → px_T 0 173 0 [some (.long x4.toInt64), none, some (.long 720), none, some (.int x2), none, none, none, none, none, none, none] [] M (fun r M1 => px_T 0 135 155 [some (.ref 0), d1, some (.int x2), some (.int x3), some (.int x4), some (.int x5), d6] (r.toList ++ []) M1 Q)) (h2 : (¬ ((64 : Int32) ≤ x5)) → px_T 0 332 0 [some (.int x5)] [] M (fun r M1 => px_T 0 135 92 [some (.ref 0), d1, some (.int x2), some (.int x3), some (.int x4), some (.int x5), d6] (r.toList ++ []) M1 Q)) : px_T 0 135 77 [some (.ref 0), d1, some (.int x2), some (.int x3), some (.int x4), some (.int x5), d6] [] M Q := by
  by_cases c1 : (64 : Int32) ≤ x5
  · obtain ⟨n, h⟩ := px_T_cl (k := 135) (pc := 152) (y := 173) (st := [.int x2, .long 720, .long x4.toInt64]) rfl (h1 c1)
    exact ⟨n + 10, ⟨rfl, (Or.inl ⟨0, 64, rfl, (by decide), ⟨fun _ => h, fun q => absurd c1 q⟩⟩)⟩⟩
  · obtain ⟨n, h⟩ := px_T_cl (k := 135) (pc := 89) (y := 332) (st := [.int x5]) rfl (h2 c1)
    exact ⟨n + 7, ⟨rfl, (Or.inl ⟨0, 64, rfl, (by decide), ⟨fun q => absurd q c1, fun _ => h⟩⟩)⟩⟩
theorem sg_135_58 {x1 : Int32} {x2 : Int32} {x3 : Int32} {d4 : Option Value} {d5 : Option Value} {d6 : Option Value} {s0 : Int32} {s1 : Int32} {M : px_Mem} {Q : px_Po} (h1 : vp_in s1 64) (h2 : px_T 0 135 33 [some (.ref 0), some (.int x1), some (.int x2), some (.int (x3 + 1)), d4, d5, d6] [] (px_wI M 55 s1.toNatClampNeg s0) Q) : px_T 0 135 58 [some (.ref 0), some (.int x1), some (.int x2), some (.int x3), d4, d5, d6] [.int s0, .int s1, .ref 55] M Q := by
  obtain ⟨n, h⟩ := h2
  exact ⟨n + 3, ⟨⟨64, rfl, h1⟩, h⟩⟩
theorem sg_135_155 {d0 : Option Value} {d1 : Option Value} {d2 : Option Value} {d3 : Option Value} {d4 : Option Value} {d5 : Option Value} {d6 : Option Value} {s0 : Int64} {M : px_Mem} {Q : px_Po} (h1 : Q (some (.int s0.toInt32)) M) : px_T 0 135 155 [d0, d1, d2, d3, d4, d5, d6] [.long s0] M Q := by
  exact ⟨2, ⟨trivial, h1⟩⟩
theorem sg_135_92 {d1 : Option Value} {x2 : Int32} {x3 : Int32} {x4 : Int32} {x5 : Int32} {d6 : Option Value} {s0 : Int32} {M : px_Mem} {Q : px_Po} (h1 : ((x5 &&& x3) = 0) → ((6 : Int32) ≤ s0) → px_T 0 135 77 [some (.ref 0), d1, some (.int x2), some (.int x3), some (.int x4), some (.int (x5 + 1)), some (.int s0)] [] M Q) (h2 : ((x5 &&& x3) = 0) → (¬ ((6 : Int32) ≤ s0)) → vp_in s0 6) (h3 : ((x5 &&& x3) = 0) → (¬ ((6 : Int32) ≤ s0)) → vp_in (x5 ||| x3) 64) (h4 : ((x5 &&& x3) = 0) → (¬ ((6 : Int32) ≤ s0)) → vp_in x5 64) (h5 : ((x5 &&& x3) = 0) → (¬ ((6 : Int32) ≤ s0)) → px_T 0 135 77 [some (.ref 0), d1, some (.int x2), some (.int x3), some (.int (x4 + ((M.1 1002 s0.toNatClampNeg) * ((M.1 55 ((x5 ||| x3).toNatClampNeg)) - (M.1 55 x5.toNatClampNeg))))), some (.int (x5 + 1)), some (.int s0)] [] M Q) (h6 : (¬ ((x5 &&& x3) = 0)) → px_T 0 135 77 [some (.ref 0), d1, some (.int x2), some (.int x3), some (.int x4), some (.int (x5 + 1)), some (.int s0)] [] M Q) : px_T 0 135 92 [some (.ref 0), d1, some (.int x2), some (.int x3), some (.int x4), some (.int x5), d6] [.int s0] M Q := by
  by_cases c1 : (x5 &&& x3) = 0
  · by_cases c2 : (6 : Int32) ≤ s0
    · obtain ⟨n, h⟩ := h1 c1 c2
      exact ⟨n + 11, ⟨fun q => absurd c1 q, fun _ => ⟨rfl, (Or.inl ⟨10, 6, rfl, (by decide), ⟨fun _ => h, fun q => absurd c2 q⟩⟩)⟩⟩⟩
    · obtain ⟨n, h⟩ := h5 c1 c2
      exact ⟨n + 29, ⟨fun q => absurd c1 q, fun _ => ⟨rfl, (Or.inl ⟨10, 6, rfl, (by decide), ⟨fun q => absurd q c2, fun _ => ⟨rfl, ⟨Or.inl ⟨10, 6, Or.inr rfl, rfl, (h2 c1 c2)⟩, ⟨rfl, ⟨Or.inl ⟨0, 64, Or.inl rfl, rfl, (h3 c1 c2)⟩, ⟨rfl, ⟨Or.inl ⟨0, 64, Or.inl rfl, rfl, (h4 c1 c2)⟩, h⟩⟩⟩⟩⟩⟩⟩⟩)⟩⟩⟩
  · obtain ⟨n, h⟩ := h6 c1
    exact ⟨n + 7, ⟨fun _ => h, fun q => absurd q c1⟩⟩
theorem sg_136_0 {x1 : Int32} {x2 : Int32} {M : px_Mem} {Q : px_Po} (h1 : px_T 0 158 0 [some (.int x1), some (.int x2)] [] M (fun r M1 => px_T 0 136 5 [some (.ref 0), some (.int x1), some (.int x2), none, none, none, none, none, none] (r.toList ++ []) M1 Q)) : px_T 0 136 0 [some (.ref 0), some (.int x1), some (.int x2), none, none, none, none, none, none] [] M Q := by
  obtain ⟨n, h⟩ := px_T_cl (k := 136) (pc := 2) (y := 158) (st := [.int x2, .int x1]) rfl (h1)
  exact ⟨n + 3, h⟩
theorem sg_136_5 {x1 : Int32} {x2 : Int32} {d3 : Option Value} {d4 : Option Value} {d5 : Option Value} {d6 : Option Value} {d7 : Option Value} {d8 : Option Value} {s0 : Int32} {M : px_Mem} {Q : px_Po} (h1 : (s0 = 0) → px_T 0 151 0 [some (.ref 0)] [] M (fun r M1 => px_T 0 136 12 [some (.ref 0), some (.int x1), some (.int x2), d3, d4, d5, d6, d7, d8] (r.toList ++ []) M1 Q)) (h2 : (¬ (s0 = 0)) → Q (some (.int (-2))) M) : px_T 0 136 5 [some (.ref 0), some (.int x1), some (.int x2), d3, d4, d5, d6, d7, d8] [.int s0] M Q := by
  by_cases c1 : s0 = 0
  · obtain ⟨n, h⟩ := px_T_cl (k := 136) (pc := 9) (y := 151) (st := [.ref 0]) rfl (h1 c1)
    exact ⟨n + 3, ⟨fun q => absurd c1 q, fun _ => ⟨rfl, h⟩⟩⟩
  · exact ⟨3, ⟨fun _ => ⟨trivial, h2 c1⟩, fun q => absurd q c1⟩⟩
theorem sg_136_12 {x1 : Int32} {x2 : Int32} {d3 : Option Value} {d4 : Option Value} {d5 : Option Value} {d6 : Option Value} {d7 : Option Value} {d8 : Option Value} {s0 : Int32} {M : px_Mem} {Q : px_Po} (h1 : (s0 = 0) → px_T 0 136 23 [some (.ref 0), some (.int x1), some (.int x2), some (.int 0), some (.int 0), d5, d6, d7, d8] [] M Q) (h2 : (¬ (s0 = 0)) → Q (some (.int (-2))) M) : px_T 0 136 12 [some (.ref 0), some (.int x1), some (.int x2), d3, d4, d5, d6, d7, d8] [.int s0] M Q := by
  by_cases c1 : s0 = 0
  · obtain ⟨n, h⟩ := h1 c1
    exact ⟨n + 5, ⟨fun _ => h, fun q => absurd c1 q⟩⟩
  · exact ⟨3, ⟨fun q => absurd q c1, fun _ => ⟨trivial, h2 c1⟩⟩⟩
theorem sg_136_23 {x1 : Int32} {x2 : Int32} {x3 : Int32} {x4 : Int32} {d5 : Option Value} {d6 : Option Value} {d7 : Option Value} {d8 : Option Value} {M : px_Mem} {Q : px_Po} (h1 : ((4 : Int32) ≤ x4) → Q (some (.int x3)) M) (h2 : (¬ ((4 : Int32) ≤ x4)) → px_T 0 170 0 [some (.ref 0), some (.int x1), some (.int x2), some (.int (x4 &&& 1)), some (.int (x4 >>> (1 &&& 31))), some (.int 0), none, none] [] M (fun r M1 => px_T 0 136 52 [some (.ref 0), some (.int x1), some (.int x2), some (.int x3), some (.int x4), some (.int (x4 &&& 1)), some (.int (x4 >>> (1 &&& 31))), d7, d8] (r.toList ++ []) M1 Q)) : px_T 0 136 23 [some (.ref 0), some (.int x1), some (.int x2), some (.int x3), some (.int x4), d5, d6, d7, d8] [] M Q := by
  by_cases c1 : (4 : Int32) ≤ x4
  · exact ⟨5, ⟨fun _ => ⟨trivial, h1 c1⟩, fun q => absurd c1 q⟩⟩
  · obtain ⟨n, h⟩ := px_T_cl (k := 136) (pc := 49) (y := 170) (st := [.int 0, .int (x4 >>> (1 &&& 31)), .int (x4 &&& 1), .int x2, .int x1, .ref 0]) rfl (h2 c1)
    exact ⟨n + 18, ⟨fun q => absurd q c1, fun _ => ⟨rfl, h⟩⟩⟩
theorem sg_136_52 {x1 : Int32} {x2 : Int32} {x3 : Int32} {x4 : Int32} {x5 : Int32} {x6 : Int32} {d7 : Option Value} {d8 : Option Value} {s0 : Int32} {M : px_Mem} {Q : px_Po} (h1 : px_T 0 170 0 [some (.ref 0), some (.int x1), some (.int x2), some (.int (1 - x5)), some (.int x6), some (.int 0), none, none] [] M (fun r M1 => px_T 0 136 65 [some (.ref 0), some (.int x1), some (.int x2), some (.int x3), some (.int x4), some (.int x5), some (.int x6), d7, d8] (r.toList ++ [.int s0]) M1 Q)) : px_T 0 136 52 [some (.ref 0), some (.int x1), some (.int x2), some (.int x3), some (.int x4), some (.int x5), some (.int x6), d7, d8] [.int s0] M Q := by
  obtain ⟨n, h⟩ := px_T_cl (k := 136) (pc := 62) (y := 170) (st := [.int 0, .int x6, .int (1 - x5), .int x2, .int x1, .ref 0, .int s0]) rfl (h1)
  exact ⟨n + 9, ⟨rfl, h⟩⟩
theorem sg_136_65 {x1 : Int32} {x2 : Int32} {x3 : Int32} {x4 : Int32} {x5 : Int32} {x6 : Int32} {d7 : Option Value} {d8 : Option Value} {s0 : Int32} {s1 : Int32} {M : px_Mem} {Q : px_Po} (h1 : (s1 < s0) → px_T 0 170 0 [some (.ref 0), some (.int x1), some (.int x2), some (.int x5), some (.int x6), some (.int 1), none, none] [] M (fun r M1 => px_T 0 136 86 [some (.ref 0), some (.int x1), some (.int x2), some (.int x3), some (.int x4), some (.int x5), some (.int x6), some (.int 0), d8] (r.toList ++ []) M1 Q)) (h2 : (¬ (s1 < s0)) → px_T 0 170 0 [some (.ref 0), some (.int x1), some (.int x2), some (.int x5), some (.int x6), some (.int 1), none, none] [] M (fun r M1 => px_T 0 136 86 [some (.ref 0), some (.int x1), some (.int x2), some (.int x3), some (.int x4), some (.int x5), some (.int x6), some (.int 1), d8] (r.toList ++ []) M1 Q)) : px_T 0 136 65 [some (.ref 0), some (.int x1), some (.int x2), some (.int x3), some (.int x4), some (.int x5), some (.int x6), d7, d8] [.int s0, .int s1] M Q := by
  by_cases c1 : s1 < s0
  · obtain ⟨n, h⟩ := px_T_cl (k := 136) (pc := 83) (y := 170) (st := [.int 1, .int x6, .int x5, .int x2, .int x1, .ref 0]) rfl (h1 c1)
    exact ⟨n + 10, ⟨fun _ => ⟨rfl, h⟩, fun q => absurd c1 q⟩⟩
  · obtain ⟨n, h⟩ := px_T_cl (k := 136) (pc := 83) (y := 170) (st := [.int 1, .int x6, .int x5, .int x2, .int x1, .ref 0]) rfl (h2 c1)
    exact ⟨n + 11, ⟨fun q => absurd q c1, fun _ => ⟨rfl, h⟩⟩⟩
theorem sg_136_86 {x1 : Int32} {x2 : Int32} {x3 : Int32} {x4 : Int32} {x5 : Int32} {x6 : Int32} {x7 : Int32} {d8 : Option Value} {s0 : Int32} {M : px_Mem} {Q : px_Po} (h1 : px_T 0 170 0 [some (.ref 0), some (.int x1), some (.int x2), some (.int x5), some (.int (1 - x6)), some (.int 1), none, none] [] M (fun r M1 => px_T 0 136 99 [some (.ref 0), some (.int x1), some (.int x2), some (.int x3), some (.int x4), some (.int x5), some (.int x6), some (.int x7), d8] (r.toList ++ [.int s0]) M1 Q)) : px_T 0 136 86 [some (.ref 0), some (.int x1), some (.int x2), some (.int x3), some (.int x4), some (.int x5), some (.int x6), some (.int x7), d8] [.int s0] M Q := by
  obtain ⟨n, h⟩ := px_T_cl (k := 136) (pc := 96) (y := 170) (st := [.int 1, .int (1 - x6), .int x5, .int x2, .int x1, .ref 0, .int s0]) rfl (h1)
  exact ⟨n + 9, ⟨rfl, h⟩⟩
theorem sg_136_99 {x1 : Int32} {x2 : Int32} {x3 : Int32} {x4 : Int32} {d5 : Option Value} {d6 : Option Value} {x7 : Int32} {d8 : Option Value} {s0 : Int32} {s1 : Int32} {M : px_Mem} {Q : px_Po} (h1 : (s1 < s0) → (x7 = 0) → px_T 0 136 23 [some (.ref 0), some (.int x1), some (.int x2), some (.int x3), some (.int (x4 + 1)), d5, d6, some (.int x7), some (.int 0)] [] M Q) (h2 : (s1 < s0) → (¬ (x7 = 0)) → px_T 0 136 23 [some (.ref 0), some (.int x1), some (.int x2), some (.int x3), some (.int (x4 + 1)), d5, d6, some (.int x7), some (.int 0)] [] M Q) (h3 : (¬ (s1 < s0)) → (x7 = 0) → px_T 0 136 23 [some (.ref 0), some (.int x1), some (.int x2), some (.int x3), some (.int (x4 + 1)), d5, d6, some (.int x7), some (.int 1)] [] M Q) (h4 : (¬ (s1 < s0)) → (¬ (x7 = 0)) → px_T 0 136 23 [some (.ref 0), some (.int x1), some (.int x2), some (.int (x3 ||| (1 <<< (x4 &&& 31)))), some (.int (x4 + 1)), d5, d6, some (.int x7), some (.int 1)] [] M Q) : px_T 0 136 99 [some (.ref 0), some (.int x1), some (.int x2), some (.int x3), some (.int x4), d5, d6, some (.int x7), d8] [.int s0, .int s1] M Q := by
  by_cases c1 : s1 < s0
  · by_cases c2 : x7 = 0
    · obtain ⟨n, h⟩ := h1 c1 c2
      exact ⟨n + 7, ⟨fun _ => ⟨fun _ => h, fun q => absurd c2 q⟩, fun q => absurd c1 q⟩⟩
    · obtain ⟨n, h⟩ := h2 c1 c2
      exact ⟨n + 9, ⟨fun _ => ⟨fun q => absurd q c2, fun _ => ⟨fun _ => h, fun q => absurd (by decide) q⟩⟩, fun q => absurd c1 q⟩⟩
  · by_cases c3 : x7 = 0
    · obtain ⟨n, h⟩ := h3 c1 c3
      exact ⟨n + 8, ⟨fun q => absurd q c1, fun _ => ⟨fun _ => h, fun q => absurd c3 q⟩⟩⟩
    · obtain ⟨n, h⟩ := h4 c1 c3
      exact ⟨n + 16, ⟨fun q => absurd q c1, fun _ => ⟨fun q => absurd q c3, fun _ => ⟨fun q => absurd q (by decide), fun _ => h⟩⟩⟩⟩
theorem sg_137_0 {x1 : Int32} {x2 : Int32} {x3 : Int32} {x4 : Int32} {M : px_Mem} {Q : px_Po} (h1 : px_T 0 158 0 [some (.int x1), some (.int x2)] [] M (fun r M1 => px_T 0 137 5 [some (.ref 0), some (.int x1), some (.int x2), some (.int x3), some (.int x4)] (r.toList ++ []) M1 Q)) : px_T 0 137 0 [some (.ref 0), some (.int x1), some (.int x2), some (.int x3), some (.int x4)] [] M Q := by
  obtain ⟨n, h⟩ := px_T_cl (k := 137) (pc := 2) (y := 158) (st := [.int x2, .int x1]) rfl (h1)
  exact ⟨n + 3, h⟩
theorem sg_137_5 {x1 : Int32} {x2 : Int32} {x3 : Int32} {x4 : Int32} {s0 : Int32} {M : px_Mem} {Q : px_Po} (h1 : (s0 = 0) → (x3 < 0) → Q (some (.int (-2))) M) (h2 : (s0 = 0) → (¬ (x3 < 0)) → ((1 : Int32) < x3) → Q (some (.int (-2))) M) (h3 : (s0 = 0) → (¬ (x3 < 0)) → (¬ ((1 : Int32) < x3)) → (x4 < 0) → Q (some (.int (-2))) M) (h4 : (s0 = 0) → (¬ (x3 < 0)) → (¬ ((1 : Int32) < x3)) → (¬ (x4 < 0)) → ((1 : Int32) < x4) → Q (some (.int (-2))) M) (h5 : (s0 = 0) → (¬ (x3 < 0)) → (¬ ((1 : Int32) < x3)) → (¬ (x4 < 0)) → (¬ ((1 : Int32) < x4)) → px_T 0 151 0 [some (.ref 0)] [] M (fun r M1 => px_T 0 137 32 [some (.ref 0), some (.int x1), some (.int x2), some (.int x3), some (.int x4)] (r.toList ++ []) M1 Q)) (h6 : (¬ (s0 = 0)) → Q (some (.int (-2))) M) : px_T 0 137 5 [some (.ref 0), some (.int x1), some (.int x2), some (.int x3), some (.int x4)] [.int s0] M Q := by
  by_cases c1 : s0 = 0
  · by_cases c2 : x3 < 0
    · exact ⟨5, ⟨fun q => absurd c1 q, fun _ => ⟨fun _ => ⟨trivial, h1 c1 c2⟩, fun q => absurd c2 q⟩⟩⟩
    · by_cases c3 : (1 : Int32) < x3
      · exact ⟨8, ⟨fun q => absurd c1 q, fun _ => ⟨fun q => absurd q c2, fun _ => ⟨fun _ => ⟨trivial, h2 c1 c2 c3⟩, fun q => absurd c3 q⟩⟩⟩⟩
      · by_cases c4 : x4 < 0
        · exact ⟨10, ⟨fun q => absurd c1 q, fun _ => ⟨fun q => absurd q c2, fun _ => ⟨fun q => absurd q c3, fun _ => ⟨fun _ => ⟨trivial, h3 c1 c2 c3 c4⟩, fun q => absurd c4 q⟩⟩⟩⟩⟩
        · by_cases c5 : (1 : Int32) < x4
          · exact ⟨13, ⟨fun q => absurd c1 q, fun _ => ⟨fun q => absurd q c2, fun _ => ⟨fun q => absurd q c3, fun _ => ⟨fun q => absurd q c4, fun _ => ⟨fun _ => ⟨trivial, h4 c1 c2 c3 c4 c5⟩, fun q => absurd c5 q⟩⟩⟩⟩⟩⟩
          · obtain ⟨n, h⟩ := px_T_cl (k := 137) (pc := 29) (y := 151) (st := [.ref 0]) rfl (h5 c1 c2 c3 c4 c5)
            exact ⟨n + 13, ⟨fun q => absurd c1 q, fun _ => ⟨fun q => absurd q c2, fun _ => ⟨fun q => absurd q c3, fun _ => ⟨fun q => absurd q c4, fun _ => ⟨fun q => absurd q c5, fun _ => ⟨rfl, h⟩⟩⟩⟩⟩⟩⟩
  · exact ⟨3, ⟨fun _ => ⟨trivial, h6 c1⟩, fun q => absurd q c1⟩⟩
theorem sg_137_32 {x1 : Int32} {x2 : Int32} {x3 : Int32} {x4 : Int32} {s0 : Int32} {M : px_Mem} {Q : px_Po} (h1 : (s0 = 0) → px_T 0 170 0 [some (.ref 0), some (.int x1), some (.int x2), some (.int x3), some (.int x4), some (.int 0), none, none] [] M (fun r M1 => px_T 0 137 48 [some (.ref 0), some (.int x1), some (.int x2), some (.int x3), some (.int x4)] (r.toList ++ []) M1 Q)) (h2 : (¬ (s0 = 0)) → Q (some (.int (-2))) M) : px_T 0 137 32 [some (.ref 0), some (.int x1), some (.int x2), some (.int x3), some (.int x4)] [.int s0] M Q := by
  by_cases c1 : s0 = 0
  · obtain ⟨n, h⟩ := px_T_cl (k := 137) (pc := 45) (y := 170) (st := [.int 0, .int x4, .int x3, .int x2, .int x1, .ref 0]) rfl (h1 c1)
    exact ⟨n + 8, ⟨fun _ => ⟨rfl, h⟩, fun q => absurd c1 q⟩⟩
  · exact ⟨3, ⟨fun q => absurd q c1, fun _ => ⟨trivial, h2 c1⟩⟩⟩
theorem sg_137_48 {d0 : Option Value} {d1 : Option Value} {d2 : Option Value} {d3 : Option Value} {d4 : Option Value} {s0 : Int32} {M : px_Mem} {Q : px_Po} (h1 : Q (some (.int s0)) M) : px_T 0 137 48 [d0, d1, d2, d3, d4] [.int s0] M Q := by
  exact ⟨1, ⟨trivial, h1⟩⟩
theorem sg_138_0 {x1 : Int32} {x2 : Int32} {x3 : Int32} {M : px_Mem} {Q : px_Po} (h1 : px_T 0 153 0 [some (.int x1)] [] M (fun r M1 => px_T 0 138 4 [some (.ref 0), some (.int x1), some (.int x2), some (.int x3)] (r.toList ++ []) M1 Q)) : px_T 0 138 0 [some (.ref 0), some (.int x1), some (.int x2), some (.int x3)] [] M Q := by
  obtain ⟨n, h⟩ := px_T_cl (k := 138) (pc := 1) (y := 153) (st := [.int x1]) rfl (h1)
  exact ⟨n + 2, h⟩
theorem sg_138_4 {x1 : Int32} {x2 : Int32} {x3 : Int32} {s0 : Int32} {M : px_Mem} {Q : px_Po} (h1 : (s0 = 0) → px_T 0 160 0 [some (.ref 0), some (.int x2), some (.int x3)] [] M (fun r M1 => px_T 0 138 13 [some (.ref 0), some (.int x1), some (.int x2), some (.int x3)] (r.toList ++ []) M1 Q)) (h2 : (¬ (s0 = 0)) → Q (some (.long (-2))) M) : px_T 0 138 4 [some (.ref 0), some (.int x1), some (.int x2), some (.int x3)] [.int s0] M Q := by
  by_cases c1 : s0 = 0
  · obtain ⟨n, h⟩ := px_T_cl (k := 138) (pc := 10) (y := 160) (st := [.int x3, .int x2, .ref 0]) rfl (h1 c1)
    exact ⟨n + 5, ⟨fun q => absurd c1 q, fun _ => ⟨rfl, h⟩⟩⟩
  · exact ⟨3, ⟨fun _ => ⟨rfl, h2 c1⟩, fun q => absurd q c1⟩⟩
theorem sg_138_13 {x1 : Int32} {x2 : Int32} {x3 : Int32} {s0 : Int32} {M : px_Mem} {Q : px_Po} (h1 : (s0 = 0) → px_T 0 161 0 [some (.int x1)] [] M (fun r M1 => px_T 0 138 26 [some (.ref 0), some (.int x1), some (.int x2), some (.int x3)] (r.toList ++ [.int x2, .ref 0]) M1 Q)) (h2 : (¬ (s0 = 0)) → Q (some (.long (-2))) M) : px_T 0 138 13 [some (.ref 0), some (.int x1), some (.int x2), some (.int x3)] [.int s0] M Q := by
  by_cases c1 : s0 = 0
  · obtain ⟨n, h⟩ := px_T_cl (k := 138) (pc := 23) (y := 161) (st := [.int x1, .int x2, .ref 0]) rfl (h1 c1)
    exact ⟨n + 5, ⟨fun _ => h, fun q => absurd c1 q⟩⟩
  · exact ⟨3, ⟨fun q => absurd q c1, fun _ => ⟨rfl, h2 c1⟩⟩⟩
theorem sg_138_26 {d0 : Option Value} {d1 : Option Value} {x2 : Int32} {x3 : Int32} {s0 : Int32} {s1 : Int32} {M : px_Mem} {Q : px_Po} (h1 : px_T 0 171 0 [some (.ref 0), some (.int s1), some (.int s0), none, none, none, none, none, none, none] [] M (fun r M1 => px_T 0 138 29 [d0, d1, some (.int x2), some (.int x3)] (r.toList ++ []) M1 Q)) : px_T 0 138 26 [d0, d1, some (.int x2), some (.int x3)] [.int s0, .int s1, .ref 0] M Q := by
  obtain ⟨n, h⟩ := px_T_cl (k := 138) (pc := 26) (y := 171) (st := [.int s0, .int s1, .ref 0]) rfl (h1)
  exact ⟨n + 1, ⟨rfl, h⟩⟩
theorem sg_138_29 {d0 : Option Value} {d1 : Option Value} {x2 : Int32} {x3 : Int32} {s0 : Int64} {M : px_Mem} {Q : px_Po} (h1 : px_T 0 172 0 [some (.int x2), none, none, none] [] M (fun r M1 => px_T 0 138 33 [d0, d1, some (.int x2), some (.int x3)] (r.toList ++ [.long s0]) M1 Q)) : px_T 0 138 29 [d0, d1, some (.int x2), some (.int x3)] [.long s0] M Q := by
  obtain ⟨n, h⟩ := px_T_cl (k := 138) (pc := 30) (y := 172) (st := [.int x2, .long s0]) rfl (h1)
  exact ⟨n + 2, h⟩
theorem sg_138_33 {d0 : Option Value} {d1 : Option Value} {d2 : Option Value} {x3 : Int32} {s0 : Int64} {s1 : Int64} {M : px_Mem} {Q : px_Po} (h1 : px_T 0 173 0 [some (.long s1), none, some (.long s0), none, some (.int x3), none, none, none, none, none, none, none] [] M (fun r M1 => px_T 0 138 37 [d0, d1, d2, some (.int x3)] (r.toList ++ []) M1 Q)) : px_T 0 138 33 [d0, d1, d2, some (.int x3)] [.long s0, .long s1] M Q := by
  obtain ⟨n, h⟩ := px_T_cl (k := 138) (pc := 34) (y := 173) (st := [.int x3, .long s0, .long s1]) rfl (h1)
  exact ⟨n + 2, h⟩
theorem sg_138_37 {d0 : Option Value} {d1 : Option Value} {d2 : Option Value} {d3 : Option Value} {s0 : Int64} {M : px_Mem} {Q : px_Po} (h1 : Q (some (.long s0)) M) : px_T 0 138 37 [d0, d1, d2, d3] [.long s0] M Q := by
  exact ⟨1, ⟨rfl, h1⟩⟩
