theorem sg_86_0 {x1 : Int32} {x2 : Int32} {x3 : Int32} {x4 : Int32} {x5 : Int32} {M : px_Mem} {Q : px_Po} (h1 : (((M.1 1 1) + 20) ≤ 900) → px_T 0 58 0 [some (.ref 1), some (.int x1), none] [] M (fun r M1 => px_T 0 86 26 [some (.ref 0), some (.int x1), some (.int x2), some (.int x3), some (.int x4), some (.int x5)] (r.toList ++ []) M1 Q)) (h2 : (¬ (((M.1 1 1) + 20) ≤ 900)) → Q (some (.int (-1))) M) : px_T 0 86 0 [some (.ref 0), some (.int x1), some (.int x2), some (.int x3), some (.int x4), some (.int x5)] [] M Q := by
  by_cases c1 : ((M.1 1 1) + 20) ≤ 900
  · obtain ⟨n, h⟩ := px_T_cl (k := 86) (pc := 23) (y := 58) (st := [.int x1, .ref 1]) rfl (h1 c1)
    exact ⟨n + 11, ⟨rfl, ⟨rfl, ⟨fun _ => ⟨rfl, ⟨rfl, h⟩⟩, fun q => absurd c1 q⟩⟩⟩⟩
  · exact ⟨9, ⟨rfl, ⟨rfl, ⟨fun q => absurd q c1, fun _ => ⟨trivial, h2 c1⟩⟩⟩⟩⟩
theorem sg_86_26 {d1 : Option Value} {x2 : Int32} {x3 : Int32} {x4 : Int32} {x5 : Int32} {M : px_Mem} {Q : px_Po} (h1 : px_T 0 58 0 [some (.ref 1), some (.int x2), none] [] M (fun r M1 => px_T 0 86 34 [some (.ref 0), d1, some (.int x2), some (.int x3), some (.int x4), some (.int x5)] (r.toList ++ []) M1 Q)) : px_T 0 86 26 [some (.ref 0), d1, some (.int x2), some (.int x3), some (.int x4), some (.int x5)] [] M Q := by
  obtain ⟨n, h⟩ := px_T_cl (k := 86) (pc := 31) (y := 58) (st := [.int x2, .ref 1]) rfl (h1)
  exact ⟨n + 4, ⟨rfl, ⟨rfl, h⟩⟩⟩
theorem sg_86_34 {d1 : Option Value} {d2 : Option Value} {x3 : Int32} {x4 : Int32} {x5 : Int32} {M : px_Mem} {Q : px_Po} (h1 : px_T 0 58 0 [some (.ref 1), some (.int x3), none] [] M (fun r M1 => px_T 0 86 42 [some (.ref 0), d1, d2, some (.int x3), some (.int x4), some (.int x5)] (r.toList ++ []) M1 Q)) : px_T 0 86 34 [some (.ref 0), d1, d2, some (.int x3), some (.int x4), some (.int x5)] [] M Q := by
  obtain ⟨n, h⟩ := px_T_cl (k := 86) (pc := 39) (y := 58) (st := [.int x3, .ref 1]) rfl (h1)
  exact ⟨n + 4, ⟨rfl, ⟨rfl, h⟩⟩⟩
theorem sg_86_42 {d1 : Option Value} {d2 : Option Value} {d3 : Option Value} {x4 : Int32} {x5 : Int32} {M : px_Mem} {Q : px_Po} (h1 : px_T 0 58 0 [some (.ref 1), some (.int x4), none] [] M (fun r M1 => px_T 0 86 51 [some (.ref 0), d1, d2, d3, some (.int x4), some (.int x5)] (r.toList ++ []) M1 Q)) : px_T 0 86 42 [some (.ref 0), d1, d2, d3, some (.int x4), some (.int x5)] [] M Q := by
  obtain ⟨n, h⟩ := px_T_cl (k := 86) (pc := 48) (y := 58) (st := [.int x4, .ref 1]) rfl (h1)
  exact ⟨n + 4, ⟨rfl, ⟨rfl, h⟩⟩⟩
theorem sg_86_51 {d1 : Option Value} {d2 : Option Value} {d3 : Option Value} {d4 : Option Value} {x5 : Int32} {M : px_Mem} {Q : px_Po} (h1 : px_T 0 58 0 [some (.ref 1), some (.int x5), none] [] M (fun r M1 => px_T 0 86 60 [some (.ref 0), d1, d2, d3, d4, some (.int x5)] (r.toList ++ []) M1 Q)) : px_T 0 86 51 [some (.ref 0), d1, d2, d3, d4, some (.int x5)] [] M Q := by
  obtain ⟨n, h⟩ := px_T_cl (k := 86) (pc := 57) (y := 58) (st := [.int x5, .ref 1]) rfl (h1)
  exact ⟨n + 4, ⟨rfl, ⟨rfl, h⟩⟩⟩
theorem sg_86_60 {d1 : Option Value} {d2 : Option Value} {d3 : Option Value} {d4 : Option Value} {d5 : Option Value} {M : px_Mem} {Q : px_Po} (h1 : Q (some (.int (M.1 1 1))) M) : px_T 0 86 60 [some (.ref 0), d1, d2, d3, d4, d5] [] M Q := by
  exact ⟨4, ⟨rfl, ⟨rfl, ⟨trivial, h1⟩⟩⟩⟩
theorem sg_87_0 {x1 : Int32} {M : px_Mem} {Q : px_Po} (h1 : (x1 < 0) → Q (some (.int (-1))) M) (h2 : (¬ (x1 < 0)) → (x1 ≤ (M.1 1 1)) → Q (some (.int x1)) (px_wI M 1 1 x1)) (h3 : (¬ (x1 < 0)) → (¬ (x1 ≤ (M.1 1 1))) → Q (some (.int (-1))) M) : px_T 0 87 0 [some (.ref 0), some (.int x1)] [] M Q := by
  by_cases c1 : x1 < 0
  · exact ⟨4, ⟨fun _ => ⟨trivial, h1 c1⟩, fun q => absurd c1 q⟩⟩
  · by_cases c2 : x1 ≤ (M.1 1 1)
    · exact ⟨13, ⟨fun q => absurd q c1, fun _ => ⟨rfl, ⟨rfl, ⟨fun _ => ⟨rfl, ⟨rfl, ⟨trivial, h2 c1 c2⟩⟩⟩, fun q => absurd c2 q⟩⟩⟩⟩⟩
    · exact ⟨9, ⟨fun q => absurd q c1, fun _ => ⟨rfl, ⟨rfl, ⟨fun q => absurd q c2, fun _ => ⟨trivial, h3 c1 c2⟩⟩⟩⟩⟩⟩
theorem sg_88_0 {M : px_Mem} {Q : px_Po} (h1 : px_T 0 21 0 [some (.ref 3), some (.ref 6), none] [] M (fun r M1 => px_T 0 88 11 [some (.ref 0)] (r.toList ++ []) M1 Q)) : px_T 0 88 0 [some (.ref 0)] [] M Q := by
  obtain ⟨n, h⟩ := px_T_cl (k := 88) (pc := 8) (y := 21) (st := [.ref 6, .ref 3]) rfl (h1)
  exact ⟨n + 5, ⟨rfl, ⟨rfl, ⟨rfl, h⟩⟩⟩⟩
theorem sg_88_11 {M : px_Mem} {Q : px_Po} (h1 : ((M.1 3 1) = 0) → px_T 0 57 0 [some (.ref 4), some (.ref 6)] [] (px_wI M 1 1 0) (fun r M1 => px_T 0 88 43 [some (.ref 0)] (r.toList ++ []) M1 Q)) (h2 : (¬ ((M.1 3 1) = 0)) → Q (some (.int (-4))) (px_wI M 1 1 0)) : px_T 0 88 11 [some (.ref 0)] [] M Q := by
  by_cases c1 : (M.1 3 1) = 0
  · obtain ⟨n, h⟩ := px_T_cl (k := 88) (pc := 40) (y := 57) (st := [.ref 6, .ref 4]) rfl (h1 c1)
    exact ⟨n + 13, ⟨rfl, ⟨rfl, ⟨rfl, ⟨rfl, ⟨fun _ => ⟨rfl, ⟨rfl, ⟨rfl, h⟩⟩⟩, fun q => absurd c1 q⟩⟩⟩⟩⟩⟩
  · exact ⟨10, ⟨rfl, ⟨rfl, ⟨rfl, ⟨rfl, ⟨fun q => absurd q c1, fun _ => ⟨trivial, h2 c1⟩⟩⟩⟩⟩⟩⟩
theorem sg_88_43 {M : px_Mem} {Q : px_Po} (h1 : px_T 0 163 0 [some (.ref 0)] [] M (fun r M1 => px_T 0 88 47 [some (.ref 0)] (r.toList ++ []) M1 Q)) : px_T 0 88 43 [some (.ref 0)] [] M Q := by
  obtain ⟨n, h⟩ := px_T_cl (k := 88) (pc := 44) (y := 163) (st := [.ref 0]) rfl (h1)
  exact ⟨n + 2, ⟨rfl, h⟩⟩
theorem sg_88_47 {M : px_Mem} {Q : px_Po} (h1 : Q (some (.int (M.1 4 1))) M) : px_T 0 88 47 [some (.ref 0)] [] M Q := by
  exact ⟨4, ⟨rfl, ⟨rfl, ⟨trivial, h1⟩⟩⟩⟩
theorem sg_89_0 {x1 : Int32} {M : px_Mem} {Q : px_Po} (h1 : (x1 = 0) → Q (some (.int (M.1 3 1))) M) (h2 : (¬ (x1 = 0)) → (x1 = 1) → Q (some (.int (M.1 3 2))) M) (h3 : (¬ (x1 = 0)) → (¬ (x1 = 1)) → Q (some (.int (-1))) M) : px_T 0 89 0 [some (.ref 0), some (.int x1)] [] M Q := by
  by_cases c1 : x1 = 0
  · exact ⟨6, ⟨fun q => absurd c1 q, fun _ => ⟨rfl, ⟨rfl, ⟨trivial, h1 c1⟩⟩⟩⟩⟩
  · by_cases c2 : x1 = 1
    · exact ⟨10, ⟨fun _ => ⟨fun q => absurd c2 q, fun _ => ⟨rfl, ⟨rfl, ⟨trivial, h2 c1 c2⟩⟩⟩⟩, fun q => absurd q c1⟩⟩
    · exact ⟨7, ⟨fun _ => ⟨fun _ => ⟨trivial, h3 c1 c2⟩, fun q => absurd q c2⟩, fun q => absurd q c1⟩⟩
theorem sg_90_0 {x1 : Int32} {x2 : Int32} {M : px_Mem} {Q : px_Po} (h1 : (x1 < 0) → Q (some (.int (-2))) M) (h2 : (¬ (x1 < 0)) → px_T 0 53 0 [some (.ref 4)] [] M (fun r M1 => px_T 0 90 12 [some (.ref 0), some (.int x1), some (.int x2), none, none] (r.toList ++ [.int x1]) M1 Q)) : px_T 0 90 0 [some (.ref 0), some (.int x1), some (.int x2), none, none] [] M Q := by
  by_cases c1 : x1 < 0
  · exact ⟨4, ⟨fun _ => ⟨trivial, h1 c1⟩, fun q => absurd c1 q⟩⟩
  · obtain ⟨n, h⟩ := px_T_cl (k := 90) (pc := 9) (y := 53) (st := [.ref 4, .int x1]) rfl (h2 c1)
    exact ⟨n + 6, ⟨fun q => absurd q c1, fun _ => ⟨rfl, ⟨rfl, h⟩⟩⟩⟩
theorem sg_90_12 {x1 : Int32} {x2 : Int32} {d3 : Option Value} {d4 : Option Value} {s0 : Int32} {s1 : Int32} {M : px_Mem} {Q : px_Po} (h1 : (s0 ≤ s1) → Q (some (.int (-2))) M) (h2 : (¬ (s0 ≤ s1)) → (x2 < 0) → Q (some (.int (-2))) M) (h3 : (¬ (s0 ≤ s1)) → (¬ (x2 < 0)) → (x2 ≤ 3) → px_T 0 54 0 [some (.ref 4), some (.int x1)] [] M (fun r M1 => px_T 0 90 35 [some (.ref 0), some (.int x1), some (.int x2), d3, d4] (r.toList ++ []) M1 Q)) (h4 : (¬ (s0 ≤ s1)) → (¬ (x2 < 0)) → (¬ (x2 ≤ 3)) → Q (some (.int (-2))) M) : px_T 0 90 12 [some (.ref 0), some (.int x1), some (.int x2), d3, d4] [.int s0, .int s1] M Q := by
  by_cases c1 : s0 ≤ s1
  · exact ⟨3, ⟨fun _ => ⟨trivial, h1 c1⟩, fun q => absurd c1 q⟩⟩
  · by_cases c2 : x2 < 0
    · exact ⟨5, ⟨fun q => absurd q c1, fun _ => ⟨fun _ => ⟨trivial, h2 c1 c2⟩, fun q => absurd c2 q⟩⟩⟩
    · by_cases c3 : x2 ≤ 3
      · obtain ⟨n, h⟩ := px_T_cl (k := 90) (pc := 32) (y := 54) (st := [.int x1, .ref 4]) rfl (h3 c1 c2 c3)
        exact ⟨n + 10, ⟨fun q => absurd q c1, fun _ => ⟨fun q => absurd q c2, fun _ => ⟨fun _ => ⟨rfl, ⟨rfl, h⟩⟩, fun q => absurd c3 q⟩⟩⟩⟩
      · exact ⟨8, ⟨fun q => absurd q c1, fun _ => ⟨fun q => absurd q c2, fun _ => ⟨fun q => absurd q c3, fun _ => ⟨trivial, h4 c1 c2 c3⟩⟩⟩⟩⟩
theorem sg_90_35 {d0 : Option Value} {d1 : Option Value} {x2 : Int32} {d3 : Option Value} {d4 : Option Value} {s0 : Int32} {M : px_Mem} {Q : px_Po} (h1 : px_T 0 2 0 [some (.int s0)] [] M (fun r M1 => px_T 0 90 40 [d0, d1, some (.int x2), some (.int s0), d4] (r.toList ++ []) M1 Q)) : px_T 0 90 35 [d0, d1, some (.int x2), d3, d4] [.int s0] M Q := by
  obtain ⟨n, h⟩ := px_T_cl (k := 90) (pc := 37) (y := 2) (st := [.int s0]) rfl (h1)
  exact ⟨n + 3, h⟩
theorem sg_90_40 {d0 : Option Value} {d1 : Option Value} {x2 : Int32} {x3 : Int32} {d4 : Option Value} {s0 : Int32} {M : px_Mem} {Q : px_Po} (h1 : (x2 = 0) → Q (some (.int s0)) M) (h2 : (¬ (x2 = 0)) → px_T 0 4 0 [some (.int s0)] [] M (fun r M1 => px_T 0 90 55 [d0, d1, some (.int x2), some (.int x3), some (.int s0)] (r.toList ++ [.int x2]) M1 Q)) : px_T 0 90 40 [d0, d1, some (.int x2), some (.int x3), d4] [.int s0] M Q := by
  by_cases c1 : x2 = 0
  · exact ⟨5, ⟨fun q => absurd c1 q, fun _ => ⟨trivial, h1 c1⟩⟩⟩
  · obtain ⟨n, h⟩ := px_T_cl (k := 90) (pc := 52) (y := 4) (st := [.int s0, .int x2]) rfl (h2 c1)
    exact ⟨n + 6, ⟨fun _ => h, fun q => absurd q c1⟩⟩
theorem sg_90_55 {d0 : Option Value} {d1 : Option Value} {x2 : Int32} {x3 : Int32} {d4 : Option Value} {s0 : Int32} {s1 : Int32} {M : px_Mem} {Q : px_Po} (h1 : (s1 ≤ s0) → px_T 0 3 0 [some (.int x3), some (.int x2)] [] M (fun r M1 => px_T 0 90 67 [d0, d1, some (.int x2), some (.int x3), d4] (r.toList ++ []) M1 Q)) (h2 : (¬ (s1 ≤ s0)) → Q (some (.int (-1))) M) : px_T 0 90 55 [d0, d1, some (.int x2), some (.int x3), d4] [.int s0, .int s1] M Q := by
  by_cases c1 : s1 ≤ s0
  · obtain ⟨n, h⟩ := px_T_cl (k := 90) (pc := 64) (y := 3) (st := [.int x2, .int x3]) rfl (h1 c1)
    exact ⟨n + 4, ⟨fun _ => h, fun q => absurd c1 q⟩⟩
  · exact ⟨4, ⟨fun q => absurd q c1, fun _ => ⟨trivial, h2 c1⟩⟩⟩
theorem sg_90_67 {d0 : Option Value} {d1 : Option Value} {d2 : Option Value} {d3 : Option Value} {d4 : Option Value} {s0 : Int32} {M : px_Mem} {Q : px_Po} (h1 : Q (some (.int s0)) M) : px_T 0 90 67 [d0, d1, d2, d3, d4] [.int s0] M Q := by
  exact ⟨1, ⟨trivial, h1⟩⟩
theorem sg_91_0 {x1 : Int32} {M : px_Mem} {Q : px_Po} (h1 : (x1 < 0) → Q (some (.int (-2))) M) (h2 : (¬ (x1 < 0)) → px_T 0 53 0 [some (.ref 4)] [] M (fun r M1 => px_T 0 91 12 [some (.ref 0), some (.int x1)] (r.toList ++ [.int x1]) M1 Q)) : px_T 0 91 0 [some (.ref 0), some (.int x1)] [] M Q := by
  by_cases c1 : x1 < 0
  · exact ⟨4, ⟨fun _ => ⟨trivial, h1 c1⟩, fun q => absurd c1 q⟩⟩
  · obtain ⟨n, h⟩ := px_T_cl (k := 91) (pc := 9) (y := 53) (st := [.ref 4, .int x1]) rfl (h2 c1)
    exact ⟨n + 6, ⟨fun q => absurd q c1, fun _ => ⟨rfl, ⟨rfl, h⟩⟩⟩⟩
theorem sg_91_12 {x1 : Int32} {s0 : Int32} {s1 : Int32} {M : px_Mem} {Q : px_Po} (h1 : (s1 < s0) → px_T 0 12 0 [some (.ref 28), some (.int x1)] [] M (fun r M1 => px_T 0 91 26 [some (.ref 0), some (.int x1)] (r.toList ++ []) M1 Q)) (h2 : (¬ (s1 < s0)) → Q (some (.int (-2))) M) : px_T 0 91 12 [some (.ref 0), some (.int x1)] [.int s0, .int s1] M Q := by
  by_cases c1 : s1 < s0
  · obtain ⟨n, h⟩ := px_T_cl (k := 91) (pc := 23) (y := 12) (st := [.int x1, .ref 28]) rfl (h1 c1)
    exact ⟨n + 5, ⟨fun _ => ⟨rfl, ⟨rfl, h⟩⟩, fun q => absurd c1 q⟩⟩
  · exact ⟨3, ⟨fun q => absurd q c1, fun _ => ⟨trivial, h2 c1⟩⟩⟩
theorem sg_91_26 {d0 : Option Value} {d1 : Option Value} {s0 : Int32} {M : px_Mem} {Q : px_Po} (h1 : Q (some (.int s0)) M) : px_T 0 91 26 [d0, d1] [.int s0] M Q := by
  exact ⟨1, ⟨trivial, h1⟩⟩
theorem sg_92_0 {x1 : Int32} {M : px_Mem} {Q : px_Po} (h1 : px_T 0 152 0 [some (.ref 0), some (.int x1)] [] M (fun r M1 => px_T 0 92 5 [some (.ref 0), some (.int x1)] (r.toList ++ []) M1 Q)) : px_T 0 92 0 [some (.ref 0), some (.int x1)] [] M Q := by
  obtain ⟨n, h⟩ := px_T_cl (k := 92) (pc := 2) (y := 152) (st := [.int x1, .ref 0]) rfl (h1)
  exact ⟨n + 3, ⟨rfl, h⟩⟩
theorem sg_92_5 {x1 : Int32} {s0 : Int32} {M : px_Mem} {Q : px_Po} (h1 : (s0 = 0) → px_T 0 13 0 [some (.ref 28), some (.int x1), none, none] [] M (fun r M1 => px_T 0 92 21 [some (.ref 0), some (.int x1)] (r.toList ++ []) M1 Q)) (h2 : (¬ (s0 = 0)) → Q (some (.int (-2))) M) : px_T 0 92 5 [some (.ref 0), some (.int x1)] [.int s0] M Q := by
  by_cases c1 : s0 = 0
  · obtain ⟨n, h⟩ := px_T_cl (k := 92) (pc := 18) (y := 13) (st := [.int x1, .ref 28]) rfl (h1 c1)
    exact ⟨n + 5, ⟨fun _ => ⟨rfl, ⟨rfl, h⟩⟩, fun q => absurd c1 q⟩⟩
  · exact ⟨4, ⟨fun q => absurd q c1, fun _ => ⟨trivial, h2 c1⟩⟩⟩
theorem sg_92_21 {d0 : Option Value} {d1 : Option Value} {s0 : Int32} {M : px_Mem} {Q : px_Po} (h1 : Q (some (.int s0)) M) : px_T 0 92 21 [d0, d1] [.int s0] M Q := by
  exact ⟨1, ⟨trivial, h1⟩⟩
theorem sg_93_0 {x1 : Int32} {M : px_Mem} {Q : px_Po} (h1 : px_T 0 152 0 [some (.ref 0), some (.int x1)] [] M (fun r M1 => px_T 0 93 5 [some (.ref 0), some (.int x1)] (r.toList ++ []) M1 Q)) : px_T 0 93 0 [some (.ref 0), some (.int x1)] [] M Q := by
  obtain ⟨n, h⟩ := px_T_cl (k := 93) (pc := 2) (y := 152) (st := [.int x1, .ref 0]) rfl (h1)
  exact ⟨n + 3, ⟨rfl, h⟩⟩
theorem sg_93_5 {x1 : Int32} {s0 : Int32} {M : px_Mem} {Q : px_Po} (h1 : (s0 = 0) → px_T 0 11 0 [some (.ref 28), some (.int x1)] [] M (fun r M1 => px_T 0 93 21 [some (.ref 0), some (.int x1)] (r.toList ++ []) M1 Q)) (h2 : (¬ (s0 = 0)) → Q (some (.int (-2))) M) : px_T 0 93 5 [some (.ref 0), some (.int x1)] [.int s0] M Q := by
  by_cases c1 : s0 = 0
  · obtain ⟨n, h⟩ := px_T_cl (k := 93) (pc := 18) (y := 11) (st := [.int x1, .ref 28]) rfl (h1 c1)
    exact ⟨n + 5, ⟨fun _ => ⟨rfl, ⟨rfl, h⟩⟩, fun q => absurd c1 q⟩⟩
  · exact ⟨4, ⟨fun q => absurd q c1, fun _ => ⟨trivial, h2 c1⟩⟩⟩
theorem sg_93_21 {d0 : Option Value} {d1 : Option Value} {s0 : Nat} {M : px_Mem} {Q : px_Po} (h_s0 : px_isW s0) (h1 : Q (some (.int (M.1 s0 0))) M) : px_T 0 93 21 [d0, d1] [.ref s0] M Q := by
  rcases h_s0 with rfl | rfl
  · exact ⟨2, ⟨rfl, ⟨trivial, h1⟩⟩⟩
  · exact ⟨2, ⟨rfl, ⟨trivial, h1⟩⟩⟩
theorem sg_94_0 {x1 : Int32} {x2 : Int32} {M : px_Mem} {Q : px_Po} (h1 : px_T 0 153 0 [some (.int x1)] [] M (fun r M1 => px_T 0 94 4 [some (.ref 0), some (.int x1), some (.int x2)] (r.toList ++ []) M1 Q)) : px_T 0 94 0 [some (.ref 0), some (.int x1), some (.int x2)] [] M Q := by
  obtain ⟨n, h⟩ := px_T_cl (k := 94) (pc := 1) (y := 153) (st := [.int x1]) rfl (h1)
  exact ⟨n + 2, h⟩
theorem sg_94_4 {x1 : Int32} {x2 : Int32} {s0 : Int32} {M : px_Mem} {Q : px_Po} (h1 : (s0 = 0) → px_T 0 152 0 [some (.ref 0), some (.int x2)] [] M (fun r M1 => px_T 0 94 12 [some (.ref 0), some (.int x1), some (.int x2)] (r.toList ++ []) M1 Q)) (h2 : (¬ (s0 = 0)) → Q (some (.int (-2))) M) : px_T 0 94 4 [some (.ref 0), some (.int x1), some (.int x2)] [.int s0] M Q := by
  by_cases c1 : s0 = 0
  · obtain ⟨n, h⟩ := px_T_cl (k := 94) (pc := 9) (y := 152) (st := [.int x2, .ref 0]) rfl (h1 c1)
    exact ⟨n + 4, ⟨fun q => absurd c1 q, fun _ => ⟨rfl, h⟩⟩⟩
  · exact ⟨3, ⟨fun _ => ⟨trivial, h2 c1⟩, fun q => absurd q c1⟩⟩
theorem sg_94_12 {x1 : Int32} {x2 : Int32} {s0 : Int32} {M : px_Mem} {Q : px_Po} (h1 : (s0 = 0) → px_T 0 11 0 [some (.ref 28), some (.int x2)] [] M (fun r M1 => px_T 0 94 26 [some (.ref 0), some (.int x1), some (.int x2)] (r.toList ++ []) M1 Q)) (h2 : (¬ (s0 = 0)) → Q (some (.int (-2))) M) : px_T 0 94 12 [some (.ref 0), some (.int x1), some (.int x2)] [.int s0] M Q := by
  by_cases c1 : s0 = 0
  · obtain ⟨n, h⟩ := px_T_cl (k := 94) (pc := 23) (y := 11) (st := [.int x2, .ref 28]) rfl (h1 c1)
    exact ⟨n + 5, ⟨fun _ => ⟨rfl, ⟨rfl, h⟩⟩, fun q => absurd c1 q⟩⟩
  · exact ⟨3, ⟨fun q => absurd q c1, fun _ => ⟨trivial, h2 c1⟩⟩⟩
theorem sg_94_26 {d0 : Option Value} {x1 : Int32} {d2 : Option Value} {s0 : Nat} {M : px_Mem} {Q : px_Po} (h_s0 : px_isW s0) (h1 : px_T 0 64 0 [some (.ref s0), some (.int x1)] [] M (fun r M1 => px_T 0 94 30 [d0, some (.int x1), d2] (r.toList ++ []) M1 Q)) : px_T 0 94 26 [d0, some (.int x1), d2] [.ref s0] M Q := by
  rcases h_s0 with rfl | rfl
  · obtain ⟨n, h⟩ := px_T_cl (k := 94) (pc := 27) (y := 64) (st := [.int x1, .ref 29]) rfl (h1)
    exact ⟨n + 2, ⟨rfl, h⟩⟩
  · obtain ⟨n, h⟩ := px_T_cl (k := 94) (pc := 27) (y := 64) (st := [.int x1, .ref 47]) rfl (h1)
    exact ⟨n + 2, ⟨rfl, h⟩⟩
theorem sg_94_30 {d0 : Option Value} {d1 : Option Value} {d2 : Option Value} {s0 : Int32} {M : px_Mem} {Q : px_Po} (h1 : Q (some (.int s0)) M) : px_T 0 94 30 [d0, d1, d2] [.int s0] M Q := by
  exact ⟨1, ⟨trivial, h1⟩⟩
theorem sg_95_0 {x1 : Int32} {x2 : Int32} {M : px_Mem} {Q : px_Po} (h1 : px_T 0 153 0 [some (.int x1)] [] M (fun r M1 => px_T 0 95 4 [some (.ref 0), some (.int x1), some (.int x2), none] (r.toList ++ []) M1 Q)) : px_T 0 95 0 [some (.ref 0), some (.int x1), some (.int x2), none] [] M Q := by
  obtain ⟨n, h⟩ := px_T_cl (k := 95) (pc := 1) (y := 153) (st := [.int x1]) rfl (h1)
  exact ⟨n + 2, h⟩
theorem sg_95_4 {x1 : Int32} {x2 : Int32} {d3 : Option Value} {s0 : Int32} {M : px_Mem} {Q : px_Po} (h1 : (s0 = 0) → px_T 0 152 0 [some (.ref 0), some (.int x2)] [] M (fun r M1 => px_T 0 95 12 [some (.ref 0), some (.int x1), some (.int x2), d3] (r.toList ++ []) M1 Q)) (h2 : (¬ (s0 = 0)) → Q (some (.int (-2))) M) : px_T 0 95 4 [some (.ref 0), some (.int x1), some (.int x2), d3] [.int s0] M Q := by
  by_cases c1 : s0 = 0
  · obtain ⟨n, h⟩ := px_T_cl (k := 95) (pc := 9) (y := 152) (st := [.int x2, .ref 0]) rfl (h1 c1)
    exact ⟨n + 4, ⟨fun q => absurd c1 q, fun _ => ⟨rfl, h⟩⟩⟩
  · exact ⟨3, ⟨fun _ => ⟨trivial, h2 c1⟩, fun q => absurd q c1⟩⟩
theorem sg_95_12 {x1 : Int32} {x2 : Int32} {d3 : Option Value} {s0 : Int32} {M : px_Mem} {Q : px_Po} (h1 : (s0 = 0) → px_T 0 11 0 [some (.ref 28), some (.int x2)] [] M (fun r M1 => px_T 0 95 26 [some (.ref 0), some (.int x1), some (.int x2), d3] (r.toList ++ []) M1 Q)) (h2 : (¬ (s0 = 0)) → Q (some (.int (-2))) M) : px_T 0 95 12 [some (.ref 0), some (.int x1), some (.int x2), d3] [.int s0] M Q := by
  by_cases c1 : s0 = 0
  · obtain ⟨n, h⟩ := px_T_cl (k := 95) (pc := 23) (y := 11) (st := [.int x2, .ref 28]) rfl (h1 c1)
    exact ⟨n + 5, ⟨fun _ => ⟨rfl, ⟨rfl, h⟩⟩, fun q => absurd c1 q⟩⟩
  · exact ⟨3, ⟨fun q => absurd q c1, fun _ => ⟨trivial, h2 c1⟩⟩⟩
theorem sg_95_26 {d0 : Option Value} {x1 : Int32} {d2 : Option Value} {d3 : Option Value} {s0 : Nat} {M : px_Mem} {Q : px_Po} (h_s0 : px_isW s0) (h1 : px_T 0 63 0 [some (.ref s0), some (.int x1)] [] M (fun r M1 => px_T 0 95 32 [d0, some (.int x1), d2, some (.ref s0)] (r.toList ++ []) M1 Q)) : px_T 0 95 26 [d0, some (.int x1), d2, d3] [.ref s0] M Q := by
  rcases h_s0 with rfl | rfl
  · obtain ⟨n, h⟩ := px_T_cl (k := 95) (pc := 29) (y := 63) (st := [.int x1, .ref 29]) rfl (h1)
    exact ⟨n + 4, ⟨rfl, h⟩⟩
  · obtain ⟨n, h⟩ := px_T_cl (k := 95) (pc := 29) (y := 63) (st := [.int x1, .ref 47]) rfl (h1)
    exact ⟨n + 4, ⟨rfl, h⟩⟩
theorem sg_95_32 {d0 : Option Value} {x1 : Int32} {d2 : Option Value} {x3 : Nat} {s0 : Int32} {M : px_Mem} {Q : px_Po} (h_x3 : px_isW x3) (h1 : (s0 = 0) → Q (some (.int (-1))) M) (h2 : (¬ (s0 = 0)) → vp_in x1 16) (h3 : (¬ (s0 = 0)) → Q (some (.int (M.1 (x3 + 2) x1.toNatClampNeg))) M) : px_T 0 95 32 [d0, some (.int x1), d2, some (.ref x3)] [.int s0] M Q := by
  rcases h_x3 with rfl | rfl
  · by_cases c1 : s0 = 0
    · exact ⟨3, ⟨fun _ => ⟨trivial, h1 c1⟩, fun q => absurd c1 q⟩⟩
    · exact ⟨7, ⟨fun q => absurd q c1, fun _ => ⟨rfl, ⟨Or.inl ⟨0, 16, Or.inl rfl, rfl, (h2 c1)⟩, ⟨trivial, h3 c1⟩⟩⟩⟩⟩
  · by_cases c1 : s0 = 0
    · exact ⟨3, ⟨fun _ => ⟨trivial, h1 c1⟩, fun q => absurd c1 q⟩⟩
    · exact ⟨7, ⟨fun q => absurd q c1, fun _ => ⟨rfl, ⟨Or.inl ⟨0, 16, Or.inl rfl, rfl, (h2 c1)⟩, ⟨trivial, h3 c1⟩⟩⟩⟩⟩
theorem sg_96_0 {x1 : Int32} {x2 : Int32} {M : px_Mem} {Q : px_Po} (h1 : px_T 0 153 0 [some (.int x1)] [] M (fun r M1 => px_T 0 96 4 [some (.ref 0), some (.int x1), some (.int x2), none, none, none] (r.toList ++ []) M1 Q)) : px_T 0 96 0 [some (.ref 0), some (.int x1), some (.int x2), none, none, none] [] M Q := by
  obtain ⟨n, h⟩ := px_T_cl (k := 96) (pc := 1) (y := 153) (st := [.int x1]) rfl (h1)
  exact ⟨n + 2, h⟩
theorem sg_96_4 {x1 : Int32} {x2 : Int32} {d3 : Option Value} {d4 : Option Value} {d5 : Option Value} {s0 : Int32} {M : px_Mem} {Q : px_Po} (h1 : (s0 = 0) → px_T 0 152 0 [some (.ref 0), some (.int x2)] [] M (fun r M1 => px_T 0 96 12 [some (.ref 0), some (.int x1), some (.int x2), d3, d4, d5] (r.toList ++ []) M1 Q)) (h2 : (¬ (s0 = 0)) → Q (some (.int (-2))) M) : px_T 0 96 4 [some (.ref 0), some (.int x1), some (.int x2), d3, d4, d5] [.int s0] M Q := by
  by_cases c1 : s0 = 0
  · obtain ⟨n, h⟩ := px_T_cl (k := 96) (pc := 9) (y := 152) (st := [.int x2, .ref 0]) rfl (h1 c1)
    exact ⟨n + 4, ⟨fun q => absurd c1 q, fun _ => ⟨rfl, h⟩⟩⟩
  · exact ⟨3, ⟨fun _ => ⟨trivial, h2 c1⟩, fun q => absurd q c1⟩⟩
theorem sg_96_12 {x1 : Int32} {x2 : Int32} {d3 : Option Value} {d4 : Option Value} {d5 : Option Value} {s0 : Int32} {M : px_Mem} {Q : px_Po} (h1 : (s0 = 0) → px_T 0 11 0 [some (.ref 28), some (.int x2)] [] M (fun r M1 => px_T 0 96 26 [some (.ref 0), some (.int x1), some (.int x2), d3, d4, d5] (r.toList ++ []) M1 Q)) (h2 : (¬ (s0 = 0)) → Q (some (.int (-2))) M) : px_T 0 96 12 [some (.ref 0), some (.int x1), some (.int x2), d3, d4, d5] [.int s0] M Q := by
  by_cases c1 : s0 = 0
  · obtain ⟨n, h⟩ := px_T_cl (k := 96) (pc := 23) (y := 11) (st := [.int x2, .ref 28]) rfl (h1 c1)
    exact ⟨n + 5, ⟨fun _ => ⟨rfl, ⟨rfl, h⟩⟩, fun q => absurd c1 q⟩⟩
  · exact ⟨3, ⟨fun q => absurd q c1, fun _ => ⟨trivial, h2 c1⟩⟩⟩
theorem sg_96_26 {d0 : Option Value} {x1 : Int32} {d2 : Option Value} {d3 : Option Value} {d4 : Option Value} {d5 : Option Value} {s0 : Nat} {M : px_Mem} {Q : px_Po} (h_s0 : px_isW s0) (h1 : px_T 0 96 33 [d0, some (.int x1), d2, some (.ref s0), some (.int 0), some (.int 1)] [] M Q) : px_T 0 96 26 [d0, some (.int x1), d2, d3, d4, d5] [.ref s0] M Q := by
  rcases h_s0 with rfl | rfl
  · obtain ⟨n, h⟩ := h1
    exact ⟨n + 5, h⟩
  · obtain ⟨n, h⟩ := h1
    exact ⟨n + 5, h⟩
theorem sg_96_33 {d0 : Option Value} {x1 : Int32} {d2 : Option Value} {x3 : Nat} {x4 : Int32} {x5 : Int32} {M : px_Mem} {Q : px_Po} (h_x3 : px_isW x3) (h1 : ((15 : Int32) < x5) → Q (some (.int x4)) M) (h2 : (¬ ((15 : Int32) < x5)) → px_T 0 64 0 [some (.ref x3), some (.int x5)] [] M (fun r M1 => px_T 0 96 46 [d0, some (.int x1), d2, some (.ref x3), some (.int x4), some (.int x5)] (r.toList ++ []) M1 Q)) : px_T 0 96 33 [d0, some (.int x1), d2, some (.ref x3), some (.int x4), some (.int x5)] [] M Q := by
  rcases h_x3 with rfl | rfl
  · by_cases c1 : (15 : Int32) < x5
    · exact ⟨5, ⟨fun _ => ⟨trivial, h1 c1⟩, fun q => absurd c1 q⟩⟩
    · obtain ⟨n, h⟩ := px_T_cl (k := 96) (pc := 43) (y := 64) (st := [.int x5, .ref 29]) rfl (h2 c1)
      exact ⟨n + 6, ⟨fun q => absurd q c1, fun _ => ⟨rfl, h⟩⟩⟩
  · by_cases c1 : (15 : Int32) < x5
    · exact ⟨5, ⟨fun _ => ⟨trivial, h1 c1⟩, fun q => absurd c1 q⟩⟩
    · obtain ⟨n, h⟩ := px_T_cl (k := 96) (pc := 43) (y := 64) (st := [.int x5, .ref 47]) rfl (h2 c1)
      exact ⟨n + 6, ⟨fun q => absurd q c1, fun _ => ⟨rfl, h⟩⟩⟩
theorem sg_96_46 {d0 : Option Value} {x1 : Int32} {d2 : Option Value} {x3 : Nat} {x4 : Int32} {x5 : Int32} {s0 : Int32} {M : px_Mem} {Q : px_Po} (h_x3 : px_isW x3) (h1 : (s0 = x1) → px_T 0 161 0 [some (.int x5)] [] M (fun r M1 => px_T 0 96 57 [d0, some (.int x1), d2, some (.ref x3), some (.int x4), some (.int x5)] (r.toList ++ [.int x4]) M1 Q)) (h2 : (¬ (s0 = x1)) → px_T 0 96 33 [d0, some (.int x1), d2, some (.ref x3), some (.int x4), some (.int (x5 + 1))] [] M Q) : px_T 0 96 46 [d0, some (.int x1), d2, some (.ref x3), some (.int x4), some (.int x5)] [.int s0] M Q := by
  rcases h_x3 with rfl | rfl
  · by_cases c1 : s0 = x1
    · obtain ⟨n, h⟩ := px_T_cl (k := 96) (pc := 54) (y := 161) (st := [.int x5, .int x4]) rfl (h1 c1)
      exact ⟨n + 5, ⟨fun q => absurd c1 q, fun _ => h⟩⟩
    · obtain ⟨n, h⟩ := h2 c1
      exact ⟨n + 4, ⟨fun _ => h, fun q => absurd q c1⟩⟩
  · by_cases c1 : s0 = x1
    · obtain ⟨n, h⟩ := px_T_cl (k := 96) (pc := 54) (y := 161) (st := [.int x5, .int x4]) rfl (h1 c1)
      exact ⟨n + 5, ⟨fun q => absurd c1 q, fun _ => h⟩⟩
    · obtain ⟨n, h⟩ := h2 c1
      exact ⟨n + 4, ⟨fun _ => h, fun q => absurd q c1⟩⟩
theorem sg_96_57 {d0 : Option Value} {x1 : Int32} {d2 : Option Value} {x3 : Nat} {d4 : Option Value} {x5 : Int32} {s0 : Int32} {s1 : Int32} {M : px_Mem} {Q : px_Po} (h_x3 : px_isW x3) (h1 : px_T 0 96 33 [d0, some (.int x1), d2, some (.ref x3), some (.int (s1 ||| s0)), some (.int (x5 + 1))] [] M Q) : px_T 0 96 57 [d0, some (.int x1), d2, some (.ref x3), d4, some (.int x5)] [.int s0, .int s1] M Q := by
  rcases h_x3 with rfl | rfl
  · obtain ⟨n, h⟩ := h1
    exact ⟨n + 4, h⟩
  · obtain ⟨n, h⟩ := h1
    exact ⟨n + 4, h⟩
theorem sg_97_0 {x1 : Int32} {x2 : Int32} {M : px_Mem} {Q : px_Po} (h1 : px_T 0 153 0 [some (.int x1)] [] M (fun r M1 => px_T 0 97 4 [some (.ref 0), some (.int x1), some (.int x2)] (r.toList ++ []) M1 Q)) : px_T 0 97 0 [some (.ref 0), some (.int x1), some (.int x2)] [] M Q := by
  obtain ⟨n, h⟩ := px_T_cl (k := 97) (pc := 1) (y := 153) (st := [.int x1]) rfl (h1)
  exact ⟨n + 2, h⟩
theorem sg_97_4 {x1 : Int32} {x2 : Int32} {s0 : Int32} {M : px_Mem} {Q : px_Po} (h1 : (s0 = 0) → px_T 0 152 0 [some (.ref 0), some (.int x2)] [] M (fun r M1 => px_T 0 97 12 [some (.ref 0), some (.int x1), some (.int x2)] (r.toList ++ []) M1 Q)) (h2 : (¬ (s0 = 0)) → Q (some (.int (-2))) M) : px_T 0 97 4 [some (.ref 0), some (.int x1), some (.int x2)] [.int s0] M Q := by
  by_cases c1 : s0 = 0
  · obtain ⟨n, h⟩ := px_T_cl (k := 97) (pc := 9) (y := 152) (st := [.int x2, .ref 0]) rfl (h1 c1)
    exact ⟨n + 4, ⟨fun q => absurd c1 q, fun _ => ⟨rfl, h⟩⟩⟩
  · exact ⟨3, ⟨fun _ => ⟨trivial, h2 c1⟩, fun q => absurd q c1⟩⟩
theorem sg_97_12 {x1 : Int32} {x2 : Int32} {s0 : Int32} {M : px_Mem} {Q : px_Po} (h1 : (s0 = 0) → px_T 0 11 0 [some (.ref 28), some (.int x2)] [] M (fun r M1 => px_T 0 97 26 [some (.ref 0), some (.int x1), some (.int x2)] (r.toList ++ []) M1 Q)) (h2 : (¬ (s0 = 0)) → Q (some (.int (-2))) M) : px_T 0 97 12 [some (.ref 0), some (.int x1), some (.int x2)] [.int s0] M Q := by
  by_cases c1 : s0 = 0
  · obtain ⟨n, h⟩ := px_T_cl (k := 97) (pc := 23) (y := 11) (st := [.int x2, .ref 28]) rfl (h1 c1)
    exact ⟨n + 5, ⟨fun _ => ⟨rfl, ⟨rfl, h⟩⟩, fun q => absurd c1 q⟩⟩
  · exact ⟨3, ⟨fun q => absurd q c1, fun _ => ⟨trivial, h2 c1⟩⟩⟩
theorem sg_97_26 {d0 : Option Value} {x1 : Int32} {d2 : Option Value} {s0 : Nat} {M : px_Mem} {Q : px_Po} (h_s0 : px_isW s0) (h1 : px_T 0 67 0 [some (.ref s0), some (.int x1), none, none] [] M (fun r M1 => px_T 0 97 30 [d0, some (.int x1), d2] (r.toList ++ []) M1 Q)) : px_T 0 97 26 [d0, some (.int x1), d2] [.ref s0] M Q := by
  rcases h_s0 with rfl | rfl
  · obtain ⟨n, h⟩ := px_T_cl (k := 97) (pc := 27) (y := 67) (st := [.int x1, .ref 29]) rfl (h1)
    exact ⟨n + 2, ⟨rfl, h⟩⟩
  · obtain ⟨n, h⟩ := px_T_cl (k := 97) (pc := 27) (y := 67) (st := [.int x1, .ref 47]) rfl (h1)
    exact ⟨n + 2, ⟨rfl, h⟩⟩
theorem sg_97_30 {d0 : Option Value} {d1 : Option Value} {d2 : Option Value} {s0 : Int32} {M : px_Mem} {Q : px_Po} (h1 : Q (some (.int s0)) M) : px_T 0 97 30 [d0, d1, d2] [.int s0] M Q := by
  exact ⟨1, ⟨trivial, h1⟩⟩
theorem sg_98_0 {x1 : Int32} {x2 : Int32} {M : px_Mem} {Q : px_Po} (h1 : px_T 0 153 0 [some (.int x1)] [] M (fun r M1 => px_T 0 98 4 [some (.ref 0), some (.int x1), some (.int x2), none] (r.toList ++ []) M1 Q)) : px_T 0 98 0 [some (.ref 0), some (.int x1), some (.int x2), none] [] M Q := by
  obtain ⟨n, h⟩ := px_T_cl (k := 98) (pc := 1) (y := 153) (st := [.int x1]) rfl (h1)
  exact ⟨n + 2, h⟩
theorem sg_98_4 {x1 : Int32} {x2 : Int32} {d3 : Option Value} {s0 : Int32} {M : px_Mem} {Q : px_Po} (h1 : (s0 = 0) → px_T 0 152 0 [some (.ref 0), some (.int x2)] [] M (fun r M1 => px_T 0 98 12 [some (.ref 0), some (.int x1), some (.int x2), d3] (r.toList ++ []) M1 Q)) (h2 : (¬ (s0 = 0)) → Q (some (.int (-2))) M) : px_T 0 98 4 [some (.ref 0), some (.int x1), some (.int x2), d3] [.int s0] M Q := by
  by_cases c1 : s0 = 0
  · obtain ⟨n, h⟩ := px_T_cl (k := 98) (pc := 9) (y := 152) (st := [.int x2, .ref 0]) rfl (h1 c1)
    exact ⟨n + 4, ⟨fun q => absurd c1 q, fun _ => ⟨rfl, h⟩⟩⟩
  · exact ⟨3, ⟨fun _ => ⟨trivial, h2 c1⟩, fun q => absurd q c1⟩⟩
theorem sg_98_12 {x1 : Int32} {x2 : Int32} {d3 : Option Value} {s0 : Int32} {M : px_Mem} {Q : px_Po} (h1 : (s0 = 0) → px_T 0 11 0 [some (.ref 28), some (.int x2)] [] M (fun r M1 => px_T 0 98 26 [some (.ref 0), some (.int x1), some (.int x2), d3] (r.toList ++ []) M1 Q)) (h2 : (¬ (s0 = 0)) → Q (some (.int (-2))) M) : px_T 0 98 12 [some (.ref 0), some (.int x1), some (.int x2), d3] [.int s0] M Q := by
  by_cases c1 : s0 = 0
  · obtain ⟨n, h⟩ := px_T_cl (k := 98) (pc := 23) (y := 11) (st := [.int x2, .ref 28]) rfl (h1 c1)
    exact ⟨n + 5, ⟨fun _ => ⟨rfl, ⟨rfl, h⟩⟩, fun q => absurd c1 q⟩⟩
  · exact ⟨3, ⟨fun q => absurd q c1, fun _ => ⟨trivial, h2 c1⟩⟩⟩
theorem sg_98_26 {d0 : Option Value} {x1 : Int32} {d2 : Option Value} {d3 : Option Value} {s0 : Nat} {M : px_Mem} {Q : px_Po} (h_s0 : px_isW s0) (h1 : px_T 0 63 0 [some (.ref s0), some (.int x1)] [] M (fun r M1 => px_T 0 98 32 [d0, some (.int x1), d2, some (.ref s0)] (r.toList ++ []) M1 Q)) : px_T 0 98 26 [d0, some (.int x1), d2, d3] [.ref s0] M Q := by
  rcases h_s0 with rfl | rfl
  · obtain ⟨n, h⟩ := px_T_cl (k := 98) (pc := 29) (y := 63) (st := [.int x1, .ref 29]) rfl (h1)
    exact ⟨n + 4, ⟨rfl, h⟩⟩
  · obtain ⟨n, h⟩ := px_T_cl (k := 98) (pc := 29) (y := 63) (st := [.int x1, .ref 47]) rfl (h1)
    exact ⟨n + 4, ⟨rfl, h⟩⟩
theorem sg_98_32 {d0 : Option Value} {x1 : Int32} {d2 : Option Value} {x3 : Nat} {s0 : Int32} {M : px_Mem} {Q : px_Po} (h_x3 : px_isW x3) (h1 : (s0 = 0) → Q (some (.int (-1))) M) (h2 : (¬ (s0 = 0)) → px_T 0 65 0 [some (.ref x3), some (.int x1), none, none] [] M (fun r M1 => px_T 0 98 40 [d0, some (.int x1), d2, some (.ref x3)] (r.toList ++ []) M1 Q)) : px_T 0 98 32 [d0, some (.int x1), d2, some (.ref x3)] [.int s0] M Q := by
  rcases h_x3 with rfl | rfl
  · by_cases c1 : s0 = 0
    · exact ⟨3, ⟨fun _ => ⟨trivial, h1 c1⟩, fun q => absurd c1 q⟩⟩
    · obtain ⟨n, h⟩ := px_T_cl (k := 98) (pc := 37) (y := 65) (st := [.int x1, .ref 29]) rfl (h2 c1)
      exact ⟨n + 4, ⟨fun q => absurd q c1, fun _ => ⟨rfl, h⟩⟩⟩
  · by_cases c1 : s0 = 0
    · exact ⟨3, ⟨fun _ => ⟨trivial, h1 c1⟩, fun q => absurd c1 q⟩⟩
    · obtain ⟨n, h⟩ := px_T_cl (k := 98) (pc := 37) (y := 65) (st := [.int x1, .ref 47]) rfl (h2 c1)
      exact ⟨n + 4, ⟨fun q => absurd q c1, fun _ => ⟨rfl, h⟩⟩⟩
theorem sg_98_40 {d0 : Option Value} {d1 : Option Value} {d2 : Option Value} {d3 : Option Value} {s0 : Int32} {M : px_Mem} {Q : px_Po} (h1 : Q (some (.int s0)) M) : px_T 0 98 40 [d0, d1, d2, d3] [.int s0] M Q := by
  exact ⟨2, ⟨trivial, h1⟩⟩
theorem sg_99_0 {x1 : Int32} {x2 : Int32} {M : px_Mem} {Q : px_Po} (h1 : px_T 0 153 0 [some (.int x1)] [] M (fun r M1 => px_T 0 99 4 [some (.ref 0), some (.int x1), some (.int x2), none, none, none] (r.toList ++ []) M1 Q)) : px_T 0 99 0 [some (.ref 0), some (.int x1), some (.int x2), none, none, none] [] M Q := by
  obtain ⟨n, h⟩ := px_T_cl (k := 99) (pc := 1) (y := 153) (st := [.int x1]) rfl (h1)
  exact ⟨n + 2, h⟩
theorem sg_99_4 {x1 : Int32} {x2 : Int32} {d3 : Option Value} {d4 : Option Value} {d5 : Option Value} {s0 : Int32} {M : px_Mem} {Q : px_Po} (h1 : (s0 = 0) → px_T 0 152 0 [some (.ref 0), some (.int x2)] [] M (fun r M1 => px_T 0 99 12 [some (.ref 0), some (.int x1), some (.int x2), d3, d4, d5] (r.toList ++ []) M1 Q)) (h2 : (¬ (s0 = 0)) → Q (some (.int (-2))) M) : px_T 0 99 4 [some (.ref 0), some (.int x1), some (.int x2), d3, d4, d5] [.int s0] M Q := by
  by_cases c1 : s0 = 0
  · obtain ⟨n, h⟩ := px_T_cl (k := 99) (pc := 9) (y := 152) (st := [.int x2, .ref 0]) rfl (h1 c1)
    exact ⟨n + 4, ⟨fun q => absurd c1 q, fun _ => ⟨rfl, h⟩⟩⟩
  · exact ⟨3, ⟨fun _ => ⟨trivial, h2 c1⟩, fun q => absurd q c1⟩⟩
theorem sg_99_12 {x1 : Int32} {x2 : Int32} {d3 : Option Value} {d4 : Option Value} {d5 : Option Value} {s0 : Int32} {M : px_Mem} {Q : px_Po} (h1 : (s0 = 0) → px_T 0 11 0 [some (.ref 28), some (.int x2)] [] M (fun r M1 => px_T 0 99 26 [some (.ref 0), some (.int x1), some (.int x2), d3, d4, d5] (r.toList ++ []) M1 Q)) (h2 : (¬ (s0 = 0)) → Q (some (.int (-2))) M) : px_T 0 99 12 [some (.ref 0), some (.int x1), some (.int x2), d3, d4, d5] [.int s0] M Q := by
  by_cases c1 : s0 = 0
  · obtain ⟨n, h⟩ := px_T_cl (k := 99) (pc := 23) (y := 11) (st := [.int x2, .ref 28]) rfl (h1 c1)
    exact ⟨n + 5, ⟨fun _ => ⟨rfl, ⟨rfl, h⟩⟩, fun q => absurd c1 q⟩⟩
  · exact ⟨3, ⟨fun q => absurd q c1, fun _ => ⟨trivial, h2 c1⟩⟩⟩
theorem sg_99_26 {d0 : Option Value} {x1 : Int32} {d2 : Option Value} {d3 : Option Value} {d4 : Option Value} {d5 : Option Value} {s0 : Nat} {M : px_Mem} {Q : px_Po} (h_s0 : px_isW s0) (h1 : px_T 0 99 33 [d0, some (.int x1), d2, some (.ref s0), some (.int 0), some (.int 1)] [] M Q) : px_T 0 99 26 [d0, some (.int x1), d2, d3, d4, d5] [.ref s0] M Q := by
  rcases h_s0 with rfl | rfl
  · obtain ⟨n, h⟩ := h1
    exact ⟨n + 5, h⟩
  · obtain ⟨n, h⟩ := h1
    exact ⟨n + 5, h⟩
theorem sg_99_33 {d0 : Option Value} {x1 : Int32} {d2 : Option Value} {x3 : Nat} {x4 : Int32} {x5 : Int32} {M : px_Mem} {Q : px_Po} (h_x3 : px_isW x3) (h1 : ((15 : Int32) < x5) → Q (some (.int x4)) M) (h2 : (¬ ((15 : Int32) < x5)) → px_T 0 63 0 [some (.ref x3), some (.int x5)] [] M (fun r M1 => px_T 0 99 46 [d0, some (.int x1), d2, some (.ref x3), some (.int x4), some (.int x5)] (r.toList ++ []) M1 Q)) : px_T 0 99 33 [d0, some (.int x1), d2, some (.ref x3), some (.int x4), some (.int x5)] [] M Q := by
  rcases h_x3 with rfl | rfl
  · by_cases c1 : (15 : Int32) < x5
    · exact ⟨5, ⟨fun _ => ⟨trivial, h1 c1⟩, fun q => absurd c1 q⟩⟩
    · obtain ⟨n, h⟩ := px_T_cl (k := 99) (pc := 43) (y := 63) (st := [.int x5, .ref 29]) rfl (h2 c1)
      exact ⟨n + 6, ⟨fun q => absurd q c1, fun _ => ⟨rfl, h⟩⟩⟩
  · by_cases c1 : (15 : Int32) < x5
    · exact ⟨5, ⟨fun _ => ⟨trivial, h1 c1⟩, fun q => absurd c1 q⟩⟩
    · obtain ⟨n, h⟩ := px_T_cl (k := 99) (pc := 43) (y := 63) (st := [.int x5, .ref 47]) rfl (h2 c1)
      exact ⟨n + 6, ⟨fun q => absurd q c1, fun _ => ⟨rfl, h⟩⟩⟩
theorem sg_99_46 {d0 : Option Value} {x1 : Int32} {d2 : Option Value} {x3 : Nat} {x4 : Int32} {x5 : Int32} {s0 : Int32} {M : px_Mem} {Q : px_Po} (h_x3 : px_isW x3) (h1 : (s0 = 0) → px_T 0 99 33 [d0, some (.int x1), d2, some (.ref x3), some (.int x4), some (.int (x5 + 1))] [] M Q) (h2 : (¬ (s0 = 0)) → vp_in x5 16) (h3 : (¬ (s0 = 0)) → ((M.1 (x3 + 2) x5.toNatClampNeg) = x1) → px_T 0 161 0 [some (.int x5)] [] M (fun r M1 => px_T 0 99 67 [d0, some (.int x1), d2, some (.ref x3), some (.int x4), some (.int x5)] (r.toList ++ [.int x4]) M1 Q)) (h4 : (¬ (s0 = 0)) → (¬ ((M.1 (x3 + 2) x5.toNatClampNeg) = x1)) → px_T 0 99 33 [d0, some (.int x1), d2, some (.ref x3), some (.int x4), some (.int (x5 + 1))] [] M Q) : px_T 0 99 46 [d0, some (.int x1), d2, some (.ref x3), some (.int x4), some (.int x5)] [.int s0] M Q := by
  rcases h_x3 with rfl | rfl
  · by_cases c1 : s0 = 0
    · obtain ⟨n, h⟩ := h1 c1
      exact ⟨n + 3, ⟨fun _ => h, fun q => absurd c1 q⟩⟩
    · by_cases c2 : (M.1 (29 + 2) x5.toNatClampNeg) = x1
      · obtain ⟨n, h⟩ := px_T_cl (k := 99) (pc := 64) (y := 161) (st := [.int x5, .int x4]) rfl (h3 c1 c2)
        exact ⟨n + 10, ⟨fun q => absurd q c1, fun _ => ⟨rfl, ⟨Or.inl ⟨0, 16, Or.inl rfl, rfl, (h2 c1)⟩, ⟨fun q => absurd c2 q, fun _ => h⟩⟩⟩⟩⟩
      · obtain ⟨n, h⟩ := h4 c1 c2
        exact ⟨n + 9, ⟨fun q => absurd q c1, fun _ => ⟨rfl, ⟨Or.inl ⟨0, 16, Or.inl rfl, rfl, (h2 c1)⟩, ⟨fun _ => h, fun q => absurd q c2⟩⟩⟩⟩⟩
  · by_cases c1 : s0 = 0
    · obtain ⟨n, h⟩ := h1 c1
      exact ⟨n + 3, ⟨fun _ => h, fun q => absurd c1 q⟩⟩
    · by_cases c2 : (M.1 (47 + 2) x5.toNatClampNeg) = x1
      · obtain ⟨n, h⟩ := px_T_cl (k := 99) (pc := 64) (y := 161) (st := [.int x5, .int x4]) rfl (h3 c1 c2)
        exact ⟨n + 10, ⟨fun q => absurd q c1, fun _ => ⟨rfl, ⟨Or.inl ⟨0, 16, Or.inl rfl, rfl, (h2 c1)⟩, ⟨fun q => absurd c2 q, fun _ => h⟩⟩⟩⟩⟩
      · obtain ⟨n, h⟩ := h4 c1 c2
        exact ⟨n + 9, ⟨fun q => absurd q c1, fun _ => ⟨rfl, ⟨Or.inl ⟨0, 16, Or.inl rfl, rfl, (h2 c1)⟩, ⟨fun _ => h, fun q => absurd q c2⟩⟩⟩⟩⟩
theorem sg_99_67 {d0 : Option Value} {x1 : Int32} {d2 : Option Value} {x3 : Nat} {d4 : Option Value} {x5 : Int32} {s0 : Int32} {s1 : Int32} {M : px_Mem} {Q : px_Po} (h_x3 : px_isW x3) (h1 : px_T 0 99 33 [d0, some (.int x1), d2, some (.ref x3), some (.int (s1 ||| s0)), some (.int (x5 + 1))] [] M Q) : px_T 0 99 67 [d0, some (.int x1), d2, some (.ref x3), d4, some (.int x5)] [.int s0, .int s1] M Q := by
  rcases h_x3 with rfl | rfl
  · obtain ⟨n, h⟩ := h1
    exact ⟨n + 4, h⟩
  · obtain ⟨n, h⟩ := h1
    exact ⟨n + 4, h⟩
theorem sg_100_0 {x1 : Int32} {M : px_Mem} {Q : px_Po} (h1 : px_T 0 152 0 [some (.ref 0), some (.int x1)] [] M (fun r M1 => px_T 0 100 5 [some (.ref 0), some (.int x1), none, none, none] (r.toList ++ []) M1 Q)) : px_T 0 100 0 [some (.ref 0), some (.int x1), none, none, none] [] M Q := by
  obtain ⟨n, h⟩ := px_T_cl (k := 100) (pc := 2) (y := 152) (st := [.int x1, .ref 0]) rfl (h1)
  exact ⟨n + 3, ⟨rfl, h⟩⟩
theorem sg_100_5 {x1 : Int32} {d2 : Option Value} {d3 : Option Value} {d4 : Option Value} {s0 : Int32} {M : px_Mem} {Q : px_Po} (h1 : (s0 = 0) → px_T 0 11 0 [some (.ref 28), some (.int x1)] [] M (fun r M1 => px_T 0 100 19 [some (.ref 0), some (.int x1), d2, d3, d4] (r.toList ++ []) M1 Q)) (h2 : (¬ (s0 = 0)) → Q (some (.int (-2))) M) : px_T 0 100 5 [some (.ref 0), some (.int x1), d2, d3, d4] [.int s0] M Q := by
  by_cases c1 : s0 = 0
  · obtain ⟨n, h⟩ := px_T_cl (k := 100) (pc := 16) (y := 11) (st := [.int x1, .ref 28]) rfl (h1 c1)
    exact ⟨n + 5, ⟨fun _ => ⟨rfl, ⟨rfl, h⟩⟩, fun q => absurd c1 q⟩⟩
  · exact ⟨3, ⟨fun q => absurd q c1, fun _ => ⟨trivial, h2 c1⟩⟩⟩
theorem sg_100_19 {d0 : Option Value} {d1 : Option Value} {d2 : Option Value} {d3 : Option Value} {d4 : Option Value} {s0 : Nat} {M : px_Mem} {Q : px_Po} (h_s0 : px_isW s0) (h1 : px_T 0 100 25 [d0, d1, some (.ref s0), some (.int 0), some (.int 1)] [] M Q) : px_T 0 100 19 [d0, d1, d2, d3, d4] [.ref s0] M Q := by
  rcases h_s0 with rfl | rfl
  · obtain ⟨n, h⟩ := h1
    exact ⟨n + 5, h⟩
  · obtain ⟨n, h⟩ := h1
    exact ⟨n + 5, h⟩
theorem sg_100_25 {d0 : Option Value} {d1 : Option Value} {x2 : Nat} {x3 : Int32} {x4 : Int32} {M : px_Mem} {Q : px_Po} (h_x2 : px_isW x2) (h1 : ((15 : Int32) < x4) → px_T 0 332 0 [some (.int x3)] [] M (fun r M1 => px_T 0 100 64 [d0, d1, some (.ref x2), some (.int x3), some (.int x4)] (r.toList ++ []) M1 Q)) (h2 : (¬ ((15 : Int32) < x4)) → px_T 0 63 0 [some (.ref x2), some (.int x4)] [] M (fun r M1 => px_T 0 100 38 [d0, d1, some (.ref x2), some (.int x3), some (.int x4)] (r.toList ++ []) M1 Q)) : px_T 0 100 25 [d0, d1, some (.ref x2), some (.int x3), some (.int x4)] [] M Q := by
  rcases h_x2 with rfl | rfl
  · by_cases c1 : (15 : Int32) < x4
    · obtain ⟨n, h⟩ := px_T_cl (k := 100) (pc := 61) (y := 332) (st := [.int x3]) rfl (h1 c1)
      exact ⟨n + 5, ⟨fun _ => h, fun q => absurd c1 q⟩⟩
    · obtain ⟨n, h⟩ := px_T_cl (k := 100) (pc := 35) (y := 63) (st := [.int x4, .ref 29]) rfl (h2 c1)
      exact ⟨n + 6, ⟨fun q => absurd q c1, fun _ => ⟨rfl, h⟩⟩⟩
  · by_cases c1 : (15 : Int32) < x4
    · obtain ⟨n, h⟩ := px_T_cl (k := 100) (pc := 61) (y := 332) (st := [.int x3]) rfl (h1 c1)
      exact ⟨n + 5, ⟨fun _ => h, fun q => absurd c1 q⟩⟩
    · obtain ⟨n, h⟩ := px_T_cl (k := 100) (pc := 35) (y := 63) (st := [.int x4, .ref 47]) rfl (h2 c1)
      exact ⟨n + 6, ⟨fun q => absurd q c1, fun _ => ⟨rfl, h⟩⟩⟩
theorem sg_100_64 {d0 : Option Value} {d1 : Option Value} {d2 : Option Value} {d3 : Option Value} {d4 : Option Value} {s0 : Int32} {M : px_Mem} {Q : px_Po} (h1 : Q (some (.int s0)) M) : px_T 0 100 64 [d0, d1, d2, d3, d4] [.int s0] M Q := by
  exact ⟨1, ⟨trivial, h1⟩⟩
theorem sg_100_38 {d0 : Option Value} {d1 : Option Value} {x2 : Nat} {x3 : Int32} {x4 : Int32} {s0 : Int32} {M : px_Mem} {Q : px_Po} (h_x2 : px_isW x2) (h1 : (s0 = 0) → px_T 0 100 25 [d0, d1, some (.ref x2), some (.int x3), some (.int (x4 + 1))] [] M Q) (h2 : (¬ (s0 = 0)) → vp_in x4 16) (h3 : (¬ (s0 = 0)) → px_T 0 161 0 [some (.int (M.1 (x2 + 2) x4.toNatClampNeg))] [] M (fun r M1 => px_T 0 100 52 [d0, d1, some (.ref x2), some (.int x3), some (.int x4)] (r.toList ++ [.int x3]) M1 Q)) : px_T 0 100 38 [d0, d1, some (.ref x2), some (.int x3), some (.int x4)] [.int s0] M Q := by
  rcases h_x2 with rfl | rfl
  · by_cases c1 : s0 = 0
    · obtain ⟨n, h⟩ := h1 c1
      exact ⟨n + 3, ⟨fun _ => h, fun q => absurd c1 q⟩⟩
    · obtain ⟨n, h⟩ := px_T_cl (k := 100) (pc := 49) (y := 161) (st := [.int (M.1 (29 + 2) x4.toNatClampNeg), .int x3]) rfl (h3 c1)
      exact ⟨n + 7, ⟨fun q => absurd q c1, fun _ => ⟨rfl, ⟨Or.inl ⟨0, 16, Or.inl rfl, rfl, (h2 c1)⟩, h⟩⟩⟩⟩
  · by_cases c1 : s0 = 0
    · obtain ⟨n, h⟩ := h1 c1
      exact ⟨n + 3, ⟨fun _ => h, fun q => absurd c1 q⟩⟩
    · obtain ⟨n, h⟩ := px_T_cl (k := 100) (pc := 49) (y := 161) (st := [.int (M.1 (47 + 2) x4.toNatClampNeg), .int x3]) rfl (h3 c1)
      exact ⟨n + 7, ⟨fun q => absurd q c1, fun _ => ⟨rfl, ⟨Or.inl ⟨0, 16, Or.inl rfl, rfl, (h2 c1)⟩, h⟩⟩⟩⟩
theorem sg_100_52 {d0 : Option Value} {d1 : Option Value} {x2 : Nat} {d3 : Option Value} {x4 : Int32} {s0 : Int32} {s1 : Int32} {M : px_Mem} {Q : px_Po} (h_x2 : px_isW x2) (h1 : px_T 0 100 25 [d0, d1, some (.ref x2), some (.int (s1 ||| s0)), some (.int (x4 + 1))] [] M Q) : px_T 0 100 52 [d0, d1, some (.ref x2), d3, some (.int x4)] [.int s0, .int s1] M Q := by
  rcases h_x2 with rfl | rfl
  · obtain ⟨n, h⟩ := h1
    exact ⟨n + 4, h⟩
  · obtain ⟨n, h⟩ := h1
    exact ⟨n + 4, h⟩
theorem sg_101_0 {x1 : Int32} {M : px_Mem} {Q : px_Po} (h1 : px_T 0 153 0 [some (.int x1)] [] M (fun r M1 => px_T 0 101 4 [some (.ref 0), some (.int x1)] (r.toList ++ []) M1 Q)) : px_T 0 101 0 [some (.ref 0), some (.int x1)] [] M Q := by
  obtain ⟨n, h⟩ := px_T_cl (k := 101) (pc := 1) (y := 153) (st := [.int x1]) rfl (h1)
  exact ⟨n + 2, h⟩
theorem sg_101_4 {x1 : Int32} {s0 : Int32} {M : px_Mem} {Q : px_Po} (h1 : (s0 = 0) → px_T 0 151 0 [some (.ref 0)] [] M (fun r M1 => px_T 0 101 11 [some (.ref 0), some (.int x1)] (r.toList ++ []) M1 Q)) (h2 : (¬ (s0 = 0)) → Q (some (.int (-2))) M) : px_T 0 101 4 [some (.ref 0), some (.int x1)] [.int s0] M Q := by
  by_cases c1 : s0 = 0
  · obtain ⟨n, h⟩ := px_T_cl (k := 101) (pc := 8) (y := 151) (st := [.ref 0]) rfl (h1 c1)
    exact ⟨n + 3, ⟨fun q => absurd c1 q, fun _ => ⟨rfl, h⟩⟩⟩
  · exact ⟨3, ⟨fun _ => ⟨trivial, h2 c1⟩, fun q => absurd q c1⟩⟩
theorem sg_101_11 {x1 : Int32} {s0 : Int32} {M : px_Mem} {Q : px_Po} (h1 : (s0 = 0) → px_T 0 164 0 [some (.ref 0), some (.int x1), some (.int 1), some (.int 0), none] [] M (fun r M1 => px_T 0 101 24 [some (.ref 0), some (.int x1)] (r.toList ++ []) M1 Q)) (h2 : (¬ (s0 = 0)) → Q (some (.int (-2))) M) : px_T 0 101 11 [some (.ref 0), some (.int x1)] [.int s0] M Q := by
  by_cases c1 : s0 = 0
  · obtain ⟨n, h⟩ := px_T_cl (k := 101) (pc := 21) (y := 164) (st := [.int 0, .int 1, .int x1, .ref 0]) rfl (h1 c1)
    exact ⟨n + 6, ⟨fun _ => ⟨rfl, h⟩, fun q => absurd c1 q⟩⟩
  · exact ⟨3, ⟨fun q => absurd q c1, fun _ => ⟨trivial, h2 c1⟩⟩⟩
theorem sg_101_24 {d0 : Option Value} {d1 : Option Value} {s0 : Int32} {M : px_Mem} {Q : px_Po} (h1 : Q (some (.int s0)) M) : px_T 0 101 24 [d0, d1] [.int s0] M Q := by
  exact ⟨1, ⟨trivial, h1⟩⟩
theorem sg_102_0 {x1 : Int32} {M : px_Mem} {Q : px_Po} (h1 : px_T 0 153 0 [some (.int x1)] [] M (fun r M1 => px_T 0 102 4 [some (.ref 0), some (.int x1), none] (r.toList ++ []) M1 Q)) : px_T 0 102 0 [some (.ref 0), some (.int x1), none] [] M Q := by
  obtain ⟨n, h⟩ := px_T_cl (k := 102) (pc := 1) (y := 153) (st := [.int x1]) rfl (h1)
  exact ⟨n + 2, h⟩
theorem sg_102_4 {x1 : Int32} {d2 : Option Value} {s0 : Int32} {M : px_Mem} {Q : px_Po} (h1 : (s0 = 0) → px_T 0 151 0 [some (.ref 0)] [] M (fun r M1 => px_T 0 102 11 [some (.ref 0), some (.int x1), d2] (r.toList ++ []) M1 Q)) (h2 : (¬ (s0 = 0)) → Q (some (.int (-2))) M) : px_T 0 102 4 [some (.ref 0), some (.int x1), d2] [.int s0] M Q := by
  by_cases c1 : s0 = 0
  · obtain ⟨n, h⟩ := px_T_cl (k := 102) (pc := 8) (y := 151) (st := [.ref 0]) rfl (h1 c1)
    exact ⟨n + 3, ⟨fun q => absurd c1 q, fun _ => ⟨rfl, h⟩⟩⟩
  · exact ⟨3, ⟨fun _ => ⟨trivial, h2 c1⟩, fun q => absurd q c1⟩⟩
theorem sg_102_11 {x1 : Int32} {d2 : Option Value} {s0 : Int32} {M : px_Mem} {Q : px_Po} (h1 : (s0 = 0) → px_T 0 164 0 [some (.ref 0), some (.int x1), some (.int 1), some (.int 0), none] [] M (fun r M1 => px_T 0 102 24 [some (.ref 0), some (.int x1), d2] (r.toList ++ []) M1 Q)) (h2 : (¬ (s0 = 0)) → Q (some (.int (-2))) M) : px_T 0 102 11 [some (.ref 0), some (.int x1), d2] [.int s0] M Q := by
  by_cases c1 : s0 = 0
  · obtain ⟨n, h⟩ := px_T_cl (k := 102) (pc := 21) (y := 164) (st := [.int 0, .int 1, .int x1, .ref 0]) rfl (h1 c1)
    exact ⟨n + 6, ⟨fun _ => ⟨rfl, h⟩, fun q => absurd c1 q⟩⟩
  · exact ⟨3, ⟨fun q => absurd q c1, fun _ => ⟨trivial, h2 c1⟩⟩⟩
theorem sg_102_24 {x1 : Int32} {d2 : Option Value} {s0 : Int32} {M : px_Mem} {Q : px_Po} (h1 : ((0 : Int32) ≤ s0) → px_T 0 164 0 [some (.ref 0), some (.int x1), some (.int 0), some (.int s0), none] [] M (fun r M1 => px_T 0 102 40 [some (.ref 0), some (.int x1), some (.int s0)] (r.toList ++ []) M1 Q)) (h2 : (¬ ((0 : Int32) ≤ s0)) → Q (some (.int (-1))) M) : px_T 0 102 24 [some (.ref 0), some (.int x1), d2] [.int s0] M Q := by
  by_cases c1 : (0 : Int32) ≤ s0
  · obtain ⟨n, h⟩ := px_T_cl (k := 102) (pc := 37) (y := 164) (st := [.int s0, .int 0, .int x1, .ref 0]) rfl (h1 c1)
    exact ⟨n + 8, ⟨fun _ => ⟨rfl, h⟩, fun q => absurd c1 q⟩⟩
  · exact ⟨6, ⟨fun q => absurd q c1, fun _ => ⟨trivial, h2 c1⟩⟩⟩
theorem sg_102_40 {d0 : Option Value} {d1 : Option Value} {d2 : Option Value} {s0 : Int32} {M : px_Mem} {Q : px_Po} (h1 : Q (some (.int s0)) M) : px_T 0 102 40 [d0, d1, d2] [.int s0] M Q := by
  exact ⟨1, ⟨trivial, h1⟩⟩
theorem sg_103_0 {x1 : Int32} {x2 : Int32} {x3 : Int32} {M : px_Mem} {Q : px_Po} (h1 : px_T 0 154 0 [some (.int x1), some (.int x2)] [] M (fun r M1 => px_T 0 103 5 [some (.ref 0), some (.int x1), some (.int x2), some (.int x3)] (r.toList ++ []) M1 Q)) : px_T 0 103 0 [some (.ref 0), some (.int x1), some (.int x2), some (.int x3)] [] M Q := by
  obtain ⟨n, h⟩ := px_T_cl (k := 103) (pc := 2) (y := 154) (st := [.int x2, .int x1]) rfl (h1)
  exact ⟨n + 3, h⟩
theorem sg_103_5 {x1 : Int32} {x2 : Int32} {x3 : Int32} {s0 : Int32} {M : px_Mem} {Q : px_Po} (h1 : (s0 = 0) → px_T 0 152 0 [some (.ref 0), some (.int x3)] [] M (fun r M1 => px_T 0 103 13 [some (.ref 0), some (.int x1), some (.int x2), some (.int x3)] (r.toList ++ []) M1 Q)) (h2 : (¬ (s0 = 0)) → Q (some (.int (-2))) M) : px_T 0 103 5 [some (.ref 0), some (.int x1), some (.int x2), some (.int x3)] [.int s0] M Q := by
  by_cases c1 : s0 = 0
  · obtain ⟨n, h⟩ := px_T_cl (k := 103) (pc := 10) (y := 152) (st := [.int x3, .ref 0]) rfl (h1 c1)
    exact ⟨n + 4, ⟨fun q => absurd c1 q, fun _ => ⟨rfl, h⟩⟩⟩
  · exact ⟨3, ⟨fun _ => ⟨trivial, h2 c1⟩, fun q => absurd q c1⟩⟩
theorem sg_103_13 {x1 : Int32} {x2 : Int32} {x3 : Int32} {s0 : Int32} {M : px_Mem} {Q : px_Po} (h1 : (s0 = 0) → px_T 0 11 0 [some (.ref 28), some (.int x3)] [] M (fun r M1 => px_T 0 103 27 [some (.ref 0), some (.int x1), some (.int x2), some (.int x3)] (r.toList ++ []) M1 Q)) (h2 : (¬ (s0 = 0)) → Q (some (.int (-2))) M) : px_T 0 103 13 [some (.ref 0), some (.int x1), some (.int x2), some (.int x3)] [.int s0] M Q := by
  by_cases c1 : s0 = 0
  · obtain ⟨n, h⟩ := px_T_cl (k := 103) (pc := 24) (y := 11) (st := [.int x3, .ref 28]) rfl (h1 c1)
    exact ⟨n + 5, ⟨fun _ => ⟨rfl, ⟨rfl, h⟩⟩, fun q => absurd c1 q⟩⟩
  · exact ⟨3, ⟨fun q => absurd q c1, fun _ => ⟨trivial, h2 c1⟩⟩⟩
theorem sg_103_27 {d0 : Option Value} {x1 : Int32} {x2 : Int32} {d3 : Option Value} {s0 : Nat} {M : px_Mem} {Q : px_Po} (h_s0 : px_isW s0) (h1 : px_T 0 68 0 [some (.ref s0), some (.int x1), some (.int x2), none] [] M (fun r M1 => px_T 0 103 32 [d0, some (.int x1), some (.int x2), d3] (r.toList ++ []) M1 Q)) : px_T 0 103 27 [d0, some (.int x1), some (.int x2), d3] [.ref s0] M Q := by
  rcases h_s0 with rfl | rfl
  · obtain ⟨n, h⟩ := px_T_cl (k := 103) (pc := 29) (y := 68) (st := [.int x2, .int x1, .ref 29]) rfl (h1)
    exact ⟨n + 3, ⟨rfl, h⟩⟩
  · obtain ⟨n, h⟩ := px_T_cl (k := 103) (pc := 29) (y := 68) (st := [.int x2, .int x1, .ref 47]) rfl (h1)
    exact ⟨n + 3, ⟨rfl, h⟩⟩
theorem sg_103_32 {d0 : Option Value} {d1 : Option Value} {d2 : Option Value} {d3 : Option Value} {s0 : Int32} {M : px_Mem} {Q : px_Po} (h1 : Q (some (.int s0)) M) : px_T 0 103 32 [d0, d1, d2, d3] [.int s0] M Q := by
  exact ⟨1, ⟨trivial, h1⟩⟩
theorem sg_104_0 {x1 : Int32} {x2 : Int32} {M : px_Mem} {Q : px_Po} (h1 : px_T 0 153 0 [some (.int x1)] [] M (fun r M1 => px_T 0 104 4 [some (.ref 0), some (.int x1), some (.int x2), none, none, none] (r.toList ++ []) M1 Q)) : px_T 0 104 0 [some (.ref 0), some (.int x1), some (.int x2), none, none, none] [] M Q := by
  obtain ⟨n, h⟩ := px_T_cl (k := 104) (pc := 1) (y := 153) (st := [.int x1]) rfl (h1)
  exact ⟨n + 2, h⟩
theorem sg_104_4 {x1 : Int32} {x2 : Int32} {d3 : Option Value} {d4 : Option Value} {d5 : Option Value} {s0 : Int32} {M : px_Mem} {Q : px_Po} (h1 : (s0 = 0) → px_T 0 152 0 [some (.ref 0), some (.int x2)] [] M (fun r M1 => px_T 0 104 12 [some (.ref 0), some (.int x1), some (.int x2), d3, d4, d5] (r.toList ++ []) M1 Q)) (h2 : (¬ (s0 = 0)) → Q (some (.int (-2))) M) : px_T 0 104 4 [some (.ref 0), some (.int x1), some (.int x2), d3, d4, d5] [.int s0] M Q := by
  by_cases c1 : s0 = 0
  · obtain ⟨n, h⟩ := px_T_cl (k := 104) (pc := 9) (y := 152) (st := [.int x2, .ref 0]) rfl (h1 c1)
    exact ⟨n + 4, ⟨fun q => absurd c1 q, fun _ => ⟨rfl, h⟩⟩⟩
  · exact ⟨3, ⟨fun _ => ⟨trivial, h2 c1⟩, fun q => absurd q c1⟩⟩
theorem sg_104_12 {x1 : Int32} {x2 : Int32} {d3 : Option Value} {d4 : Option Value} {d5 : Option Value} {s0 : Int32} {M : px_Mem} {Q : px_Po} (h1 : (s0 = 0) → px_T 0 11 0 [some (.ref 28), some (.int x2)] [] M (fun r M1 => px_T 0 104 26 [some (.ref 0), some (.int x1), some (.int x2), d3, d4, d5] (r.toList ++ []) M1 Q)) (h2 : (¬ (s0 = 0)) → Q (some (.int (-2))) M) : px_T 0 104 12 [some (.ref 0), some (.int x1), some (.int x2), d3, d4, d5] [.int s0] M Q := by
  by_cases c1 : s0 = 0
  · obtain ⟨n, h⟩ := px_T_cl (k := 104) (pc := 23) (y := 11) (st := [.int x2, .ref 28]) rfl (h1 c1)
    exact ⟨n + 5, ⟨fun _ => ⟨rfl, ⟨rfl, h⟩⟩, fun q => absurd c1 q⟩⟩
  · exact ⟨3, ⟨fun q => absurd q c1, fun _ => ⟨trivial, h2 c1⟩⟩⟩
theorem sg_104_26 {d0 : Option Value} {x1 : Int32} {d2 : Option Value} {d3 : Option Value} {d4 : Option Value} {d5 : Option Value} {s0 : Nat} {M : px_Mem} {Q : px_Po} (h_s0 : px_isW s0) (h1 : px_T 0 104 33 [d0, some (.int x1), d2, some (.ref s0), some (.int 0), some (.int 0)] [] M Q) : px_T 0 104 26 [d0, some (.int x1), d2, d3, d4, d5] [.ref s0] M Q := by
  rcases h_s0 with rfl | rfl
  · obtain ⟨n, h⟩ := h1
    exact ⟨n + 5, h⟩
  · obtain ⟨n, h⟩ := h1
    exact ⟨n + 5, h⟩
theorem sg_104_33 {d0 : Option Value} {x1 : Int32} {d2 : Option Value} {x3 : Nat} {x4 : Int32} {x5 : Int32} {M : px_Mem} {Q : px_Po} (h_x3 : px_isW x3) (h1 : ((8 : Int32) ≤ x5) → Q (some (.int x4)) M) (h2 : (¬ ((8 : Int32) ≤ x5)) → px_T 0 68 0 [some (.ref x3), some (.int x1), some (.int x5), none] [] M (fun r M1 => px_T 0 104 47 [d0, some (.int x1), d2, some (.ref x3), some (.int x4), some (.int x5)] (r.toList ++ []) M1 Q)) : px_T 0 104 33 [d0, some (.int x1), d2, some (.ref x3), some (.int x4), some (.int x5)] [] M Q := by
  rcases h_x3 with rfl | rfl
  · by_cases c1 : (8 : Int32) ≤ x5
    · exact ⟨5, ⟨fun _ => ⟨trivial, h1 c1⟩, fun q => absurd c1 q⟩⟩
    · obtain ⟨n, h⟩ := px_T_cl (k := 104) (pc := 44) (y := 68) (st := [.int x5, .int x1, .ref 29]) rfl (h2 c1)
      exact ⟨n + 7, ⟨fun q => absurd q c1, fun _ => ⟨rfl, h⟩⟩⟩
  · by_cases c1 : (8 : Int32) ≤ x5
    · exact ⟨5, ⟨fun _ => ⟨trivial, h1 c1⟩, fun q => absurd c1 q⟩⟩
    · obtain ⟨n, h⟩ := px_T_cl (k := 104) (pc := 44) (y := 68) (st := [.int x5, .int x1, .ref 47]) rfl (h2 c1)
      exact ⟨n + 7, ⟨fun q => absurd q c1, fun _ => ⟨rfl, h⟩⟩⟩
theorem sg_104_47 {d0 : Option Value} {x1 : Int32} {d2 : Option Value} {x3 : Nat} {x4 : Int32} {x5 : Int32} {s0 : Int32} {M : px_Mem} {Q : px_Po} (h_x3 : px_isW x3) (h1 : (s0 < 0) → px_T 0 104 33 [d0, some (.int x1), d2, some (.ref x3), some (.int x4), some (.int (x5 + 1))] [] M Q) (h2 : (¬ (s0 < 0)) → px_T 0 104 33 [d0, some (.int x1), d2, some (.ref x3), some (.int (x4 ||| (1 <<< (x5 &&& 31)))), some (.int (x5 + 1))] [] M Q) : px_T 0 104 47 [d0, some (.int x1), d2, some (.ref x3), some (.int x4), some (.int x5)] [.int s0] M Q := by
  rcases h_x3 with rfl | rfl
  · by_cases c1 : s0 < 0
    · obtain ⟨n, h⟩ := h1 c1
      exact ⟨n + 3, ⟨fun _ => h, fun q => absurd c1 q⟩⟩
    · obtain ⟨n, h⟩ := h2 c1
      exact ⟨n + 9, ⟨fun q => absurd q c1, fun _ => h⟩⟩
  · by_cases c1 : s0 < 0
    · obtain ⟨n, h⟩ := h1 c1
      exact ⟨n + 3, ⟨fun _ => h, fun q => absurd c1 q⟩⟩
    · obtain ⟨n, h⟩ := h2 c1
      exact ⟨n + 9, ⟨fun q => absurd q c1, fun _ => h⟩⟩
theorem sg_105_0 {x1 : Int32} {x2 : Int32} {M : px_Mem} {Q : px_Po} (h1 : px_T 0 155 0 [some (.int x1)] [] M (fun r M1 => px_T 0 105 4 [some (.ref 0), some (.int x1), some (.int x2)] (r.toList ++ []) M1 Q)) : px_T 0 105 0 [some (.ref 0), some (.int x1), some (.int x2)] [] M Q := by
  obtain ⟨n, h⟩ := px_T_cl (k := 105) (pc := 1) (y := 155) (st := [.int x1]) rfl (h1)
  exact ⟨n + 2, h⟩
theorem sg_105_4 {x1 : Int32} {x2 : Int32} {s0 : Int32} {M : px_Mem} {Q : px_Po} (h1 : (s0 = 0) → px_T 0 152 0 [some (.ref 0), some (.int x2)] [] M (fun r M1 => px_T 0 105 12 [some (.ref 0), some (.int x1), some (.int x2)] (r.toList ++ []) M1 Q)) (h2 : (¬ (s0 = 0)) → Q (some (.int (-2))) M) : px_T 0 105 4 [some (.ref 0), some (.int x1), some (.int x2)] [.int s0] M Q := by
  by_cases c1 : s0 = 0
  · obtain ⟨n, h⟩ := px_T_cl (k := 105) (pc := 9) (y := 152) (st := [.int x2, .ref 0]) rfl (h1 c1)
    exact ⟨n + 4, ⟨fun q => absurd c1 q, fun _ => ⟨rfl, h⟩⟩⟩
  · exact ⟨3, ⟨fun _ => ⟨trivial, h2 c1⟩, fun q => absurd q c1⟩⟩
theorem sg_105_12 {x1 : Int32} {x2 : Int32} {s0 : Int32} {M : px_Mem} {Q : px_Po} (h1 : (s0 = 0) → px_T 0 11 0 [some (.ref 28), some (.int x2)] [] M (fun r M1 => px_T 0 105 26 [some (.ref 0), some (.int x1), some (.int x2)] (r.toList ++ []) M1 Q)) (h2 : (¬ (s0 = 0)) → Q (some (.int (-2))) M) : px_T 0 105 12 [some (.ref 0), some (.int x1), some (.int x2)] [.int s0] M Q := by
  by_cases c1 : s0 = 0
  · obtain ⟨n, h⟩ := px_T_cl (k := 105) (pc := 23) (y := 11) (st := [.int x2, .ref 28]) rfl (h1 c1)
    exact ⟨n + 5, ⟨fun _ => ⟨rfl, ⟨rfl, h⟩⟩, fun q => absurd c1 q⟩⟩
  · exact ⟨3, ⟨fun q => absurd q c1, fun _ => ⟨trivial, h2 c1⟩⟩⟩
theorem sg_105_26 {d0 : Option Value} {x1 : Int32} {d2 : Option Value} {s0 : Nat} {M : px_Mem} {Q : px_Po} (h_s0 : px_isW s0) (h1 : vp_in x1 200) (h2 : Q (some (.int (M.1 (s0 + 6) x1.toNatClampNeg))) M) : px_T 0 105 26 [d0, some (.int x1), d2] [.ref s0] M Q := by
  rcases h_s0 with rfl | rfl
  · exact ⟨4, ⟨rfl, ⟨Or.inl ⟨0, 200, Or.inl rfl, rfl, h1⟩, ⟨trivial, h2⟩⟩⟩⟩
  · exact ⟨4, ⟨rfl, ⟨Or.inl ⟨0, 200, Or.inl rfl, rfl, h1⟩, ⟨trivial, h2⟩⟩⟩⟩
theorem sg_106_0 {x1 : Int32} {x2 : Int32} {M : px_Mem} {Q : px_Po} (h1 : px_T 0 155 0 [some (.int x1)] [] M (fun r M1 => px_T 0 106 4 [some (.ref 0), some (.int x1), some (.int x2), none] (r.toList ++ []) M1 Q)) : px_T 0 106 0 [some (.ref 0), some (.int x1), some (.int x2), none] [] M Q := by
  obtain ⟨n, h⟩ := px_T_cl (k := 106) (pc := 1) (y := 155) (st := [.int x1]) rfl (h1)
  exact ⟨n + 2, h⟩
theorem sg_106_4 {x1 : Int32} {x2 : Int32} {d3 : Option Value} {s0 : Int32} {M : px_Mem} {Q : px_Po} (h1 : (s0 = 0) → px_T 0 152 0 [some (.ref 0), some (.int x2)] [] M (fun r M1 => px_T 0 106 12 [some (.ref 0), some (.int x1), some (.int x2), d3] (r.toList ++ []) M1 Q)) (h2 : (¬ (s0 = 0)) → Q (some (.int (-2))) M) : px_T 0 106 4 [some (.ref 0), some (.int x1), some (.int x2), d3] [.int s0] M Q := by
  by_cases c1 : s0 = 0
  · obtain ⟨n, h⟩ := px_T_cl (k := 106) (pc := 9) (y := 152) (st := [.int x2, .ref 0]) rfl (h1 c1)
    exact ⟨n + 4, ⟨fun q => absurd c1 q, fun _ => ⟨rfl, h⟩⟩⟩
  · exact ⟨3, ⟨fun _ => ⟨trivial, h2 c1⟩, fun q => absurd q c1⟩⟩
theorem sg_106_12 {x1 : Int32} {x2 : Int32} {d3 : Option Value} {s0 : Int32} {M : px_Mem} {Q : px_Po} (h1 : (s0 = 0) → px_T 0 11 0 [some (.ref 28), some (.int x2)] [] M (fun r M1 => px_T 0 106 26 [some (.ref 0), some (.int x1), some (.int x2), d3] (r.toList ++ []) M1 Q)) (h2 : (¬ (s0 = 0)) → Q (some (.int (-2))) M) : px_T 0 106 12 [some (.ref 0), some (.int x1), some (.int x2), d3] [.int s0] M Q := by
  by_cases c1 : s0 = 0
  · obtain ⟨n, h⟩ := px_T_cl (k := 106) (pc := 23) (y := 11) (st := [.int x2, .ref 28]) rfl (h1 c1)
    exact ⟨n + 5, ⟨fun _ => ⟨rfl, ⟨rfl, h⟩⟩, fun q => absurd c1 q⟩⟩
  · exact ⟨3, ⟨fun q => absurd q c1, fun _ => ⟨trivial, h2 c1⟩⟩⟩
theorem sg_106_26 {d0 : Option Value} {x1 : Int32} {d2 : Option Value} {d3 : Option Value} {s0 : Nat} {M : px_Mem} {Q : px_Po} (h_s0 : px_isW s0) (h1 : ((M.1 s0 1) ≤ x1) → Q (some (.int (-1))) M) (h2 : (¬ ((M.1 s0 1) ≤ x1)) → vp_in x1 200) (h3 : (¬ ((M.1 s0 1) ≤ x1)) → Q (some (.int (M.1 (s0 + 5) x1.toNatClampNeg))) M) : px_T 0 106 26 [d0, some (.int x1), d2, d3] [.ref s0] M Q := by
  rcases h_s0 with rfl | rfl
  · by_cases c1 : (M.1 29 1) ≤ x1
    · exact ⟨7, ⟨rfl, ⟨fun _ => ⟨trivial, h1 c1⟩, fun q => absurd c1 q⟩⟩⟩
    · exact ⟨11, ⟨rfl, ⟨fun q => absurd q c1, fun _ => ⟨rfl, ⟨Or.inl ⟨0, 200, Or.inl rfl, rfl, (h2 c1)⟩, ⟨trivial, h3 c1⟩⟩⟩⟩⟩⟩
  · by_cases c1 : (M.1 47 1) ≤ x1
    · exact ⟨7, ⟨rfl, ⟨fun _ => ⟨trivial, h1 c1⟩, fun q => absurd c1 q⟩⟩⟩
    · exact ⟨11, ⟨rfl, ⟨fun q => absurd q c1, fun _ => ⟨rfl, ⟨Or.inl ⟨0, 200, Or.inl rfl, rfl, (h2 c1)⟩, ⟨trivial, h3 c1⟩⟩⟩⟩⟩⟩
theorem sg_107_0 {x1 : Int32} {M : px_Mem} {Q : px_Po} (h1 : px_T 0 152 0 [some (.ref 0), some (.int x1)] [] M (fun r M1 => px_T 0 107 5 [some (.ref 0), some (.int x1), none, none, none] (r.toList ++ []) M1 Q)) : px_T 0 107 0 [some (.ref 0), some (.int x1), none, none, none] [] M Q := by
  obtain ⟨n, h⟩ := px_T_cl (k := 107) (pc := 2) (y := 152) (st := [.int x1, .ref 0]) rfl (h1)
  exact ⟨n + 3, ⟨rfl, h⟩⟩
theorem sg_107_5 {x1 : Int32} {d2 : Option Value} {d3 : Option Value} {d4 : Option Value} {s0 : Int32} {M : px_Mem} {Q : px_Po} (h1 : (s0 = 0) → px_T 0 11 0 [some (.ref 28), some (.int x1)] [] M (fun r M1 => px_T 0 107 19 [some (.ref 0), some (.int x1), d2, d3, d4] (r.toList ++ []) M1 Q)) (h2 : (¬ (s0 = 0)) → Q (some (.int (-2))) M) : px_T 0 107 5 [some (.ref 0), some (.int x1), d2, d3, d4] [.int s0] M Q := by
  by_cases c1 : s0 = 0
  · obtain ⟨n, h⟩ := px_T_cl (k := 107) (pc := 16) (y := 11) (st := [.int x1, .ref 28]) rfl (h1 c1)
    exact ⟨n + 5, ⟨fun _ => ⟨rfl, ⟨rfl, h⟩⟩, fun q => absurd c1 q⟩⟩
  · exact ⟨3, ⟨fun q => absurd q c1, fun _ => ⟨trivial, h2 c1⟩⟩⟩
theorem sg_107_19 {d0 : Option Value} {d1 : Option Value} {d2 : Option Value} {d3 : Option Value} {d4 : Option Value} {s0 : Nat} {M : px_Mem} {Q : px_Po} (h_s0 : px_isW s0) (h1 : px_T 0 107 25 [d0, d1, some (.ref s0), some (.int 0), some (.int 0)] [] M Q) : px_T 0 107 19 [d0, d1, d2, d3, d4] [.ref s0] M Q := by
  rcases h_s0 with rfl | rfl
  · obtain ⟨n, h⟩ := h1
    exact ⟨n + 5, h⟩
  · obtain ⟨n, h⟩ := h1
    exact ⟨n + 5, h⟩
theorem sg_107_25 {d0 : Option Value} {d1 : Option Value} {x2 : Nat} {x3 : Int32} {x4 : Int32} {M : px_Mem} {Q : px_Po} (h_x2 : px_isW x2) (h1 : ((M.1 x2 1) ≤ x4) → Q (some (.int x3)) M) (h2 : (¬ ((M.1 x2 1) ≤ x4)) → vp_in x4 200) (h3 : (¬ ((M.1 x2 1) ≤ x4)) → ((M.1 (x2 + 6) x4.toNatClampNeg) ≤ 0) → px_T 0 107 25 [d0, d1, some (.ref x2), some (.int x3), some (.int (x4 + 1))] [] M Q) (h4 : (¬ ((M.1 x2 1) ≤ x4)) → (¬ ((M.1 (x2 + 6) x4.toNatClampNeg) ≤ 0)) → px_T 0 107 25 [d0, d1, some (.ref x2), some (.int (x3 + 1)), some (.int (x4 + 1))] [] M Q) : px_T 0 107 25 [d0, d1, some (.ref x2), some (.int x3), some (.int x4)] [] M Q := by
  rcases h_x2 with rfl | rfl
  · by_cases c1 : (M.1 29 1) ≤ x4
    · exact ⟨6, ⟨rfl, ⟨fun _ => ⟨trivial, h1 c1⟩, fun q => absurd c1 q⟩⟩⟩
    · by_cases c2 : (M.1 (29 + 6) x4.toNatClampNeg) ≤ 0
      · obtain ⟨n, h⟩ := h3 c1 c2
        exact ⟨n + 11, ⟨rfl, ⟨fun q => absurd q c1, fun _ => ⟨rfl, ⟨Or.inl ⟨0, 200, Or.inl rfl, rfl, (h2 c1)⟩, ⟨fun _ => h, fun q => absurd c2 q⟩⟩⟩⟩⟩⟩
      · obtain ⟨n, h⟩ := h4 c1 c2
        exact ⟨n + 12, ⟨rfl, ⟨fun q => absurd q c1, fun _ => ⟨rfl, ⟨Or.inl ⟨0, 200, Or.inl rfl, rfl, (h2 c1)⟩, ⟨fun q => absurd q c2, fun _ => h⟩⟩⟩⟩⟩⟩
  · by_cases c1 : (M.1 47 1) ≤ x4
    · exact ⟨6, ⟨rfl, ⟨fun _ => ⟨trivial, h1 c1⟩, fun q => absurd c1 q⟩⟩⟩
    · by_cases c2 : (M.1 (47 + 6) x4.toNatClampNeg) ≤ 0
      · obtain ⟨n, h⟩ := h3 c1 c2
        exact ⟨n + 11, ⟨rfl, ⟨fun q => absurd q c1, fun _ => ⟨rfl, ⟨Or.inl ⟨0, 200, Or.inl rfl, rfl, (h2 c1)⟩, ⟨fun _ => h, fun q => absurd c2 q⟩⟩⟩⟩⟩⟩
      · obtain ⟨n, h⟩ := h4 c1 c2
        exact ⟨n + 12, ⟨rfl, ⟨fun q => absurd q c1, fun _ => ⟨rfl, ⟨Or.inl ⟨0, 200, Or.inl rfl, rfl, (h2 c1)⟩, ⟨fun q => absurd q c2, fun _ => h⟩⟩⟩⟩⟩⟩
