theorem sg_139_0 {x1 : Int32} {x2 : Int32} {M : px_Mem} {Q : px_Po} (h1 : px_T 0 160 0 [some (.ref 0), some (.int x1), some (.int x2)] [] M (fun r M1 => px_T 0 139 6 [some (.ref 0), some (.int x1), some (.int x2)] (r.toList ++ []) M1 Q)) : px_T 0 139 0 [some (.ref 0), some (.int x1), some (.int x2)] [] M Q := by
  obtain ⟨n, h⟩ := px_T_cl (k := 139) (pc := 3) (y := 160) (st := [.int x2, .int x1, .ref 0]) rfl (h1)
  exact ⟨n + 4, ⟨rfl, h⟩⟩
theorem sg_139_6 {x1 : Int32} {x2 : Int32} {s0 : Int32} {M : px_Mem} {Q : px_Po} (h1 : (s0 = 0) → px_T 0 171 0 [some (.ref 0), some (.int x1), some (.int 32767), none, none, none, none, none, none, none] [] M (fun r M1 => px_T 0 139 21 [some (.ref 0), some (.int x1), some (.int x2)] (r.toList ++ []) M1 Q)) (h2 : (¬ (s0 = 0)) → Q (some (.long (-2))) M) : px_T 0 139 6 [some (.ref 0), some (.int x1), some (.int x2)] [.int s0] M Q := by
  by_cases c1 : s0 = 0
  · obtain ⟨n, h⟩ := px_T_cl (k := 139) (pc := 18) (y := 171) (st := [.int 32767, .int x1, .ref 0]) rfl (h1 c1)
    exact ⟨n + 5, ⟨fun _ => ⟨rfl, h⟩, fun q => absurd c1 q⟩⟩
  · exact ⟨3, ⟨fun q => absurd q c1, fun _ => ⟨rfl, h2 c1⟩⟩⟩
theorem sg_139_21 {d0 : Option Value} {x1 : Int32} {x2 : Int32} {s0 : Int64} {M : px_Mem} {Q : px_Po} (h1 : px_T 0 172 0 [some (.int x1), none, none, none] [] M (fun r M1 => px_T 0 139 25 [d0, some (.int x1), some (.int x2)] (r.toList ++ [.long s0]) M1 Q)) : px_T 0 139 21 [d0, some (.int x1), some (.int x2)] [.long s0] M Q := by
  obtain ⟨n, h⟩ := px_T_cl (k := 139) (pc := 22) (y := 172) (st := [.int x1, .long s0]) rfl (h1)
  exact ⟨n + 2, h⟩
theorem sg_139_25 {d0 : Option Value} {d1 : Option Value} {x2 : Int32} {s0 : Int64} {s1 : Int64} {M : px_Mem} {Q : px_Po} (h1 : px_T 0 173 0 [some (.long s1), none, some (.long s0), none, some (.int x2), none, none, none, none, none, none, none] [] M (fun r M1 => px_T 0 139 29 [d0, d1, some (.int x2)] (r.toList ++ []) M1 Q)) : px_T 0 139 25 [d0, d1, some (.int x2)] [.long s0, .long s1] M Q := by
  obtain ⟨n, h⟩ := px_T_cl (k := 139) (pc := 26) (y := 173) (st := [.int x2, .long s0, .long s1]) rfl (h1)
  exact ⟨n + 2, h⟩
theorem sg_139_29 {d0 : Option Value} {d1 : Option Value} {d2 : Option Value} {s0 : Int64} {M : px_Mem} {Q : px_Po} (h1 : Q (some (.long s0)) M) : px_T 0 139 29 [d0, d1, d2] [.long s0] M Q := by
  exact ⟨1, ⟨rfl, h1⟩⟩
theorem sg_140_0 {x1 : Int32} {x2 : Int32} {x3 : Int32} {x4 : Int32} {M : px_Mem} {Q : px_Po} (h1 : px_T 0 151 0 [some (.ref 0)] [] M (fun r M1 => px_T 0 140 4 [some (.ref 0), some (.int x1), some (.int x2), some (.int x3), some (.int x4)] (r.toList ++ []) M1 Q)) : px_T 0 140 0 [some (.ref 0), some (.int x1), some (.int x2), some (.int x3), some (.int x4)] [] M Q := by
  obtain ⟨n, h⟩ := px_T_cl (k := 140) (pc := 1) (y := 151) (st := [.ref 0]) rfl (h1)
  exact ⟨n + 2, ⟨rfl, h⟩⟩
theorem sg_140_4 {x1 : Int32} {x2 : Int32} {x3 : Int32} {x4 : Int32} {s0 : Int32} {M : px_Mem} {Q : px_Po} (h1 : (s0 = 0) → (x1 < 0) → Q (some (.int (-2))) M) (h2 : (s0 = 0) → (¬ (x1 < 0)) → (x1 < 10) → px_T 0 8 0 [some (.int x1), some (.int 1), some (.int x2)] [] M (fun r M1 => px_T 0 140 26 [some (.ref 0), some (.int x1), some (.int x2), some (.int x3), some (.int x4)] (r.toList ++ []) M1 Q)) (h3 : (s0 = 0) → (¬ (x1 < 0)) → (¬ (x1 < 10)) → Q (some (.int (-2))) M) (h4 : (¬ (s0 = 0)) → Q (some (.int (-2))) M) : px_T 0 140 4 [some (.ref 0), some (.int x1), some (.int x2), some (.int x3), some (.int x4)] [.int s0] M Q := by
  by_cases c1 : s0 = 0
  · by_cases c2 : x1 < 0
    · exact ⟨5, ⟨fun q => absurd c1 q, fun _ => ⟨fun _ => ⟨trivial, h1 c1 c2⟩, fun q => absurd c2 q⟩⟩⟩
    · by_cases c3 : x1 < 10
      · obtain ⟨n, h⟩ := px_T_cl (k := 140) (pc := 23) (y := 8) (st := [.int x2, .int 1, .int x1]) rfl (h2 c1 c2 c3)
        exact ⟨n + 10, ⟨fun q => absurd c1 q, fun _ => ⟨fun q => absurd q c2, fun _ => ⟨fun _ => h, fun q => absurd c3 q⟩⟩⟩⟩
      · exact ⟨8, ⟨fun q => absurd c1 q, fun _ => ⟨fun q => absurd q c2, fun _ => ⟨fun q => absurd q c3, fun _ => ⟨trivial, h3 c1 c2 c3⟩⟩⟩⟩⟩
  · exact ⟨3, ⟨fun _ => ⟨trivial, h4 c1⟩, fun q => absurd q c1⟩⟩
theorem sg_140_26 {x1 : Int32} {x2 : Int32} {x3 : Int32} {x4 : Int32} {s0 : Int32} {M : px_Mem} {Q : px_Po} (h1 : (s0 = 0) → Q (some (.int (-2))) M) (h2 : (¬ (s0 = 0)) → px_T 0 8 0 [some (.int x1), some (.int 2), some (.int x3)] [] M (fun r M1 => px_T 0 140 35 [some (.ref 0), some (.int x1), some (.int x2), some (.int x3), some (.int x4)] (r.toList ++ []) M1 Q)) : px_T 0 140 26 [some (.ref 0), some (.int x1), some (.int x2), some (.int x3), some (.int x4)] [.int s0] M Q := by
  by_cases c1 : s0 = 0
  · exact ⟨3, ⟨fun _ => ⟨trivial, h1 c1⟩, fun q => absurd c1 q⟩⟩
  · obtain ⟨n, h⟩ := px_T_cl (k := 140) (pc := 32) (y := 8) (st := [.int x3, .int 2, .int x1]) rfl (h2 c1)
    exact ⟨n + 5, ⟨fun q => absurd q c1, fun _ => h⟩⟩
theorem sg_140_35 {x1 : Int32} {x2 : Int32} {x3 : Int32} {x4 : Int32} {s0 : Int32} {M : px_Mem} {Q : px_Po} (h1 : (s0 = 0) → Q (some (.int (-2))) M) (h2 : (¬ (s0 = 0)) → px_T 0 8 0 [some (.int x1), some (.int 3), some (.int x4)] [] M (fun r M1 => px_T 0 140 45 [some (.ref 0), some (.int x1), some (.int x2), some (.int x3), some (.int x4)] (r.toList ++ []) M1 Q)) : px_T 0 140 35 [some (.ref 0), some (.int x1), some (.int x2), some (.int x3), some (.int x4)] [.int s0] M Q := by
  by_cases c1 : s0 = 0
  · exact ⟨3, ⟨fun _ => ⟨trivial, h1 c1⟩, fun q => absurd c1 q⟩⟩
  · obtain ⟨n, h⟩ := px_T_cl (k := 140) (pc := 42) (y := 8) (st := [.int x4, .int 3, .int x1]) rfl (h2 c1)
    exact ⟨n + 5, ⟨fun q => absurd q c1, fun _ => h⟩⟩
theorem sg_140_45 {x1 : Int32} {x2 : Int32} {x3 : Int32} {x4 : Int32} {s0 : Int32} {M : px_Mem} {Q : px_Po} (h1 : (s0 = 0) → Q (some (.int (-2))) M) (h2 : (¬ (s0 = 0)) → ((M.1 4 5) < 30) → px_T 0 0 0 [some (.int x1), some (.int x2), some (.int x3), some (.int x4)] [] M (fun r M1 => px_T 0 140 78 [some (.ref 0), some (.int x1), some (.int x2), some (.int x3), some (.int x4)] (r.toList ++ [.ref 4]) M1 Q)) (h3 : (¬ (s0 = 0)) → (¬ ((M.1 4 5) < 30)) → Q (some (.int (-5))) M) : px_T 0 140 45 [some (.ref 0), some (.int x1), some (.int x2), some (.int x3), some (.int x4)] [.int s0] M Q := by
  by_cases c1 : s0 = 0
  · exact ⟨3, ⟨fun q => absurd c1 q, fun _ => ⟨trivial, h1 c1⟩⟩⟩
  · by_cases c2 : (M.1 4 5) < 30
    · obtain ⟨n, h⟩ := px_T_cl (k := 140) (pc := 75) (y := 0) (st := [.int x4, .int x3, .int x2, .int x1, .ref 4]) rfl (h2 c1 c2)
      exact ⟨n + 13, ⟨fun _ => ⟨rfl, ⟨rfl, ⟨fun _ => ⟨rfl, h⟩, fun q => absurd c2 q⟩⟩⟩, fun q => absurd q c1⟩⟩
    · exact ⟨8, ⟨fun _ => ⟨rfl, ⟨rfl, ⟨fun q => absurd q c2, fun _ => ⟨trivial, h3 c1 c2⟩⟩⟩⟩, fun q => absurd q c1⟩⟩
theorem sg_140_78 {d1 : Option Value} {d2 : Option Value} {d3 : Option Value} {d4 : Option Value} {s0 : Int32} {M : px_Mem} {Q : px_Po} (h1 : px_T 0 55 0 [some (.ref 4), some (.int s0)] [] M (fun r M1 => px_T 0 140 81 [some (.ref 0), d1, d2, d3, d4] (r.toList ++ []) M1 Q)) : px_T 0 140 78 [some (.ref 0), d1, d2, d3, d4] [.int s0, .ref 4] M Q := by
  obtain ⟨n, h⟩ := px_T_cl (k := 140) (pc := 78) (y := 55) (st := [.int s0, .ref 4]) rfl (h1)
  exact ⟨n + 1, ⟨rfl, h⟩⟩
theorem sg_140_81 {d1 : Option Value} {d2 : Option Value} {d3 : Option Value} {d4 : Option Value} {M : px_Mem} {Q : px_Po} (h1 : px_T 0 53 0 [some (.ref 4)] [] (px_wI M 4 5 ((M.1 4 5) + 1)) (fun r M1 => px_T 0 140 105 [some (.ref 0), d1, d2, d3, d4] (r.toList ++ [.ref 28]) M1 Q)) : px_T 0 140 81 [some (.ref 0), d1, d2, d3, d4] [] M Q := by
  obtain ⟨n, h⟩ := px_T_cl (k := 140) (pc := 102) (y := 53) (st := [.ref 4, .ref 28]) rfl (h1)
  exact ⟨n + 12, ⟨rfl, ⟨rfl, ⟨rfl, ⟨rfl, ⟨rfl, ⟨rfl, h⟩⟩⟩⟩⟩⟩⟩
theorem sg_140_105 {d0 : Option Value} {d1 : Option Value} {d2 : Option Value} {d3 : Option Value} {d4 : Option Value} {s0 : Int32} {M : px_Mem} {Q : px_Po} (h1 : px_T 0 12 0 [some (.ref 28), some (.int (s0 - 1))] [] M (fun r M1 => px_T 0 140 110 [d0, d1, d2, d3, d4] (r.toList ++ []) M1 Q)) : px_T 0 140 105 [d0, d1, d2, d3, d4] [.int s0, .ref 28] M Q := by
  obtain ⟨n, h⟩ := px_T_cl (k := 140) (pc := 107) (y := 12) (st := [.int (s0 - 1), .ref 28]) rfl (h1)
  exact ⟨n + 3, ⟨rfl, h⟩⟩
theorem sg_140_110 {d0 : Option Value} {d1 : Option Value} {d2 : Option Value} {d3 : Option Value} {d4 : Option Value} {s0 : Int32} {M : px_Mem} {Q : px_Po} (h1 : Q (some (.int s0)) M) : px_T 0 140 110 [d0, d1, d2, d3, d4] [.int s0] M Q := by
  exact ⟨1, ⟨trivial, h1⟩⟩
theorem sg_141_0 {M : px_Mem} {Q : px_Po} (h1 : px_T 0 151 0 [some (.ref 0)] [] M (fun r M1 => px_T 0 141 4 [some (.ref 0)] (r.toList ++ []) M1 Q)) : px_T 0 141 0 [some (.ref 0)] [] M Q := by
  obtain ⟨n, h⟩ := px_T_cl (k := 141) (pc := 1) (y := 151) (st := [.ref 0]) rfl (h1)
  exact ⟨n + 2, ⟨rfl, h⟩⟩
theorem sg_141_4 {s0 : Int32} {M : px_Mem} {Q : px_Po} (h1 : (s0 = 0) → ((M.1 4 5) = 0) → Q (some (.int (-5))) M) (h2 : (s0 = 0) → (¬ ((M.1 4 5) = 0)) → px_T 0 163 0 [some (.ref 0)] [] (px_wI M 4 5 ((M.1 4 5) - 1)) (fun r M1 => px_T 0 141 40 [some (.ref 0)] (r.toList ++ []) M1 Q)) (h3 : (¬ (s0 = 0)) → Q (some (.int (-2))) M) : px_T 0 141 4 [some (.ref 0)] [.int s0] M Q := by
  by_cases c1 : s0 = 0
  · by_cases c2 : (M.1 4 5) = 0
    · exact ⟨7, ⟨fun _ => ⟨rfl, ⟨rfl, ⟨fun q => absurd c2 q, fun _ => ⟨trivial, h1 c1 c2⟩⟩⟩⟩, fun q => absurd c1 q⟩⟩
    · obtain ⟨n, h⟩ := px_T_cl (k := 141) (pc := 37) (y := 163) (st := [.ref 0]) rfl (h2 c1 c2)
      exact ⟨n + 14, ⟨fun _ => ⟨rfl, ⟨rfl, ⟨fun _ => ⟨rfl, ⟨rfl, ⟨rfl, ⟨rfl, h⟩⟩⟩⟩, fun q => absurd q c2⟩⟩⟩, fun q => absurd c1 q⟩⟩
  · exact ⟨3, ⟨fun q => absurd q c1, fun _ => ⟨trivial, h3 c1⟩⟩⟩
theorem sg_141_40 {M : px_Mem} {Q : px_Po} (h1 : Q (some (.int (M.1 4 5))) M) : px_T 0 141 40 [some (.ref 0)] [] M Q := by
  exact ⟨4, ⟨rfl, ⟨rfl, ⟨trivial, h1⟩⟩⟩⟩
theorem sg_142_0 {M : px_Mem} {Q : px_Po} (h1 : px_T 0 151 0 [some (.ref 0)] [] M (fun r M1 => px_T 0 142 4 [some (.ref 0), none] (r.toList ++ []) M1 Q)) : px_T 0 142 0 [some (.ref 0), none] [] M Q := by
  obtain ⟨n, h⟩ := px_T_cl (k := 142) (pc := 1) (y := 151) (st := [.ref 0]) rfl (h1)
  exact ⟨n + 2, ⟨rfl, h⟩⟩
theorem sg_142_4 {d1 : Option Value} {s0 : Int32} {M : px_Mem} {Q : px_Po} (h1 : (s0 = 0) → px_T 0 163 0 [some (.ref 0)] [] (px_wI M 4 5 0) (fun r M1 => px_T 0 142 30 [some (.ref 0), some (.int (M.1 4 5))] (r.toList ++ []) M1 Q)) (h2 : (¬ (s0 = 0)) → Q (some (.int (-2))) M) : px_T 0 142 4 [some (.ref 0), d1] [.int s0] M Q := by
  by_cases c1 : s0 = 0
  · obtain ⟨n, h⟩ := px_T_cl (k := 142) (pc := 27) (y := 163) (st := [.ref 0]) rfl (h1 c1)
    exact ⟨n + 11, ⟨fun _ => ⟨rfl, ⟨rfl, ⟨rfl, ⟨rfl, ⟨rfl, h⟩⟩⟩⟩⟩, fun q => absurd c1 q⟩⟩
  · exact ⟨3, ⟨fun q => absurd q c1, fun _ => ⟨trivial, h2 c1⟩⟩⟩
theorem sg_142_30 {d0 : Option Value} {x1 : Int32} {M : px_Mem} {Q : px_Po} (h1 : Q (some (.int x1)) M) : px_T 0 142 30 [d0, some (.int x1)] [] M Q := by
  exact ⟨2, ⟨trivial, h1⟩⟩
theorem sg_143_0 {x1 : Int32} {x2 : Int32} {M : px_Mem} {Q : px_Po} (h1 : px_T 0 157 0 [some (.int x1)] [] M (fun r M1 => px_T 0 143 4 [some (.ref 0), some (.int x1), some (.int x2), none] (r.toList ++ []) M1 Q)) : px_T 0 143 0 [some (.ref 0), some (.int x1), some (.int x2), none] [] M Q := by
  obtain ⟨n, h⟩ := px_T_cl (k := 143) (pc := 1) (y := 157) (st := [.int x1]) rfl (h1)
  exact ⟨n + 2, h⟩
theorem sg_143_4 {x1 : Int32} {x2 : Int32} {d3 : Option Value} {s0 : Int32} {M : px_Mem} {Q : px_Po} (h1 : (s0 = 0) → (x2 < 0) → Q (some (.int (-2))) M) (h2 : (s0 = 0) → (¬ (x2 < 0)) → ((1 : Int32) < x2) → Q (some (.int (-2))) M) (h3 : (s0 = 0) → (¬ (x2 < 0)) → (¬ ((1 : Int32) < x2)) → px_T 0 151 0 [some (.ref 0)] [] M (fun r M1 => px_T 0 143 20 [some (.ref 0), some (.int x1), some (.int x2), d3] (r.toList ++ []) M1 Q)) (h4 : (¬ (s0 = 0)) → Q (some (.int (-2))) M) : px_T 0 143 4 [some (.ref 0), some (.int x1), some (.int x2), d3] [.int s0] M Q := by
  by_cases c1 : s0 = 0
  · by_cases c2 : x2 < 0
    · exact ⟨5, ⟨fun q => absurd c1 q, fun _ => ⟨fun _ => ⟨trivial, h1 c1 c2⟩, fun q => absurd c2 q⟩⟩⟩
    · by_cases c3 : (1 : Int32) < x2
      · exact ⟨8, ⟨fun q => absurd c1 q, fun _ => ⟨fun q => absurd q c2, fun _ => ⟨fun _ => ⟨trivial, h2 c1 c2 c3⟩, fun q => absurd c3 q⟩⟩⟩⟩
      · obtain ⟨n, h⟩ := px_T_cl (k := 143) (pc := 17) (y := 151) (st := [.ref 0]) rfl (h3 c1 c2 c3)
        exact ⟨n + 8, ⟨fun q => absurd c1 q, fun _ => ⟨fun q => absurd q c2, fun _ => ⟨fun q => absurd q c3, fun _ => ⟨rfl, h⟩⟩⟩⟩⟩
  · exact ⟨3, ⟨fun _ => ⟨trivial, h4 c1⟩, fun q => absurd q c1⟩⟩
theorem sg_143_20 {x1 : Int32} {x2 : Int32} {d3 : Option Value} {s0 : Int32} {M : px_Mem} {Q : px_Po} (h1 : (s0 = 0) → px_T 0 174 0 [some (.ref 0), some (.long x1.toInt64), none, none, none, none, none] [] M (fun r M1 => px_T 0 143 32 [some (.ref 0), some (.int x1), some (.int x2), d3] (r.toList ++ []) M1 Q)) (h2 : (¬ (s0 = 0)) → Q (some (.int (-2))) M) : px_T 0 143 20 [some (.ref 0), some (.int x1), some (.int x2), d3] [.int s0] M Q := by
  by_cases c1 : s0 = 0
  · obtain ⟨n, h⟩ := px_T_cl (k := 143) (pc := 29) (y := 174) (st := [.long x1.toInt64, .ref 0]) rfl (h1 c1)
    exact ⟨n + 5, ⟨fun _ => ⟨rfl, h⟩, fun q => absurd c1 q⟩⟩
  · exact ⟨3, ⟨fun q => absurd q c1, fun _ => ⟨trivial, h2 c1⟩⟩⟩
theorem sg_143_32 {d1 : Option Value} {x2 : Int32} {d3 : Option Value} {s0 : Int32} {M : px_Mem} {Q : px_Po} (h1 : (x2 = 0) → Q (some (.int s0)) M) (h2 : (¬ (x2 = 0)) → px_T 0 332 0 [some (.int (M.1 47 0))] [] M (fun r M1 => px_T 0 143 51 [some (.ref 0), d1, some (.int x2), some (.int s0)] (r.toList ++ []) M1 Q)) : px_T 0 143 32 [some (.ref 0), d1, some (.int x2), d3] [.int s0] M Q := by
  by_cases c1 : x2 = 0
  · exact ⟨6, ⟨fun q => absurd c1 q, fun _ => ⟨trivial, h1 c1⟩⟩⟩
  · obtain ⟨n, h⟩ := px_T_cl (k := 143) (pc := 48) (y := 332) (st := [.int (M.1 47 0)]) rfl (h2 c1)
    exact ⟨n + 7, ⟨fun _ => ⟨rfl, ⟨rfl, h⟩⟩, fun q => absurd q c1⟩⟩
theorem sg_143_51 {d0 : Option Value} {d1 : Option Value} {d2 : Option Value} {d3 : Option Value} {s0 : Int32} {M : px_Mem} {Q : px_Po} (h1 : Q (some (.int s0)) M) : px_T 0 143 51 [d0, d1, d2, d3] [.int s0] M Q := by
  exact ⟨1, ⟨trivial, h1⟩⟩
theorem sg_144_0 {x1 : Int32} {x2 : Int32} {x3 : Int32} {M : px_Mem} {Q : px_Po} (h1 : px_T 0 157 0 [some (.int x1)] [] M (fun r M1 => px_T 0 144 4 [some (.ref 0), some (.int x1), some (.int x2), some (.int x3), none, none] (r.toList ++ []) M1 Q)) : px_T 0 144 0 [some (.ref 0), some (.int x1), some (.int x2), some (.int x3), none, none] [] M Q := by
  obtain ⟨n, h⟩ := px_T_cl (k := 144) (pc := 1) (y := 157) (st := [.int x1]) rfl (h1)
  exact ⟨n + 2, h⟩
theorem sg_144_4 {x1 : Int32} {x2 : Int32} {x3 : Int32} {d4 : Option Value} {d5 : Option Value} {s0 : Int32} {M : px_Mem} {Q : px_Po} (h1 : (s0 = 0) → (x2 < 1) → Q (some (.int (-2))) M) (h2 : (s0 = 0) → (¬ (x2 < 1)) → ((20 : Int32) < x2) → Q (some (.int (-2))) M) (h3 : (s0 = 0) → (¬ (x2 < 1)) → (¬ ((20 : Int32) < x2)) → px_T 0 153 0 [some (.int x3)] [] M (fun r M1 => px_T 0 144 22 [some (.ref 0), some (.int x1), some (.int x2), some (.int x3), d4, d5] (r.toList ++ []) M1 Q)) (h4 : (¬ (s0 = 0)) → Q (some (.int (-2))) M) : px_T 0 144 4 [some (.ref 0), some (.int x1), some (.int x2), some (.int x3), d4, d5] [.int s0] M Q := by
  by_cases c1 : s0 = 0
  · by_cases c2 : x2 < 1
    · exact ⟨6, ⟨fun q => absurd c1 q, fun _ => ⟨fun _ => ⟨trivial, h1 c1 c2⟩, fun q => absurd c2 q⟩⟩⟩
    · by_cases c3 : (20 : Int32) < x2
      · exact ⟨9, ⟨fun q => absurd c1 q, fun _ => ⟨fun q => absurd q c2, fun _ => ⟨fun _ => ⟨trivial, h2 c1 c2 c3⟩, fun q => absurd c3 q⟩⟩⟩⟩
      · obtain ⟨n, h⟩ := px_T_cl (k := 144) (pc := 19) (y := 153) (st := [.int x3]) rfl (h3 c1 c2 c3)
        exact ⟨n + 9, ⟨fun q => absurd c1 q, fun _ => ⟨fun q => absurd q c2, fun _ => ⟨fun q => absurd q c3, fun _ => h⟩⟩⟩⟩
  · exact ⟨3, ⟨fun _ => ⟨trivial, h4 c1⟩, fun q => absurd q c1⟩⟩
theorem sg_144_22 {x1 : Int32} {x2 : Int32} {x3 : Int32} {d4 : Option Value} {d5 : Option Value} {s0 : Int32} {M : px_Mem} {Q : px_Po} (h1 : (s0 = 0) → px_T 0 151 0 [some (.ref 0)] [] M (fun r M1 => px_T 0 144 29 [some (.ref 0), some (.int x1), some (.int x2), some (.int x3), d4, d5] (r.toList ++ []) M1 Q)) (h2 : (¬ (s0 = 0)) → Q (some (.int (-2))) M) : px_T 0 144 22 [some (.ref 0), some (.int x1), some (.int x2), some (.int x3), d4, d5] [.int s0] M Q := by
  by_cases c1 : s0 = 0
  · obtain ⟨n, h⟩ := px_T_cl (k := 144) (pc := 26) (y := 151) (st := [.ref 0]) rfl (h1 c1)
    exact ⟨n + 3, ⟨fun q => absurd c1 q, fun _ => ⟨rfl, h⟩⟩⟩
  · exact ⟨3, ⟨fun _ => ⟨trivial, h2 c1⟩, fun q => absurd q c1⟩⟩
theorem sg_144_29 {x1 : Int32} {x2 : Int32} {x3 : Int32} {d4 : Option Value} {d5 : Option Value} {s0 : Int32} {M : px_Mem} {Q : px_Po} (h1 : (s0 = 0) → px_T 0 144 41 [some (.ref 0), some (.int x1), some (.int x2), some (.int x3), some (.int 0), some (.int 0)] [] M Q) (h2 : (¬ (s0 = 0)) → Q (some (.int (-2))) M) : px_T 0 144 29 [some (.ref 0), some (.int x1), some (.int x2), some (.int x3), d4, d5] [.int s0] M Q := by
  by_cases c1 : s0 = 0
  · obtain ⟨n, h⟩ := h1 c1
    exact ⟨n + 5, ⟨fun _ => h, fun q => absurd c1 q⟩⟩
  · exact ⟨3, ⟨fun q => absurd q c1, fun _ => ⟨trivial, h2 c1⟩⟩⟩
theorem sg_144_41 {x1 : Int32} {x2 : Int32} {x3 : Int32} {x4 : Int32} {x5 : Int32} {M : px_Mem} {Q : px_Po} (h1 : (x2 ≤ x5) → Q (some (.int x4)) M) (h2 : (¬ (x2 ≤ x5)) → px_T 0 174 0 [some (.ref 0), some (.long (x1.toInt64 + x5.toInt64)), none, none, none, none, none] [] M (fun r M1 => px_T 0 144 57 [some (.ref 0), some (.int x1), some (.int x2), some (.int x3), some (.int x4), some (.int x5)] (r.toList ++ []) M1 Q)) : px_T 0 144 41 [some (.ref 0), some (.int x1), some (.int x2), some (.int x3), some (.int x4), some (.int x5)] [] M Q := by
  by_cases c1 : x2 ≤ x5
  · exact ⟨5, ⟨fun _ => ⟨trivial, h1 c1⟩, fun q => absurd c1 q⟩⟩
  · obtain ⟨n, h⟩ := px_T_cl (k := 144) (pc := 54) (y := 174) (st := [.long (x1.toInt64 + x5.toInt64), .ref 0]) rfl (h2 c1)
    exact ⟨n + 10, ⟨fun q => absurd q c1, fun _ => ⟨rfl, h⟩⟩⟩
theorem sg_144_57 {x1 : Int32} {x2 : Int32} {x3 : Int32} {x4 : Int32} {x5 : Int32} {s0 : Int32} {M : px_Mem} {Q : px_Po} (h1 : px_T 0 63 0 [some (.ref 47), some (.int x3)] [] M (fun r M1 => px_T 0 144 66 [some (.ref 0), some (.int x1), some (.int x2), some (.int x3), some (.int x4), some (.int x5)] (r.toList ++ []) M1 Q)) : px_T 0 144 57 [some (.ref 0), some (.int x1), some (.int x2), some (.int x3), some (.int x4), some (.int x5)] [.int s0] M Q := by
  obtain ⟨n, h⟩ := px_T_cl (k := 144) (pc := 63) (y := 63) (st := [.int x3, .ref 47]) rfl (h1)
  exact ⟨n + 5, ⟨rfl, ⟨rfl, h⟩⟩⟩
theorem sg_144_66 {x1 : Int32} {x2 : Int32} {x3 : Int32} {x4 : Int32} {x5 : Int32} {s0 : Int32} {M : px_Mem} {Q : px_Po} (h1 : (s0 = 0) → px_T 0 144 41 [some (.ref 0), some (.int x1), some (.int x2), some (.int x3), some (.int x4), some (.int (x5 + 1))] [] M Q) (h2 : (¬ (s0 = 0)) → px_T 0 144 41 [some (.ref 0), some (.int x1), some (.int x2), some (.int x3), some (.int (x4 + 1)), some (.int (x5 + 1))] [] M Q) : px_T 0 144 66 [some (.ref 0), some (.int x1), some (.int x2), some (.int x3), some (.int x4), some (.int x5)] [.int s0] M Q := by
  by_cases c1 : s0 = 0
  · obtain ⟨n, h⟩ := h1 c1
    exact ⟨n + 3, ⟨fun _ => h, fun q => absurd c1 q⟩⟩
  · obtain ⟨n, h⟩ := h2 c1
    exact ⟨n + 4, ⟨fun q => absurd q c1, fun _ => h⟩⟩
theorem sg_145_0 {x1 : Int32} {M : px_Mem} {Q : px_Po} (h1 : px_T 0 145 1 [some (.ref 0), some (.int x1)] [.int x1] M Q) : px_T 0 145 0 [some (.ref 0), some (.int x1)] [] M Q := by
  obtain ⟨n, h⟩ := h1
  exact ⟨n + 1, h⟩
theorem sg_145_1 {d1 : Option Value} {s0 : Int32} {M : px_Mem} {Q : px_Po} (h1 : (s0 = 0) → px_T 0 145 44 [some (.ref 0), d1] [] M Q) (h2 : (s0 = 1) → px_T 0 145 52 [some (.ref 0), d1] [] M Q) (h3 : (s0 = 2) → px_T 0 145 60 [some (.ref 0), d1] [] M Q) (h4 : (s0 = 3) → px_T 0 145 68 [some (.ref 0), d1] [] M Q) (h5 : (s0 = 4) → px_T 0 145 76 [some (.ref 0), d1] [] M Q) (h6 : (s0 = 5) → px_T 0 145 84 [some (.ref 0), d1] [] M Q) (h7 : (s0 = 6) → px_T 0 145 92 [some (.ref 0), d1] [] M Q) (h8 : (¬ s0 = 0) → (¬ s0 = 1) → (¬ s0 = 2) → (¬ s0 = 3) → (¬ s0 = 4) → (¬ s0 = 5) → (¬ s0 = 6) → px_T 0 145 97 [some (.ref 0), d1] [] M Q) : px_T 0 145 1 [some (.ref 0), d1] [.int s0] M Q := by
  by_cases c1 : s0 = 0
  · exact px_T_sw rfl (by rw [c1]; rfl) (h1 c1)
  by_cases c2 : s0 = 1
  · exact px_T_sw rfl (by rw [c2]; rfl) (h2 c2)
  by_cases c3 : s0 = 2
  · exact px_T_sw rfl (by rw [c3]; rfl) (h3 c3)
  by_cases c4 : s0 = 3
  · exact px_T_sw rfl (by rw [c4]; rfl) (h4 c4)
  by_cases c5 : s0 = 4
  · exact px_T_sw rfl (by rw [c5]; rfl) (h5 c5)
  by_cases c6 : s0 = 5
  · exact px_T_sw rfl (by rw [c6]; rfl) (h6 c6)
  by_cases c7 : s0 = 6
  · exact px_T_sw rfl (by rw [c7]; rfl) (h7 c7)
  exact px_T_sw rfl (px_sw_o (N := 7) (by decide) (fun v hv => match v, hv with | 0, _ => c1 | 1, _ => c2 | 2, _ => c3 | 3, _ => c4 | 4, _ => c5 | 5, _ => c6 | 6, _ => c7 | n + 7, h => absurd h (by omega))) (h8 c1 c2 c3 c4 c5 c6 c7)
theorem sg_145_44 {d1 : Option Value} {M : px_Mem} {Q : px_Po} (h1 : Q (some (.int (M.1 4 2))) M) : px_T 0 145 44 [some (.ref 0), d1] [] M Q := by
  exact ⟨4, ⟨rfl, ⟨rfl, ⟨trivial, h1⟩⟩⟩⟩
theorem sg_145_52 {d1 : Option Value} {M : px_Mem} {Q : px_Po} (h1 : Q (some (.int (M.1 4 3))) M) : px_T 0 145 52 [some (.ref 0), d1] [] M Q := by
  exact ⟨4, ⟨rfl, ⟨rfl, ⟨trivial, h1⟩⟩⟩⟩
theorem sg_145_60 {d1 : Option Value} {M : px_Mem} {Q : px_Po} (h1 : Q (some (.int (M.1 4 4))) M) : px_T 0 145 60 [some (.ref 0), d1] [] M Q := by
  exact ⟨4, ⟨rfl, ⟨rfl, ⟨trivial, h1⟩⟩⟩⟩
theorem sg_145_68 {d1 : Option Value} {M : px_Mem} {Q : px_Po} (h1 : Q (some (.int (M.1 4 5))) M) : px_T 0 145 68 [some (.ref 0), d1] [] M Q := by
  exact ⟨4, ⟨rfl, ⟨rfl, ⟨trivial, h1⟩⟩⟩⟩
theorem sg_145_76 {d1 : Option Value} {M : px_Mem} {Q : px_Po} (h1 : Q (some (.int (M.1 4 1))) M) : px_T 0 145 76 [some (.ref 0), d1] [] M Q := by
  exact ⟨4, ⟨rfl, ⟨rfl, ⟨trivial, h1⟩⟩⟩⟩
theorem sg_145_84 {d1 : Option Value} {M : px_Mem} {Q : px_Po} (h1 : Q (some (.int (M.1 1 1))) M) : px_T 0 145 84 [some (.ref 0), d1] [] M Q := by
  exact ⟨4, ⟨rfl, ⟨rfl, ⟨trivial, h1⟩⟩⟩⟩
theorem sg_145_92 {d1 : Option Value} {M : px_Mem} {Q : px_Po} (h1 : px_T 0 162 0 [some (.ref 0), none, none] [] M (fun r M1 => px_T 0 145 96 [some (.ref 0), d1] (r.toList ++ []) M1 Q)) : px_T 0 145 92 [some (.ref 0), d1] [] M Q := by
  obtain ⟨n, h⟩ := px_T_cl (k := 145) (pc := 93) (y := 162) (st := [.ref 0]) rfl (h1)
  exact ⟨n + 2, ⟨rfl, h⟩⟩
theorem sg_145_97 {d0 : Option Value} {d1 : Option Value} {M : px_Mem} {Q : px_Po} (h1 : Q (some (.int (-1))) M) : px_T 0 145 97 [d0, d1] [] M Q := by
  exact ⟨2, ⟨trivial, h1⟩⟩
theorem sg_145_96 {d0 : Option Value} {d1 : Option Value} {s0 : Int32} {M : px_Mem} {Q : px_Po} (h1 : Q (some (.int s0)) M) : px_T 0 145 96 [d0, d1] [.int s0] M Q := by
  exact ⟨1, ⟨trivial, h1⟩⟩
theorem sg_146_0 {x1 : Int32} {M : px_Mem} {Q : px_Po} (h1 : (x1 < 0) → Q (some (.int (-2))) M) (h2 : (¬ (x1 < 0)) → (x1 < 3) → vp_in x1 3) (h3 : (¬ (x1 < 0)) → (x1 < 3) → px_T 0 57 0 [some (.ref (px_rf 8 x1.toNatClampNeg)), some (.ref 4)] [] M (fun r M1 => px_T 0 146 25 [some (.ref 0), some (.int x1)] (r.toList ++ []) M1 Q)) (h4 : (¬ (x1 < 0)) → (x1 < 3) → px_sh 0 (px_rf 8 x1.toNatClampNeg) = some (.inl 7)) (h5 : (¬ (x1 < 0)) → (¬ (x1 < 3)) → Q (some (.int (-2))) M) : px_T 0 146 0 [some (.ref 0), some (.int x1)] [] M Q := by
  by_cases c1 : x1 < 0
  · exact ⟨4, ⟨fun _ => ⟨trivial, h1 c1⟩, fun q => absurd c1 q⟩⟩
  · by_cases c2 : x1 < 3
    · obtain ⟨n, h⟩ := px_T_cl (k := 146) (pc := 22) (y := 57) (st := [.ref 4, .ref (px_rf 8 x1.toNatClampNeg)]) rfl (h3 c1 c2)
      exact ⟨n + 12, ⟨fun q => absurd q c1, fun _ => ⟨fun _ => ⟨rfl, ⟨⟨4, 3, Or.inl rfl, rfl, (h2 c1 c2)⟩, ⟨rfl, ⟨(h4 c1 c2), h⟩⟩⟩⟩, fun q => absurd c2 q⟩⟩⟩
    · exact ⟨7, ⟨fun q => absurd q c1, fun _ => ⟨fun q => absurd q c2, fun _ => ⟨trivial, h5 c1 c2⟩⟩⟩⟩
theorem sg_146_25 {x1 : Int32} {M : px_Mem} {Q : px_Po} (h1 : vp_in x1 3) (h2 : px_sh 0 (px_rf 8 x1.toNatClampNeg) = some (.inl 7)) (h3 : Q (some (.int 0)) (px_wI M (px_rf 8 x1.toNatClampNeg) 6 1)) : px_T 0 146 25 [some (.ref 0), some (.int x1)] [] M Q := by
  exact ⟨8, ⟨rfl, ⟨⟨4, 3, Or.inl rfl, rfl, h1⟩, ⟨h2, Or.inr rfl, ⟨trivial, h3⟩⟩⟩⟩⟩
theorem sg_147_0 {x1 : Int32} {M : px_Mem} {Q : px_Po} (h1 : (x1 < 0) → Q (some (.int (-2))) M) (h2 : (¬ (x1 < 0)) → (x1 < 3) → vp_in x1 3) (h3 : (¬ (x1 < 0)) → (x1 < 3) → px_sh 0 (px_rf 8 x1.toNatClampNeg) = some (.inl 7)) (h4 : (¬ (x1 < 0)) → (x1 < 3) → ((M.1 (px_rf 8 x1.toNatClampNeg) 6) = 0) → Q (some (.int (-6))) M) (h5 : (¬ (x1 < 0)) → (x1 < 3) → (¬ ((M.1 (px_rf 8 x1.toNatClampNeg) 6) = 0)) → vp_in x1 3) (h6 : (¬ (x1 < 0)) → (x1 < 3) → (¬ ((M.1 (px_rf 8 x1.toNatClampNeg) 6) = 0)) → px_T 0 57 0 [some (.ref 4), some (.ref (px_rf 8 x1.toNatClampNeg))] [] M (fun r M1 => px_T 0 147 40 [some (.ref 0), some (.int x1)] (r.toList ++ []) M1 Q)) (h7 : (¬ (x1 < 0)) → (¬ (x1 < 3)) → Q (some (.int (-2))) M) : px_T 0 147 0 [some (.ref 0), some (.int x1)] [] M Q := by
  by_cases c1 : x1 < 0
  · exact ⟨4, ⟨fun _ => ⟨trivial, h1 c1⟩, fun q => absurd c1 q⟩⟩
  · by_cases c2 : x1 < 3
    · by_cases c3 : (M.1 (px_rf 8 x1.toNatClampNeg) 6) = 0
      · exact ⟨13, ⟨fun q => absurd q c1, fun _ => ⟨fun _ => ⟨rfl, ⟨⟨4, 3, Or.inl rfl, rfl, (h2 c1 c2)⟩, ⟨(h3 c1 c2), ⟨fun q => absurd c3 q, fun _ => ⟨trivial, h4 c1 c2 c3⟩⟩⟩⟩⟩, fun q => absurd c2 q⟩⟩⟩
      · obtain ⟨n, h⟩ := px_T_cl (k := 147) (pc := 37) (y := 57) (st := [.ref (px_rf 8 x1.toNatClampNeg), .ref 4]) rfl (h6 c1 c2 c3)
        exact ⟨n + 18, ⟨fun q => absurd q c1, fun _ => ⟨fun _ => ⟨rfl, ⟨⟨4, 3, Or.inl rfl, rfl, (h2 c1 c2)⟩, ⟨(h3 c1 c2), ⟨fun _ => ⟨rfl, ⟨rfl, ⟨⟨4, 3, Or.inl rfl, rfl, (h5 c1 c2 c3)⟩, ⟨rfl, h⟩⟩⟩⟩, fun q => absurd q c3⟩⟩⟩⟩, fun q => absurd c2 q⟩⟩⟩
    · exact ⟨7, ⟨fun q => absurd q c1, fun _ => ⟨fun q => absurd q c2, fun _ => ⟨trivial, h7 c1 c2⟩⟩⟩⟩
theorem sg_147_40 {d1 : Option Value} {M : px_Mem} {Q : px_Po} (h1 : px_T 0 163 0 [some (.ref 0)] [] M (fun r M1 => px_T 0 147 44 [some (.ref 0), d1] (r.toList ++ []) M1 Q)) : px_T 0 147 40 [some (.ref 0), d1] [] M Q := by
  obtain ⟨n, h⟩ := px_T_cl (k := 147) (pc := 41) (y := 163) (st := [.ref 0]) rfl (h1)
  exact ⟨n + 2, ⟨rfl, h⟩⟩
theorem sg_147_44 {d0 : Option Value} {d1 : Option Value} {M : px_Mem} {Q : px_Po} (h1 : Q (some (.int 0)) M) : px_T 0 147 44 [d0, d1] [] M Q := by
  exact ⟨2, ⟨trivial, h1⟩⟩
theorem sg_148_0 {x1 : Int32} {x2 : Int32} {x3 : Int32} {M : px_Mem} {Q : px_Po} (h1 : px_T 0 156 0 [some (.int x1)] [] M (fun r M1 => px_T 0 148 4 [some (.ref 0), some (.int x1), some (.int x2), some (.int x3)] (r.toList ++ []) M1 Q)) : px_T 0 148 0 [some (.ref 0), some (.int x1), some (.int x2), some (.int x3)] [] M Q := by
  obtain ⟨n, h⟩ := px_T_cl (k := 148) (pc := 1) (y := 156) (st := [.int x1]) rfl (h1)
  exact ⟨n + 2, h⟩
theorem sg_148_4 {x1 : Int32} {x2 : Int32} {x3 : Int32} {s0 : Int32} {M : px_Mem} {Q : px_Po} (h1 : (s0 = 0) → (x2 < 0) → Q (some (.int (-2))) M) (h2 : (s0 = 0) → (¬ (x2 < 0)) → ((4 : Int32) ≤ x2) → Q (some (.int (-2))) M) (h3 : (s0 = 0) → (¬ (x2 < 0)) → (¬ ((4 : Int32) ≤ x2)) → (x3 ≤ 60) → ((0 : Int32) ≤ x3) → vp_in x1 4) (h4 : (s0 = 0) → (¬ (x2 < 0)) → (¬ ((4 : Int32) ≤ x2)) → (x3 ≤ 60) → ((0 : Int32) ≤ x3) → px_T 0 36 0 [some (.ref (px_rf 15 x1.toNatClampNeg)), some (.int x2), some (.int x3)] [] M (fun r M1 => px_T 0 148 43 [some (.ref 0), some (.int x1), some (.int x2), some (.int x3)] (r.toList ++ []) M1 Q)) (h5 : (s0 = 0) → (¬ (x2 < 0)) → (¬ ((4 : Int32) ≤ x2)) → (x3 ≤ 60) → ((0 : Int32) ≤ x3) → px_sh 0 (px_rf 15 x1.toNatClampNeg) = some (.inl 4)) (h6 : (s0 = 0) → (¬ (x2 < 0)) → (¬ ((4 : Int32) ≤ x2)) → (x3 ≤ 60) → (¬ ((0 : Int32) ≤ x3)) → Q (some (.int (-3))) M) (h7 : (s0 = 0) → (¬ (x2 < 0)) → (¬ ((4 : Int32) ≤ x2)) → (¬ (x3 ≤ 60)) → Q (some (.int (-2))) M) (h8 : (¬ (s0 = 0)) → Q (some (.int (-2))) M) : px_T 0 148 4 [some (.ref 0), some (.int x1), some (.int x2), some (.int x3)] [.int s0] M Q := by
  by_cases c1 : s0 = 0
  · by_cases c2 : x2 < 0
    · exact ⟨5, ⟨fun q => absurd c1 q, fun _ => ⟨fun _ => ⟨trivial, h1 c1 c2⟩, fun q => absurd c2 q⟩⟩⟩
    · by_cases c3 : (4 : Int32) ≤ x2
      · exact ⟨8, ⟨fun q => absurd c1 q, fun _ => ⟨fun q => absurd q c2, fun _ => ⟨fun _ => ⟨trivial, h2 c1 c2 c3⟩, fun q => absurd c3 q⟩⟩⟩⟩
      · by_cases c4 : x3 ≤ 60
        · by_cases c5 : (0 : Int32) ≤ x3
          · obtain ⟨n, h⟩ := px_T_cl (k := 148) (pc := 40) (y := 36) (st := [.int x3, .int x2, .ref (px_rf 15 x1.toNatClampNeg)]) rfl (h4 c1 c2 c3 c4 c5)
            exact ⟨n + 18, ⟨fun q => absurd c1 q, fun _ => ⟨fun q => absurd q c2, fun _ => ⟨fun q => absurd q c3, fun _ => ⟨fun _ => ⟨fun _ => ⟨rfl, ⟨⟨5, 4, Or.inr (Or.inl rfl), rfl, (h3 c1 c2 c3 c4 c5)⟩, ⟨(h5 c1 c2 c3 c4 c5), h⟩⟩⟩, fun q => absurd c5 q⟩, fun q => absurd c4 q⟩⟩⟩⟩⟩
          · exact ⟨13, ⟨fun q => absurd c1 q, fun _ => ⟨fun q => absurd q c2, fun _ => ⟨fun q => absurd q c3, fun _ => ⟨fun _ => ⟨fun q => absurd q c5, fun _ => ⟨trivial, h6 c1 c2 c3 c4 c5⟩⟩, fun q => absurd c4 q⟩⟩⟩⟩⟩
        · exact ⟨11, ⟨fun q => absurd c1 q, fun _ => ⟨fun q => absurd q c2, fun _ => ⟨fun q => absurd q c3, fun _ => ⟨fun q => absurd q c4, fun _ => ⟨trivial, h7 c1 c2 c3 c4⟩⟩⟩⟩⟩⟩
  · exact ⟨3, ⟨fun _ => ⟨trivial, h8 c1⟩, fun q => absurd q c1⟩⟩
theorem sg_148_43 {d0 : Option Value} {d1 : Option Value} {d2 : Option Value} {d3 : Option Value} {M : px_Mem} {Q : px_Po} (h1 : Q (some (.int 0)) M) : px_T 0 148 43 [d0, d1, d2, d3] [] M Q := by
  exact ⟨2, ⟨trivial, h1⟩⟩
theorem sg_149_0 {x1 : Int32} {x2 : Int32} {x3 : Int64} {M : px_Mem} {Q : px_Po} (h1 : px_T 0 156 0 [some (.int x1)] [] M (fun r M1 => px_T 0 149 4 [some (.ref 0), some (.int x1), some (.int x2), some (.long x3), none, none] (r.toList ++ []) M1 Q)) : px_T 0 149 0 [some (.ref 0), some (.int x1), some (.int x2), some (.long x3), none, none] [] M Q := by
  obtain ⟨n, h⟩ := px_T_cl (k := 149) (pc := 1) (y := 156) (st := [.int x1]) rfl (h1)
  exact ⟨n + 2, h⟩
theorem sg_149_4 {x1 : Int32} {x2 : Int32} {x3 : Int64} {d5 : Option Value} {s0 : Int32} {M : px_Mem} {Q : px_Po} (h1 : (s0 = 0) → vp_in x1 4) (h2 : (s0 = 0) → px_sh 0 (px_rf 15 x1.toNatClampNeg) = some (.inl 4)) (h3 : (s0 = 0) → ((M.1 (px_rf 15 x1.toNatClampNeg) 1) = 0) → Q (some (.int (-6))) M) (h4 : (s0 = 0) → (¬ ((M.1 (px_rf 15 x1.toNatClampNeg) 1) = 0)) → (x2 < 0) → Q (some (.int (-7))) M) (h5 : (s0 = 0) → (¬ ((M.1 (px_rf 15 x1.toNatClampNeg) 1) = 0)) → (¬ (x2 < 0)) → px_sh 0 (px_rf 15 x1.toNatClampNeg) = some (.inl 4)) (h6 : (s0 = 0) → (¬ ((M.1 (px_rf 15 x1.toNatClampNeg) 1) = 0)) → (¬ (x2 < 0)) → (x2 < (M.1 (px_rf 15 x1.toNatClampNeg) 3)) → px_T 0 37 0 [some (.ref (px_rf 15 x1.toNatClampNeg)), some (.int x2), some (.long x3), none] [] M (fun r M1 => px_T 0 149 52 [some (.ref 0), some (.int x1), some (.int x2), some (.long x3), none, some (.ref (px_rf 15 x1.toNatClampNeg))] (r.toList ++ []) M1 Q)) (h7 : (s0 = 0) → (¬ ((M.1 (px_rf 15 x1.toNatClampNeg) 1) = 0)) → (¬ (x2 < 0)) → (x2 < (M.1 (px_rf 15 x1.toNatClampNeg) 3)) → px_sh 0 (px_rf 15 x1.toNatClampNeg) = some (.inl 4)) (h8 : (s0 = 0) → (¬ ((M.1 (px_rf 15 x1.toNatClampNeg) 1) = 0)) → (¬ (x2 < 0)) → (¬ (x2 < (M.1 (px_rf 15 x1.toNatClampNeg) 3))) → Q (some (.int (-7))) M) (h9 : (¬ (s0 = 0)) → Q (some (.int (-2))) M) : px_T 0 149 4 [some (.ref 0), some (.int x1), some (.int x2), some (.long x3), none, d5] [.int s0] M Q := by
  by_cases c1 : s0 = 0
  · by_cases c2 : (M.1 (px_rf 15 x1.toNatClampNeg) 1) = 0
    · exact ⟨11, ⟨fun _ => ⟨rfl, ⟨⟨5, 4, Or.inr (Or.inl rfl), rfl, (h1 c1)⟩, ⟨(h2 c1), ⟨fun q => absurd c2 q, fun _ => ⟨trivial, h3 c1 c2⟩⟩⟩⟩⟩, fun q => absurd c1 q⟩⟩
    · by_cases c3 : x2 < 0
      · exact ⟨13, ⟨fun _ => ⟨rfl, ⟨⟨5, 4, Or.inr (Or.inl rfl), rfl, (h1 c1)⟩, ⟨(h2 c1), ⟨fun _ => ⟨fun _ => ⟨trivial, h4 c1 c2 c3⟩, fun q => absurd c3 q⟩, fun q => absurd q c2⟩⟩⟩⟩, fun q => absurd c1 q⟩⟩
      · by_cases c4 : x2 < (M.1 (px_rf 15 x1.toNatClampNeg) 3)
        · obtain ⟨n, h⟩ := px_T_cl (k := 149) (pc := 49) (y := 37) (st := [.long x3, .int x2, .ref (px_rf 15 x1.toNatClampNeg)]) rfl (h6 c1 c2 c3 c4)
          exact ⟨n + 19, ⟨fun _ => ⟨rfl, ⟨⟨5, 4, Or.inr (Or.inl rfl), rfl, (h1 c1)⟩, ⟨(h2 c1), ⟨fun _ => ⟨fun q => absurd q c3, fun _ => ⟨(h5 c1 c2 c3), ⟨fun _ => ⟨(h7 c1 c2 c3 c4), h⟩, fun q => absurd c4 q⟩⟩⟩, fun q => absurd q c2⟩⟩⟩⟩, fun q => absurd c1 q⟩⟩
        · exact ⟨17, ⟨fun _ => ⟨rfl, ⟨⟨5, 4, Or.inr (Or.inl rfl), rfl, (h1 c1)⟩, ⟨(h2 c1), ⟨fun _ => ⟨fun q => absurd q c3, fun _ => ⟨(h5 c1 c2 c3), ⟨fun q => absurd q c4, fun _ => ⟨trivial, h8 c1 c2 c3 c4⟩⟩⟩⟩, fun q => absurd q c2⟩⟩⟩⟩, fun q => absurd c1 q⟩⟩
  · exact ⟨3, ⟨fun q => absurd q c1, fun _ => ⟨trivial, h9 c1⟩⟩⟩
theorem sg_149_52 {d0 : Option Value} {d1 : Option Value} {d2 : Option Value} {d3 : Option Value} {d5 : Option Value} {M : px_Mem} {Q : px_Po} (h1 : Q (some (.int 0)) M) : px_T 0 149 52 [d0, d1, d2, d3, none, d5] [] M Q := by
  exact ⟨2, ⟨trivial, h1⟩⟩
theorem sg_150_0 {x1 : Int32} {x2 : Int32} {x3 : Int32} {x4 : Int32} {x5 : Int32} {M : px_Mem} {Q : px_Po} (h1 : px_T 0 156 0 [some (.int x1)] [] M (fun r M1 => px_T 0 150 4 [some (.ref 0), some (.int x1), some (.int x2), some (.int x3), some (.int x4), some (.int x5), none, none] (r.toList ++ []) M1 Q)) : px_T 0 150 0 [some (.ref 0), some (.int x1), some (.int x2), some (.int x3), some (.int x4), some (.int x5), none, none] [] M Q := by
  obtain ⟨n, h⟩ := px_T_cl (k := 150) (pc := 1) (y := 156) (st := [.int x1]) rfl (h1)
  exact ⟨n + 2, h⟩
theorem sg_150_4 {x1 : Int32} {x2 : Int32} {x3 : Int32} {x4 : Int32} {x5 : Int32} {d6 : Option Value} {d7 : Option Value} {s0 : Int32} {M : px_Mem} {Q : px_Po} (h1 : (s0 = 0) → px_T 0 156 0 [some (.int x3)] [] M (fun r M1 => px_T 0 150 11 [some (.ref 0), some (.int x1), some (.int x2), some (.int x3), some (.int x4), some (.int x5), d6, d7] (r.toList ++ []) M1 Q)) (h2 : (¬ (s0 = 0)) → Q (some (.int (-2))) M) : px_T 0 150 4 [some (.ref 0), some (.int x1), some (.int x2), some (.int x3), some (.int x4), some (.int x5), d6, d7] [.int s0] M Q := by
  by_cases c1 : s0 = 0
  · obtain ⟨n, h⟩ := px_T_cl (k := 150) (pc := 8) (y := 156) (st := [.int x3]) rfl (h1 c1)
    exact ⟨n + 3, ⟨fun q => absurd c1 q, fun _ => h⟩⟩
  · exact ⟨3, ⟨fun _ => ⟨trivial, h2 c1⟩, fun q => absurd q c1⟩⟩
theorem sg_150_11 {x1 : Int32} {x2 : Int32} {x3 : Int32} {x4 : Int32} {x5 : Int32} {d6 : Option Value} {d7 : Option Value} {s0 : Int32} {M : px_Mem} {Q : px_Po} (h1 : (s0 = 0) → vp_in x1 4) (h2 : (s0 = 0) → vp_in x3 4) (h3 : (s0 = 0) → px_sh 0 (px_rf 15 x1.toNatClampNeg) = some (.inl 4)) (h4 : (s0 = 0) → ((M.1 (px_rf 15 x1.toNatClampNeg) 1) = 0) → Q (some (.int (-6))) M) (h5 : (s0 = 0) → (¬ ((M.1 (px_rf 15 x1.toNatClampNeg) 1) = 0)) → px_sh 0 (px_rf 15 x3.toNatClampNeg) = some (.inl 4)) (h6 : (s0 = 0) → (¬ ((M.1 (px_rf 15 x1.toNatClampNeg) 1) = 0)) → ((M.1 (px_rf 15 x3.toNatClampNeg) 1) = 0) → Q (some (.int (-6))) M) (h7 : (s0 = 0) → (¬ ((M.1 (px_rf 15 x1.toNatClampNeg) 1) = 0)) → (¬ ((M.1 (px_rf 15 x3.toNatClampNeg) 1) = 0)) → px_sh 0 (px_rf 15 x1.toNatClampNeg) = some (.inl 4)) (h8 : (s0 = 0) → (¬ ((M.1 (px_rf 15 x1.toNatClampNeg) 1) = 0)) → (¬ ((M.1 (px_rf 15 x3.toNatClampNeg) 1) = 0)) → px_sh 0 (px_rf 15 x3.toNatClampNeg) = some (.inl 4)) (h9 : (s0 = 0) → (¬ ((M.1 (px_rf 15 x1.toNatClampNeg) 1) = 0)) → (¬ ((M.1 (px_rf 15 x3.toNatClampNeg) 1) = 0)) → ((M.1 (px_rf 15 x1.toNatClampNeg) 2) = (M.1 (px_rf 15 x3.toNatClampNeg) 2)) → px_T 0 39 0 [some (.ref (px_rf 15 x1.toNatClampNeg)), some (.int x2), some (.int x5)] [] M (fun r M1 => px_T 0 150 76 [some (.ref 0), some (.int x1), some (.int x2), some (.int x3), some (.int x4), some (.int x5), some (.ref (px_rf 15 x1.toNatClampNeg)), some (.ref (px_rf 15 x3.toNatClampNeg))] (r.toList ++ []) M1 Q)) (h10 : (s0 = 0) → (¬ ((M.1 (px_rf 15 x1.toNatClampNeg) 1) = 0)) → (¬ ((M.1 (px_rf 15 x3.toNatClampNeg) 1) = 0)) → ((M.1 (px_rf 15 x1.toNatClampNeg) 2) = (M.1 (px_rf 15 x3.toNatClampNeg) 2)) → px_sh 0 (px_rf 15 x1.toNatClampNeg) = some (.inl 4)) (h11 : (s0 = 0) → (¬ ((M.1 (px_rf 15 x1.toNatClampNeg) 1) = 0)) → (¬ ((M.1 (px_rf 15 x3.toNatClampNeg) 1) = 0)) → (¬ ((M.1 (px_rf 15 x1.toNatClampNeg) 2) = (M.1 (px_rf 15 x3.toNatClampNeg) 2))) → Q (some (.int (-8))) M) (h12 : (¬ (s0 = 0)) → Q (some (.int (-2))) M) : px_T 0 150 11 [some (.ref 0), some (.int x1), some (.int x2), some (.int x3), some (.int x4), some (.int x5), d6, d7] [.int s0] M Q := by
  by_cases c1 : s0 = 0
  · by_cases c2 : (M.1 (px_rf 15 x1.toNatClampNeg) 1) = 0
    · exact ⟨16, ⟨fun _ => ⟨rfl, ⟨⟨5, 4, Or.inr (Or.inl rfl), rfl, (h1 c1)⟩, ⟨rfl, ⟨⟨5, 4, Or.inr (Or.inl rfl), rfl, (h2 c1)⟩, ⟨(h3 c1), ⟨fun _ => ⟨trivial, h4 c1 c2⟩, fun q => absurd c2 q⟩⟩⟩⟩⟩⟩, fun q => absurd c1 q⟩⟩
    · by_cases c3 : (M.1 (px_rf 15 x3.toNatClampNeg) 1) = 0
      · exact ⟨19, ⟨fun _ => ⟨rfl, ⟨⟨5, 4, Or.inr (Or.inl rfl), rfl, (h1 c1)⟩, ⟨rfl, ⟨⟨5, 4, Or.inr (Or.inl rfl), rfl, (h2 c1)⟩, ⟨(h3 c1), ⟨fun q => absurd q c2, fun _ => ⟨(h5 c1 c2), ⟨fun q => absurd c3 q, fun _ => ⟨trivial, h6 c1 c2 c3⟩⟩⟩⟩⟩⟩⟩⟩⟩, fun q => absurd c1 q⟩⟩
      · by_cases c4 : (M.1 (px_rf 15 x1.toNatClampNeg) 2) = (M.1 (px_rf 15 x3.toNatClampNeg) 2)
        · obtain ⟨n, h⟩ := px_T_cl (k := 150) (pc := 73) (y := 39) (st := [.int x5, .int x2, .ref (px_rf 15 x1.toNatClampNeg)]) rfl (h9 c1 c2 c3 c4)
          exact ⟨n + 26, ⟨fun _ => ⟨rfl, ⟨⟨5, 4, Or.inr (Or.inl rfl), rfl, (h1 c1)⟩, ⟨rfl, ⟨⟨5, 4, Or.inr (Or.inl rfl), rfl, (h2 c1)⟩, ⟨(h3 c1), ⟨fun q => absurd q c2, fun _ => ⟨(h5 c1 c2), ⟨fun _ => ⟨(h7 c1 c2 c3), ⟨(h8 c1 c2 c3), ⟨fun _ => ⟨(h10 c1 c2 c3 c4), h⟩, fun q => absurd c4 q⟩⟩⟩, fun q => absurd q c3⟩⟩⟩⟩⟩⟩⟩⟩, fun q => absurd c1 q⟩⟩
        · exact ⟨24, ⟨fun _ => ⟨rfl, ⟨⟨5, 4, Or.inr (Or.inl rfl), rfl, (h1 c1)⟩, ⟨rfl, ⟨⟨5, 4, Or.inr (Or.inl rfl), rfl, (h2 c1)⟩, ⟨(h3 c1), ⟨fun q => absurd q c2, fun _ => ⟨(h5 c1 c2), ⟨fun _ => ⟨(h7 c1 c2 c3), ⟨(h8 c1 c2 c3), ⟨fun q => absurd q c4, fun _ => ⟨trivial, h11 c1 c2 c3 c4⟩⟩⟩⟩, fun q => absurd q c3⟩⟩⟩⟩⟩⟩⟩⟩, fun q => absurd c1 q⟩⟩
  · exact ⟨3, ⟨fun q => absurd q c1, fun _ => ⟨trivial, h12 c1⟩⟩⟩
theorem sg_150_76 {d0 : Option Value} {d1 : Option Value} {x2 : Int32} {d3 : Option Value} {x4 : Int32} {x5 : Int32} {x6 : Nat} {x7 : Nat} {s0 : Int32} {M : px_Mem} {Q : px_Po} (h_x6 : px_isR x6) (h_x7 : px_isR x7) (h1 : (s0 = 0) → px_T 0 39 0 [some (.ref x7), some (.int x4), some (.int x5)] [] M (fun r M1 => px_T 0 150 88 [d0, d1, some (.int x2), d3, some (.int x4), some (.int x5), some (.ref x6), some (.ref x7)] (r.toList ++ []) M1 Q)) (h2 : (¬ (s0 = 0)) → Q (some (.int (-7))) M) : px_T 0 150 76 [d0, d1, some (.int x2), d3, some (.int x4), some (.int x5), some (.ref x6), some (.ref x7)] [.int s0] M Q := by
  rcases h_x6 with rfl | rfl | rfl | rfl
  rcases h_x7 with rfl | rfl | rfl | rfl
  all_goals
    by_cases c1 : s0 = 0
    · obtain ⟨n, h⟩ := px_T_cl (k := 150) (pc := 85) (y := 39) (st := [.int x5, .int x4, .ref x7]) rfl (h1 c1)
      exact ⟨n + 5, ⟨fun q => absurd c1 q, fun _ => ⟨rfl, h⟩⟩⟩
    · exact ⟨3, ⟨fun _ => ⟨trivial, h2 c1⟩, fun q => absurd q c1⟩⟩
theorem sg_150_88 {d0 : Option Value} {d1 : Option Value} {x2 : Int32} {d3 : Option Value} {x4 : Int32} {x5 : Int32} {x6 : Nat} {x7 : Nat} {s0 : Int32} {M : px_Mem} {Q : px_Po} (h_x6 : px_isR x6) (h_x7 : px_isR x7) (h1 : (s0 = 0) → px_cp 0 1 (x7 + 1) (x6 + 1) x2 x4 x5) (h2 : (s0 = 0) → Q (some (.int 0)) (px_aL M (x7 + 1) (va_cpy (M.2 (x6 + 1)) (M.2 (x7 + 1)) x2.toNatClampNeg x4.toNatClampNeg x5.toNatClampNeg))) (h3 : (¬ (s0 = 0)) → Q (some (.int (-7))) M) : px_T 0 150 88 [d0, d1, some (.int x2), d3, some (.int x4), some (.int x5), some (.ref x6), some (.ref x7)] [.int s0] M Q := by
  rcases h_x6 with rfl | rfl | rfl | rfl
  rcases h_x7 with rfl | rfl | rfl | rfl
  all_goals
    by_cases c1 : s0 = 0
    · exact ⟨11, ⟨fun _ => ⟨rfl, ⟨rfl, ⟨(by decide), (by decide), (by decide), Or.inr ⟨(h1 c1), ⟨trivial, h2 c1⟩⟩⟩⟩⟩, fun q => absurd c1 q⟩⟩
    · exact ⟨3, ⟨fun q => absurd q c1, fun _ => ⟨trivial, h3 c1⟩⟩⟩
theorem sg_151_0 {M : px_Mem} {Q : px_Po} (h1 : ((M.1 4 1) = 0) → Q (some (.int 1)) M) (h2 : (¬ ((M.1 4 1) = 0)) → Q (some (.int 0)) M) : px_T 0 151 0 [some (.ref 0)] [] M Q := by
  by_cases c1 : (M.1 4 1) = 0
  · exact ⟨7, ⟨rfl, ⟨rfl, ⟨fun q => absurd c1 q, fun _ => ⟨Or.inr rfl, h1 c1⟩⟩⟩⟩⟩
  · exact ⟨6, ⟨rfl, ⟨rfl, ⟨fun _ => ⟨Or.inl rfl, h2 c1⟩, fun q => absurd q c1⟩⟩⟩⟩
theorem sg_152_0 {x1 : Int32} {M : px_Mem} {Q : px_Po} (h1 : px_T 0 151 0 [some (.ref 0)] [] M (fun r M1 => px_T 0 152 4 [some (.ref 0), some (.int x1)] (r.toList ++ []) M1 Q)) : px_T 0 152 0 [some (.ref 0), some (.int x1)] [] M Q := by
  obtain ⟨n, h⟩ := px_T_cl (k := 152) (pc := 1) (y := 151) (st := [.ref 0]) rfl (h1)
  exact ⟨n + 2, ⟨rfl, h⟩⟩
theorem sg_152_4 {x1 : Int32} {s0 : Int32} {M : px_Mem} {Q : px_Po} (h1 : (s0 = 0) → (x1 < 0) → Q (some (.int 1)) M) (h2 : (s0 = 0) → (¬ (x1 < 0)) → px_T 0 53 0 [some (.ref 4)] [] M (fun r M1 => px_T 0 152 19 [some (.ref 0), some (.int x1)] (r.toList ++ [.int x1]) M1 Q)) (h3 : (¬ (s0 = 0)) → Q (some (.int 1)) M) : px_T 0 152 4 [some (.ref 0), some (.int x1)] [.int s0] M Q := by
  by_cases c1 : s0 = 0
  · by_cases c2 : x1 < 0
    · exact ⟨6, ⟨fun q => absurd c1 q, fun _ => ⟨fun _ => ⟨Or.inr rfl, h1 c1 c2⟩, fun q => absurd c2 q⟩⟩⟩
    · obtain ⟨n, h⟩ := px_T_cl (k := 152) (pc := 16) (y := 53) (st := [.ref 4, .int x1]) rfl (h2 c1 c2)
      exact ⟨n + 7, ⟨fun q => absurd c1 q, fun _ => ⟨fun q => absurd q c2, fun _ => ⟨rfl, ⟨rfl, h⟩⟩⟩⟩⟩
  · exact ⟨4, ⟨fun _ => ⟨Or.inr rfl, h3 c1⟩, fun q => absurd q c1⟩⟩
theorem sg_152_19 {d0 : Option Value} {d1 : Option Value} {s0 : Int32} {s1 : Int32} {M : px_Mem} {Q : px_Po} (h1 : (s1 ≤ s0) → Q (some (.int 0)) M) (h2 : (¬ (s1 ≤ s0)) → Q (some (.int 1)) M) : px_T 0 152 19 [d0, d1] [.int s0, .int s1] M Q := by
  by_cases c1 : s1 ≤ s0
  · exact ⟨3, ⟨fun _ => ⟨Or.inl rfl, h1 c1⟩, fun q => absurd c1 q⟩⟩
  · exact ⟨4, ⟨fun q => absurd q c1, fun _ => ⟨Or.inr rfl, h2 c1⟩⟩⟩
theorem sg_153_0 {x0 : Int32} {M : px_Mem} {Q : px_Po} (h1 : (x0 < 1) → Q (some (.int 1)) M) (h2 : (¬ (x0 < 1)) → (x0 ≤ 15) → Q (some (.int 0)) M) (h3 : (¬ (x0 < 1)) → (¬ (x0 ≤ 15)) → Q (some (.int 1)) M) : px_T 0 153 0 [some (.int x0)] [] M Q := by
  by_cases c1 : x0 < 1
  · exact ⟨6, ⟨fun _ => ⟨Or.inr rfl, h1 c1⟩, fun q => absurd c1 q⟩⟩
  · by_cases c2 : x0 ≤ 15
    · exact ⟨8, ⟨fun q => absurd q c1, fun _ => ⟨fun _ => ⟨Or.inl rfl, h2 c1 c2⟩, fun q => absurd c2 q⟩⟩⟩
    · exact ⟨9, ⟨fun q => absurd q c1, fun _ => ⟨fun q => absurd q c2, fun _ => ⟨Or.inr rfl, h3 c1 c2⟩⟩⟩⟩
theorem sg_154_0 {x0 : Int32} {x1 : Int32} {M : px_Mem} {Q : px_Po} (h1 : px_T 0 153 0 [some (.int x0)] [] M (fun r M1 => px_T 0 154 4 [some (.int x0), some (.int x1)] (r.toList ++ []) M1 Q)) : px_T 0 154 0 [some (.int x0), some (.int x1)] [] M Q := by
  obtain ⟨n, h⟩ := px_T_cl (k := 154) (pc := 1) (y := 153) (st := [.int x0]) rfl (h1)
  exact ⟨n + 2, h⟩
theorem sg_154_4 {d0 : Option Value} {x1 : Int32} {s0 : Int32} {M : px_Mem} {Q : px_Po} (h1 : (s0 = 0) → (x1 < 0) → Q (some (.int 1)) M) (h2 : (s0 = 0) → (¬ (x1 < 0)) → (x1 < 8) → Q (some (.int 0)) M) (h3 : (s0 = 0) → (¬ (x1 < 0)) → (¬ (x1 < 8)) → Q (some (.int 1)) M) (h4 : (¬ (s0 = 0)) → Q (some (.int 1)) M) : px_T 0 154 4 [d0, some (.int x1)] [.int s0] M Q := by
  by_cases c1 : s0 = 0
  · by_cases c2 : x1 < 0
    · exact ⟨6, ⟨fun q => absurd c1 q, fun _ => ⟨fun _ => ⟨Or.inr rfl, h1 c1 c2⟩, fun q => absurd c2 q⟩⟩⟩
    · by_cases c3 : x1 < 8
      · exact ⟨8, ⟨fun q => absurd c1 q, fun _ => ⟨fun q => absurd q c2, fun _ => ⟨fun _ => ⟨Or.inl rfl, h2 c1 c2 c3⟩, fun q => absurd c3 q⟩⟩⟩⟩
      · exact ⟨9, ⟨fun q => absurd c1 q, fun _ => ⟨fun q => absurd q c2, fun _ => ⟨fun q => absurd q c3, fun _ => ⟨Or.inr rfl, h3 c1 c2 c3⟩⟩⟩⟩⟩
  · exact ⟨4, ⟨fun _ => ⟨Or.inr rfl, h4 c1⟩, fun q => absurd q c1⟩⟩
theorem sg_155_0 {x0 : Int32} {M : px_Mem} {Q : px_Po} (h1 : (x0 < 0) → Q (some (.int 1)) M) (h2 : (¬ (x0 < 0)) → (x0 < 200) → Q (some (.int 0)) M) (h3 : (¬ (x0 < 0)) → (¬ (x0 < 200)) → Q (some (.int 1)) M) : px_T 0 155 0 [some (.int x0)] [] M Q := by
  by_cases c1 : x0 < 0
  · exact ⟨5, ⟨fun _ => ⟨Or.inr rfl, h1 c1⟩, fun q => absurd c1 q⟩⟩
  · by_cases c2 : x0 < 200
    · exact ⟨7, ⟨fun q => absurd q c1, fun _ => ⟨fun _ => ⟨Or.inl rfl, h2 c1 c2⟩, fun q => absurd c2 q⟩⟩⟩
    · exact ⟨8, ⟨fun q => absurd q c1, fun _ => ⟨fun q => absurd q c2, fun _ => ⟨Or.inr rfl, h3 c1 c2⟩⟩⟩⟩
theorem sg_156_0 {x0 : Int32} {M : px_Mem} {Q : px_Po} (h1 : (x0 < 0) → Q (some (.int 1)) M) (h2 : (¬ (x0 < 0)) → (x0 < 4) → Q (some (.int 0)) M) (h3 : (¬ (x0 < 0)) → (¬ (x0 < 4)) → Q (some (.int 1)) M) : px_T 0 156 0 [some (.int x0)] [] M Q := by
  by_cases c1 : x0 < 0
  · exact ⟨5, ⟨fun _ => ⟨Or.inr rfl, h1 c1⟩, fun q => absurd c1 q⟩⟩
  · by_cases c2 : x0 < 4
    · exact ⟨7, ⟨fun q => absurd q c1, fun _ => ⟨fun _ => ⟨Or.inl rfl, h2 c1 c2⟩, fun q => absurd c2 q⟩⟩⟩
    · exact ⟨8, ⟨fun q => absurd q c1, fun _ => ⟨fun q => absurd q c2, fun _ => ⟨Or.inr rfl, h3 c1 c2⟩⟩⟩⟩
theorem sg_157_0 {x0 : Int32} {M : px_Mem} {Q : px_Po} (h1 : (x0 < 0) → Q (some (.int 1)) M) (h2 : (¬ (x0 < 0)) → (x0 ≤ 2000000000) → Q (some (.int 0)) M) (h3 : (¬ (x0 < 0)) → (¬ (x0 ≤ 2000000000)) → Q (some (.int 1)) M) : px_T 0 157 0 [some (.int x0)] [] M Q := by
  by_cases c1 : x0 < 0
  · exact ⟨5, ⟨fun _ => ⟨Or.inr rfl, h1 c1⟩, fun q => absurd c1 q⟩⟩
  · by_cases c2 : x0 ≤ 2000000000
    · exact ⟨7, ⟨fun q => absurd q c1, fun _ => ⟨fun _ => ⟨Or.inl rfl, h2 c1 c2⟩, fun q => absurd c2 q⟩⟩⟩
    · exact ⟨8, ⟨fun q => absurd q c1, fun _ => ⟨fun q => absurd q c2, fun _ => ⟨Or.inr rfl, h3 c1 c2⟩⟩⟩⟩
theorem sg_158_0 {x0 : Int32} {x1 : Int32} {M : px_Mem} {Q : px_Po} (h1 : (x0 < 2) → Q (some (.int 1)) M) (h2 : (¬ (x0 < 2)) → px_T 0 153 0 [some (.int x0)] [] M (fun r M1 => px_T 0 158 9 [some (.int x0), some (.int x1)] (r.toList ++ []) M1 Q)) : px_T 0 158 0 [some (.int x0), some (.int x1)] [] M Q := by
  by_cases c1 : x0 < 2
  · exact ⟨6, ⟨fun _ => ⟨Or.inr rfl, h1 c1⟩, fun q => absurd c1 q⟩⟩
  · obtain ⟨n, h⟩ := px_T_cl (k := 158) (pc := 6) (y := 153) (st := [.int x0]) rfl (h2 c1)
    exact ⟨n + 5, ⟨fun q => absurd q c1, fun _ => h⟩⟩
theorem sg_158_9 {x0 : Int32} {x1 : Int32} {s0 : Int32} {M : px_Mem} {Q : px_Po} (h1 : (s0 = 0) → (x1 < 2) → Q (some (.int 1)) M) (h2 : (s0 = 0) → (¬ (x1 < 2)) → px_T 0 153 0 [some (.int x1)] [] M (fun r M1 => px_T 0 158 21 [some (.int x0), some (.int x1)] (r.toList ++ []) M1 Q)) (h3 : (¬ (s0 = 0)) → Q (some (.int 1)) M) : px_T 0 158 9 [some (.int x0), some (.int x1)] [.int s0] M Q := by
  by_cases c1 : s0 = 0
  · by_cases c2 : x1 < 2
    · exact ⟨7, ⟨fun q => absurd c1 q, fun _ => ⟨fun _ => ⟨Or.inr rfl, h1 c1 c2⟩, fun q => absurd c2 q⟩⟩⟩
    · obtain ⟨n, h⟩ := px_T_cl (k := 158) (pc := 18) (y := 153) (st := [.int x1]) rfl (h2 c1 c2)
      exact ⟨n + 6, ⟨fun q => absurd c1 q, fun _ => ⟨fun q => absurd q c2, fun _ => h⟩⟩⟩
  · exact ⟨4, ⟨fun _ => ⟨Or.inr rfl, h3 c1⟩, fun q => absurd q c1⟩⟩
theorem sg_158_21 {x0 : Int32} {x1 : Int32} {s0 : Int32} {M : px_Mem} {Q : px_Po} (h1 : (s0 = 0) → (x0 = x1) → Q (some (.int 1)) M) (h2 : (s0 = 0) → (¬ (x0 = x1)) → Q (some (.int 0)) M) (h3 : (¬ (s0 = 0)) → Q (some (.int 1)) M) : px_T 0 158 21 [some (.int x0), some (.int x1)] [.int s0] M Q := by
  by_cases c1 : s0 = 0
  · by_cases c2 : x0 = x1
    · exact ⟨7, ⟨fun q => absurd c1 q, fun _ => ⟨fun q => absurd c2 q, fun _ => ⟨Or.inr rfl, h1 c1 c2⟩⟩⟩⟩
    · exact ⟨6, ⟨fun q => absurd c1 q, fun _ => ⟨fun _ => ⟨Or.inl rfl, h2 c1 c2⟩, fun q => absurd q c2⟩⟩⟩
  · exact ⟨4, ⟨fun _ => ⟨Or.inr rfl, h3 c1⟩, fun q => absurd q c1⟩⟩
theorem sg_159_0 {x1 : Int32} {x2 : Int32} {x3 : Int32} {M : px_Mem} {Q : px_Po} (h1 : px_T 0 152 0 [some (.ref 0), some (.int x1)] [] M (fun r M1 => px_T 0 159 5 [some (.ref 0), some (.int x1), some (.int x2), some (.int x3)] (r.toList ++ []) M1 Q)) : px_T 0 159 0 [some (.ref 0), some (.int x1), some (.int x2), some (.int x3)] [] M Q := by
  obtain ⟨n, h⟩ := px_T_cl (k := 159) (pc := 2) (y := 152) (st := [.int x1, .ref 0]) rfl (h1)
  exact ⟨n + 3, ⟨rfl, h⟩⟩
theorem sg_159_5 {x1 : Int32} {x2 : Int32} {x3 : Int32} {s0 : Int32} {M : px_Mem} {Q : px_Po} (h1 : (s0 = 0) → px_T 0 152 0 [some (.ref 0), some (.int x3)] [] M (fun r M1 => px_T 0 159 13 [some (.ref 0), some (.int x1), some (.int x2), some (.int x3)] (r.toList ++ []) M1 Q)) (h2 : (¬ (s0 = 0)) → Q (some (.int 1)) M) : px_T 0 159 5 [some (.ref 0), some (.int x1), some (.int x2), some (.int x3)] [.int s0] M Q := by
  by_cases c1 : s0 = 0
  · obtain ⟨n, h⟩ := px_T_cl (k := 159) (pc := 10) (y := 152) (st := [.int x3, .ref 0]) rfl (h1 c1)
    exact ⟨n + 4, ⟨fun q => absurd c1 q, fun _ => ⟨rfl, h⟩⟩⟩
  · exact ⟨4, ⟨fun _ => ⟨Or.inr rfl, h2 c1⟩, fun q => absurd q c1⟩⟩
theorem sg_159_13 {d0 : Option Value} {x1 : Int32} {x2 : Int32} {x3 : Int32} {s0 : Int32} {M : px_Mem} {Q : px_Po} (h1 : (s0 = 0) → (x3 ≤ x1) → Q (some (.int 1)) M) (h2 : (s0 = 0) → (¬ (x3 ≤ x1)) → (x2 < 1) → Q (some (.int 1)) M) (h3 : (s0 = 0) → (¬ (x3 ≤ x1)) → (¬ (x2 < 1)) → (x2 ≤ 40) → Q (some (.int 0)) M) (h4 : (s0 = 0) → (¬ (x3 ≤ x1)) → (¬ (x2 < 1)) → (¬ (x2 ≤ 40)) → Q (some (.int 1)) M) (h5 : (¬ (s0 = 0)) → Q (some (.int 1)) M) : px_T 0 159 13 [d0, some (.int x1), some (.int x2), some (.int x3)] [.int s0] M Q := by
  by_cases c1 : s0 = 0
  · by_cases c2 : x3 ≤ x1
    · exact ⟨7, ⟨fun q => absurd c1 q, fun _ => ⟨fun _ => ⟨Or.inr rfl, h1 c1 c2⟩, fun q => absurd c2 q⟩⟩⟩
    · by_cases c3 : x2 < 1
      · exact ⟨10, ⟨fun q => absurd c1 q, fun _ => ⟨fun q => absurd q c2, fun _ => ⟨fun _ => ⟨Or.inr rfl, h2 c1 c2 c3⟩, fun q => absurd c3 q⟩⟩⟩⟩
      · by_cases c4 : x2 ≤ 40
        · exact ⟨12, ⟨fun q => absurd c1 q, fun _ => ⟨fun q => absurd q c2, fun _ => ⟨fun q => absurd q c3, fun _ => ⟨fun _ => ⟨Or.inl rfl, h3 c1 c2 c3 c4⟩, fun q => absurd c4 q⟩⟩⟩⟩⟩
        · exact ⟨13, ⟨fun q => absurd c1 q, fun _ => ⟨fun q => absurd q c2, fun _ => ⟨fun q => absurd q c3, fun _ => ⟨fun q => absurd q c4, fun _ => ⟨Or.inr rfl, h4 c1 c2 c3 c4⟩⟩⟩⟩⟩⟩
  · exact ⟨4, ⟨fun _ => ⟨Or.inr rfl, h5 c1⟩, fun q => absurd q c1⟩⟩
theorem sg_160_0 {x1 : Int32} {x2 : Int32} {M : px_Mem} {Q : px_Po} (h1 : px_T 0 151 0 [some (.ref 0)] [] M (fun r M1 => px_T 0 160 4 [some (.ref 0), some (.int x1), some (.int x2)] (r.toList ++ []) M1 Q)) : px_T 0 160 0 [some (.ref 0), some (.int x1), some (.int x2)] [] M Q := by
  obtain ⟨n, h⟩ := px_T_cl (k := 160) (pc := 1) (y := 151) (st := [.ref 0]) rfl (h1)
  exact ⟨n + 2, ⟨rfl, h⟩⟩
theorem sg_160_4 {x1 : Int32} {x2 : Int32} {s0 : Int32} {M : px_Mem} {Q : px_Po} (h1 : (s0 = 0) → (x1 < 0) → Q (some (.int 1)) M) (h2 : (s0 = 0) → (¬ (x1 < 0)) → ((6 : Int32) < x1) → Q (some (.int 1)) M) (h3 : (s0 = 0) → (¬ (x1 < 0)) → (¬ ((6 : Int32) < x1)) → px_T 0 53 0 [some (.ref 4)] [] M (fun r M1 => px_T 0 160 25 [some (.ref 0), some (.int x1), some (.int x2)] (r.toList ++ [.int x1]) M1 Q)) (h4 : (¬ (s0 = 0)) → Q (some (.int 1)) M) : px_T 0 160 4 [some (.ref 0), some (.int x1), some (.int x2)] [.int s0] M Q := by
  by_cases c1 : s0 = 0
  · by_cases c2 : x1 < 0
    · exact ⟨6, ⟨fun q => absurd c1 q, fun _ => ⟨fun _ => ⟨Or.inr rfl, h1 c1 c2⟩, fun q => absurd c2 q⟩⟩⟩
    · by_cases c3 : (6 : Int32) < x1
      · exact ⟨9, ⟨fun q => absurd c1 q, fun _ => ⟨fun q => absurd q c2, fun _ => ⟨fun _ => ⟨Or.inr rfl, h2 c1 c2 c3⟩, fun q => absurd c3 q⟩⟩⟩⟩
      · obtain ⟨n, h⟩ := px_T_cl (k := 160) (pc := 22) (y := 53) (st := [.ref 4, .int x1]) rfl (h3 c1 c2 c3)
        exact ⟨n + 10, ⟨fun q => absurd c1 q, fun _ => ⟨fun q => absurd q c2, fun _ => ⟨fun q => absurd q c3, fun _ => ⟨rfl, ⟨rfl, h⟩⟩⟩⟩⟩⟩
  · exact ⟨4, ⟨fun _ => ⟨Or.inr rfl, h4 c1⟩, fun q => absurd q c1⟩⟩
theorem sg_160_25 {d0 : Option Value} {d1 : Option Value} {x2 : Int32} {s0 : Int32} {s1 : Int32} {M : px_Mem} {Q : px_Po} (h1 : (s0 < s1) → Q (some (.int 1)) M) (h2 : (¬ (s0 < s1)) → (x2 < 0) → Q (some (.int 1)) M) (h3 : (¬ (s0 < s1)) → (¬ (x2 < 0)) → (x2 ≤ 1) → Q (some (.int 0)) M) (h4 : (¬ (s0 < s1)) → (¬ (x2 < 0)) → (¬ (x2 ≤ 1)) → Q (some (.int 1)) M) : px_T 0 160 25 [d0, d1, some (.int x2)] [.int s0, .int s1] M Q := by
  by_cases c1 : s0 < s1
  · exact ⟨4, ⟨fun _ => ⟨Or.inr rfl, h1 c1⟩, fun q => absurd c1 q⟩⟩
  · by_cases c2 : x2 < 0
    · exact ⟨6, ⟨fun q => absurd q c1, fun _ => ⟨fun _ => ⟨Or.inr rfl, h2 c1 c2⟩, fun q => absurd c2 q⟩⟩⟩
    · by_cases c3 : x2 ≤ 1
      · exact ⟨8, ⟨fun q => absurd q c1, fun _ => ⟨fun q => absurd q c2, fun _ => ⟨fun _ => ⟨Or.inl rfl, h3 c1 c2 c3⟩, fun q => absurd c3 q⟩⟩⟩⟩
      · exact ⟨9, ⟨fun q => absurd q c1, fun _ => ⟨fun q => absurd q c2, fun _ => ⟨fun q => absurd q c3, fun _ => ⟨Or.inr rfl, h4 c1 c2 c3⟩⟩⟩⟩⟩
theorem sg_161_0 {x0 : Int32} {M : px_Mem} {Q : px_Po} (h1 : Q (some (.int (1 <<< ((x0 - 1) &&& 31)))) M) : px_T 0 161 0 [some (.int x0)] [] M Q := by
  exact ⟨6, ⟨trivial, h1⟩⟩
theorem sg_162_0 {M : px_Mem} {Q : px_Po} (h1 : px_T 0 162 4 [some (.ref 0), some (.int 0), some (.int 0)] [] M Q) : px_T 0 162 0 [some (.ref 0), none, none] [] M Q := by
  obtain ⟨n, h⟩ := h1
  exact ⟨n + 4, h⟩
theorem sg_162_4 {x1 : Int32} {x2 : Int32} {M : px_Mem} {Q : px_Po} (h1 : ((4 : Int32) ≤ x2) → Q (some (.int x1)) M) (h2 : (¬ ((4 : Int32) ≤ x2)) → vp_in x2 4) (h3 : (¬ ((4 : Int32) ≤ x2)) → px_sh 0 (px_rf 15 x2.toNatClampNeg) = some (.inl 4)) (h4 : (¬ ((4 : Int32) ≤ x2)) → ((M.1 (px_rf 15 x2.toNatClampNeg) 1) = 0) → px_T 0 162 4 [some (.ref 0), some (.int x1), some (.int (x2 + 1))] [] M Q) (h5 : (¬ ((4 : Int32) ≤ x2)) → (¬ ((M.1 (px_rf 15 x2.toNatClampNeg) 1) = 0)) → px_T 0 162 4 [some (.ref 0), some (.int (x1 + 1)), some (.int (x2 + 1))] [] M Q) : px_T 0 162 4 [some (.ref 0), some (.int x1), some (.int x2)] [] M Q := by
  by_cases c1 : (4 : Int32) ≤ x2
  · exact ⟨5, ⟨fun _ => ⟨trivial, h1 c1⟩, fun q => absurd c1 q⟩⟩
  · by_cases c2 : (M.1 (px_rf 15 x2.toNatClampNeg) 1) = 0
    · obtain ⟨n, h⟩ := h4 c1 c2
      exact ⟨n + 11, ⟨fun q => absurd q c1, fun _ => ⟨rfl, ⟨⟨5, 4, Or.inr (Or.inl rfl), rfl, (h2 c1)⟩, ⟨(h3 c1), ⟨fun _ => h, fun q => absurd c2 q⟩⟩⟩⟩⟩⟩
    · obtain ⟨n, h⟩ := h5 c1 c2
      exact ⟨n + 12, ⟨fun q => absurd q c1, fun _ => ⟨rfl, ⟨⟨5, 4, Or.inr (Or.inl rfl), rfl, (h2 c1)⟩, ⟨(h3 c1), ⟨fun q => absurd q c2, fun _ => h⟩⟩⟩⟩⟩⟩
theorem sg_163_0 {M : px_Mem} {Q : px_Po} (h1 : px_T 0 10 0 [some (.ref 28)] [] M (fun r M1 => px_T 0 163 7 [some (.ref 0)] (r.toList ++ []) M1 Q)) : px_T 0 163 0 [some (.ref 0)] [] M Q := by
  obtain ⟨n, h⟩ := px_T_cl (k := 163) (pc := 4) (y := 10) (st := [.ref 28]) rfl (h1)
  exact ⟨n + 3, ⟨rfl, ⟨rfl, h⟩⟩⟩
theorem sg_163_7 {M : px_Mem} {Q : px_Po} (h1 : px_T 0 43 0 [some (.ref 38)] [] M (fun r M1 => px_T 0 163 14 [some (.ref 0)] (r.toList ++ []) M1 Q)) : px_T 0 163 7 [some (.ref 0)] [] M Q := by
  obtain ⟨n, h⟩ := px_T_cl (k := 163) (pc := 11) (y := 43) (st := [.ref 38]) rfl (h1)
  exact ⟨n + 3, ⟨rfl, ⟨rfl, h⟩⟩⟩
theorem sg_163_14 {d0 : Option Value} {M : px_Mem} {Q : px_Po} (h1 : Q none M) : px_T 0 163 14 [d0] [] M Q := by
  exact ⟨1, ⟨rfl, h1⟩⟩
theorem sg_164_0 {x1 : Int32} {x2 : Int32} {x3 : Int32} {M : px_Mem} {Q : px_Po} (h1 : px_T 0 164 3 [some (.ref 0), some (.int x1), some (.int x2), some (.int x3), some (.int x3)] [] M Q) : px_T 0 164 0 [some (.ref 0), some (.int x1), some (.int x2), some (.int x3), none] [] M Q := by
  obtain ⟨n, h⟩ := h1
  exact ⟨n + 2, h⟩
theorem sg_164_3 {x1 : Int32} {x2 : Int32} {d3 : Option Value} {x4 : Int32} {M : px_Mem} {Q : px_Po} (h1 : px_T 0 53 0 [some (.ref 4)] [] M (fun r M1 => px_T 0 164 12 [some (.ref 0), some (.int x1), some (.int x2), d3, some (.int x4)] (r.toList ++ [.int x4]) M1 Q)) : px_T 0 164 3 [some (.ref 0), some (.int x1), some (.int x2), d3, some (.int x4)] [] M Q := by
  obtain ⟨n, h⟩ := px_T_cl (k := 164) (pc := 9) (y := 53) (st := [.ref 4, .int x4]) rfl (h1)
  exact ⟨n + 4, ⟨rfl, ⟨rfl, h⟩⟩⟩
theorem sg_164_12 {x1 : Int32} {x2 : Int32} {d3 : Option Value} {x4 : Int32} {s0 : Int32} {s1 : Int32} {M : px_Mem} {Q : px_Po} (h1 : (s0 < s1) → Q (some (.int (-1))) M) (h2 : (¬ (s0 < s1)) → px_T 0 11 0 [some (.ref 28), some (.int x4)] [] M (fun r M1 => px_T 0 164 24 [some (.ref 0), some (.int x1), some (.int x2), d3, some (.int x4)] (r.toList ++ []) M1 Q)) : px_T 0 164 12 [some (.ref 0), some (.int x1), some (.int x2), d3, some (.int x4)] [.int s0, .int s1] M Q := by
  by_cases c1 : s0 < s1
  · exact ⟨3, ⟨fun _ => ⟨trivial, h1 c1⟩, fun q => absurd c1 q⟩⟩
  · obtain ⟨n, h⟩ := px_T_cl (k := 164) (pc := 21) (y := 11) (st := [.int x4, .ref 28]) rfl (h2 c1)
    exact ⟨n + 5, ⟨fun q => absurd q c1, fun _ => ⟨rfl, ⟨rfl, h⟩⟩⟩⟩
theorem sg_164_24 {x1 : Int32} {x2 : Int32} {d3 : Option Value} {x4 : Int32} {s0 : Nat} {M : px_Mem} {Q : px_Po} (h_s0 : px_isW s0) (h1 : px_T 0 63 0 [some (.ref s0), some (.int x1)] [] M (fun r M1 => px_T 0 164 28 [some (.ref 0), some (.int x1), some (.int x2), d3, some (.int x4)] (r.toList ++ []) M1 Q)) : px_T 0 164 24 [some (.ref 0), some (.int x1), some (.int x2), d3, some (.int x4)] [.ref s0] M Q := by
  rcases h_s0 with rfl | rfl
  all_goals
    obtain ⟨n, h⟩ := px_T_cl (k := 164) (pc := 25) (y := 63) (st := [.int x1, .ref s0]) rfl (h1)
    exact ⟨n + 2, ⟨rfl, h⟩⟩
theorem sg_164_28 {x1 : Int32} {x2 : Int32} {d3 : Option Value} {x4 : Int32} {s0 : Int32} {M : px_Mem} {Q : px_Po} (h1 : (s0 = x2) → Q (some (.int x4)) M) (h2 : (¬ (s0 = x2)) → px_T 0 164 3 [some (.ref 0), some (.int x1), some (.int x2), d3, some (.int (x4 + 1))] [] M Q) : px_T 0 164 28 [some (.ref 0), some (.int x1), some (.int x2), d3, some (.int x4)] [.int s0] M Q := by
  by_cases c1 : s0 = x2
  · exact ⟨4, ⟨fun q => absurd c1 q, fun _ => ⟨trivial, h1 c1⟩⟩⟩
  · obtain ⟨n, h⟩ := h2 c1
    exact ⟨n + 4, ⟨fun _ => h, fun q => absurd q c1⟩⟩
theorem sg_165_0 {x1 : Int32} {x2 : Int32} {M : px_Mem} {Q : px_Po} (h1 : px_T 0 60 0 [some (.ref 47)] [] M (fun r M1 => px_T 0 165 7 [some (.ref 0), some (.int x1), some (.int x2), none, none] (r.toList ++ []) M1 Q)) : px_T 0 165 0 [some (.ref 0), some (.int x1), some (.int x2), none, none] [] M Q := by
  obtain ⟨n, h⟩ := px_T_cl (k := 165) (pc := 4) (y := 60) (st := [.ref 47]) rfl (h1)
  exact ⟨n + 3, ⟨rfl, ⟨rfl, h⟩⟩⟩
theorem sg_165_7 {x1 : Int32} {x2 : Int32} {d3 : Option Value} {d4 : Option Value} {M : px_Mem} {Q : px_Po} (h1 : px_T 0 165 12 [some (.ref 0), some (.int x1), some (.int x2), some (.int 0), some (.int 0)] [] M Q) : px_T 0 165 7 [some (.ref 0), some (.int x1), some (.int x2), d3, d4] [] M Q := by
  obtain ⟨n, h⟩ := h1
  exact ⟨n + 4, h⟩
theorem sg_165_12 {x1 : Int32} {x2 : Int32} {x3 : Int32} {x4 : Int32} {M : px_Mem} {Q : px_Po} (h1 : px_T 0 53 0 [some (.ref 4)] [] M (fun r M1 => px_T 0 165 21 [some (.ref 0), some (.int x1), some (.int x2), some (.int x3), some (.int x4)] (r.toList ++ [.int x4]) M1 Q)) : px_T 0 165 12 [some (.ref 0), some (.int x1), some (.int x2), some (.int x3), some (.int x4)] [] M Q := by
  obtain ⟨n, h⟩ := px_T_cl (k := 165) (pc := 18) (y := 53) (st := [.ref 4, .int x4]) rfl (h1)
  exact ⟨n + 4, ⟨rfl, ⟨rfl, h⟩⟩⟩
theorem sg_165_21 {x1 : Int32} {x2 : Int32} {x3 : Int32} {x4 : Int32} {s0 : Int32} {s1 : Int32} {M : px_Mem} {Q : px_Po} (h1 : (s0 ≤ s1) → Q (some (.int x3)) M) (h2 : (¬ (s0 ≤ s1)) → (x4 = x1) → px_T 0 165 12 [some (.ref 0), some (.int x1), some (.int x2), some (.int x3), some (.int (x4 + 1))] [] M Q) (h3 : (¬ (s0 ≤ s1)) → (¬ (x4 = x1)) → px_T 0 54 0 [some (.ref 4), some (.int x4)] [] M (fun r M1 => px_T 0 165 43 [some (.ref 0), some (.int x1), some (.int x2), some (.int x3), some (.int x4)] (r.toList ++ [.ref 47]) M1 Q)) : px_T 0 165 21 [some (.ref 0), some (.int x1), some (.int x2), some (.int x3), some (.int x4)] [.int s0, .int s1] M Q := by
  by_cases c1 : s0 ≤ s1
  · exact ⟨3, ⟨fun _ => ⟨trivial, h1 c1⟩, fun q => absurd c1 q⟩⟩
  · by_cases c2 : x4 = x1
    · obtain ⟨n, h⟩ := h2 c1 c2
      exact ⟨n + 6, ⟨fun q => absurd q c1, fun _ => ⟨fun _ => h, fun q => absurd c2 q⟩⟩⟩
    · obtain ⟨n, h⟩ := px_T_cl (k := 165) (pc := 40) (y := 54) (st := [.int x4, .ref 4, .ref 47]) rfl (h3 c1 c2)
      exact ⟨n + 10, ⟨fun q => absurd q c1, fun _ => ⟨fun q => absurd q c2, fun _ => ⟨rfl, ⟨rfl, ⟨rfl, h⟩⟩⟩⟩⟩⟩
theorem sg_165_43 {x1 : Int32} {x2 : Int32} {x3 : Int32} {x4 : Int32} {s0 : Int32} {M : px_Mem} {Q : px_Po} (h1 : px_T 0 73 0 [some (.ref 47), some (.int s0), some (.int x2), none, none, none, none] [] M (fun r M1 => px_T 0 165 47 [some (.ref 0), some (.int x1), some (.int x2), some (.int x3), some (.int x4)] (r.toList ++ []) M1 Q)) : px_T 0 165 43 [some (.ref 0), some (.int x1), some (.int x2), some (.int x3), some (.int x4)] [.int s0, .ref 47] M Q := by
  obtain ⟨n, h⟩ := px_T_cl (k := 165) (pc := 44) (y := 73) (st := [.int x2, .int s0, .ref 47]) rfl (h1)
  exact ⟨n + 2, ⟨rfl, h⟩⟩
theorem sg_165_47 {x1 : Int32} {x2 : Int32} {x3 : Int32} {x4 : Int32} {s0 : Int32} {M : px_Mem} {Q : px_Po} (h1 : (s0 = 0) → px_T 0 165 12 [some (.ref 0), some (.int x1), some (.int x2), some (.int x3), some (.int (x4 + 1))] [] M Q) (h2 : (¬ (s0 = 0)) → px_T 0 165 12 [some (.ref 0), some (.int x1), some (.int x2), some (.int (x3 + 1)), some (.int (x4 + 1))] [] M Q) : px_T 0 165 47 [some (.ref 0), some (.int x1), some (.int x2), some (.int x3), some (.int x4)] [.int s0] M Q := by
  by_cases c1 : s0 = 0
  · obtain ⟨n, h⟩ := h1 c1
    exact ⟨n + 3, ⟨fun _ => h, fun q => absurd c1 q⟩⟩
  · obtain ⟨n, h⟩ := h2 c1
    exact ⟨n + 4, ⟨fun q => absurd q c1, fun _ => h⟩⟩
theorem sg_166_0 {x1 : Int32} {M : px_Mem} {Q : px_Po} (h1 : px_T 0 165 0 [some (.ref 0), some (.int (-1)), some (.int x1), none, none] [] M (fun r M1 => px_T 0 166 6 [some (.ref 0), some (.int x1)] (r.toList ++ []) M1 Q)) : px_T 0 166 0 [some (.ref 0), some (.int x1)] [] M Q := by
  obtain ⟨n, h⟩ := px_T_cl (k := 166) (pc := 3) (y := 165) (st := [.int x1, .int (-1), .ref 0]) rfl (h1)
  exact ⟨n + 4, ⟨rfl, h⟩⟩
theorem sg_166_6 {d1 : Option Value} {s0 : Int32} {M : px_Mem} {Q : px_Po} (h1 : px_T 0 16 0 [some (.ref 44), some (.ref 47), none] [] M (fun r M1 => px_T 0 166 18 [some (.ref 0), d1] (r.toList ++ []) M1 Q)) : px_T 0 166 6 [some (.ref 0), d1] [.int s0] M Q := by
  obtain ⟨n, h⟩ := px_T_cl (k := 166) (pc := 15) (y := 16) (st := [.ref 47, .ref 44]) rfl (h1)
  exact ⟨n + 6, ⟨rfl, ⟨rfl, ⟨rfl, h⟩⟩⟩⟩
theorem sg_166_18 {d1 : Option Value} {M : px_Mem} {Q : px_Po} (h1 : px_T 0 332 0 [some (.int (M.1 44 3))] [] M (fun r M1 => px_T 0 166 28 [some (.ref 0), d1] (r.toList ++ []) M1 Q)) : px_T 0 166 18 [some (.ref 0), d1] [] M Q := by
  obtain ⟨n, h⟩ := px_T_cl (k := 166) (pc := 25) (y := 332) (st := [.int (M.1 44 3)]) rfl (h1)
  exact ⟨n + 4, ⟨rfl, ⟨rfl, h⟩⟩⟩
theorem sg_166_28 {d0 : Option Value} {d1 : Option Value} {s0 : Int32} {M : px_Mem} {Q : px_Po} (h1 : Q (some (.int s0)) M) : px_T 0 166 28 [d0, d1] [.int s0] M Q := by
  exact ⟨1, ⟨trivial, h1⟩⟩
theorem sg_167_0 {x1 : Int32} {M : px_Mem} {Q : px_Po} (h1 : px_T 0 156 0 [some (.int x1)] [] M (fun r M1 => px_T 0 167 4 [some (.ref 0), some (.int x1)] (r.toList ++ []) M1 Q)) : px_T 0 167 0 [some (.ref 0), some (.int x1)] [] M Q := by
  obtain ⟨n, h⟩ := px_T_cl (k := 167) (pc := 1) (y := 156) (st := [.int x1]) rfl (h1)
  exact ⟨n + 2, h⟩
theorem sg_167_4 {x1 : Int32} {s0 : Int32} {M : px_Mem} {Q : px_Po} (h1 : (s0 = 0) → px_T 0 151 0 [some (.ref 0)] [] M (fun r M1 => px_T 0 167 11 [some (.ref 0), some (.int x1)] (r.toList ++ []) M1 Q)) (h2 : (¬ (s0 = 0)) → Q (some (.int (-2))) M) : px_T 0 167 4 [some (.ref 0), some (.int x1)] [.int s0] M Q := by
  by_cases c1 : s0 = 0
  · obtain ⟨n, h⟩ := px_T_cl (k := 167) (pc := 8) (y := 151) (st := [.ref 0]) rfl (h1 c1)
    exact ⟨n + 3, ⟨fun q => absurd c1 q, fun _ => ⟨rfl, h⟩⟩⟩
  · exact ⟨3, ⟨fun _ => ⟨trivial, h2 c1⟩, fun q => absurd q c1⟩⟩
theorem sg_167_11 {x1 : Int32} {s0 : Int32} {M : px_Mem} {Q : px_Po} (h1 : (s0 = 0) → vp_in x1 4) (h2 : (s0 = 0) → px_sh 0 (px_rf 15 x1.toNatClampNeg) = some (.inl 4)) (h3 : (s0 = 0) → ((M.1 (px_rf 15 x1.toNatClampNeg) 1) = 0) → Q (some (.int (-6))) M) (h4 : (s0 = 0) → (¬ ((M.1 (px_rf 15 x1.toNatClampNeg) 1) = 0)) → vp_in x1 4) (h5 : (s0 = 0) → (¬ ((M.1 (px_rf 15 x1.toNatClampNeg) 1) = 0)) → px_T 0 53 0 [some (.ref 4)] [] M (fun r M1 => px_T 0 167 49 [some (.ref 0), some (.int x1)] (r.toList ++ [.ref (px_rf 15 x1.toNatClampNeg), .ref 24]) M1 Q)) (h6 : (¬ (s0 = 0)) → Q (some (.int (-2))) M) : px_T 0 167 11 [some (.ref 0), some (.int x1)] [.int s0] M Q := by
  by_cases c1 : s0 = 0
  · by_cases c2 : (M.1 (px_rf 15 x1.toNatClampNeg) 1) = 0
    · exact ⟨9, ⟨fun _ => ⟨rfl, ⟨⟨5, 4, Or.inr (Or.inl rfl), rfl, (h1 c1)⟩, ⟨(h2 c1), ⟨fun q => absurd c2 q, fun _ => ⟨trivial, h3 c1 c2⟩⟩⟩⟩⟩, fun q => absurd c1 q⟩⟩
    · obtain ⟨n, h⟩ := px_T_cl (k := 167) (pc := 46) (y := 53) (st := [.ref 4, .ref (px_rf 15 x1.toNatClampNeg), .ref 24]) rfl (h5 c1 c2)
      exact ⟨n + 16, ⟨fun _ => ⟨rfl, ⟨⟨5, 4, Or.inr (Or.inl rfl), rfl, (h1 c1)⟩, ⟨(h2 c1), ⟨fun _ => ⟨rfl, ⟨rfl, ⟨⟨5, 4, Or.inr (Or.inl rfl), rfl, (h4 c1 c2)⟩, ⟨rfl, ⟨rfl, h⟩⟩⟩⟩⟩, fun q => absurd q c2⟩⟩⟩⟩, fun q => absurd c1 q⟩⟩
  · exact ⟨3, ⟨fun q => absurd q c1, fun _ => ⟨trivial, h6 c1⟩⟩⟩
theorem sg_167_49 {d0 : Option Value} {d1 : Option Value} {s0 : Int32} {s1 : Nat} {M : px_Mem} {Q : px_Po} (h_s1 : px_isR s1) (h1 : px_T 0 40 0 [some (.ref 24), some (.ref s1), some (.int s0), none, none, none, none, none, none, none] [] M (fun r M1 => px_T 0 167 52 [d0, d1] (r.toList ++ []) M1 Q)) : px_T 0 167 49 [d0, d1] [.int s0, .ref s1, .ref 24] M Q := by
  rcases h_s1 with rfl | rfl | rfl | rfl
  all_goals
    obtain ⟨n, h⟩ := px_T_cl (k := 167) (pc := 49) (y := 40) (st := [.int s0, .ref s1, .ref 24]) rfl (h1)
    exact ⟨n + 1, ⟨rfl, h⟩⟩
theorem sg_167_52 {d0 : Option Value} {d1 : Option Value} {s0 : Int32} {M : px_Mem} {Q : px_Po} (h1 : (s0 = 0) → Q (some (.int (-2))) M) (h2 : (¬ (s0 = 0)) → Q (some (.int 0)) M) : px_T 0 167 52 [d0, d1] [.int s0] M Q := by
  by_cases c1 : s0 = 0
  · exact ⟨3, ⟨fun _ => ⟨trivial, h1 c1⟩, fun q => absurd c1 q⟩⟩
  · exact ⟨4, ⟨fun q => absurd q c1, fun _ => ⟨trivial, h2 c1⟩⟩⟩
theorem sg_168_0 {x1 : Int32} {x2 : Int32} {M : px_Mem} {Q : px_Po} (h1 : px_T 0 60 0 [some (.ref 47)] [] M (fun r M1 => px_T 0 168 7 [some (.ref 0), some (.int x1), some (.int x2), none, none] (r.toList ++ []) M1 Q)) : px_T 0 168 0 [some (.ref 0), some (.int x1), some (.int x2), none, none] [] M Q := by
  obtain ⟨n, h⟩ := px_T_cl (k := 168) (pc := 4) (y := 60) (st := [.ref 47]) rfl (h1)
  exact ⟨n + 3, ⟨rfl, ⟨rfl, h⟩⟩⟩
theorem sg_168_7 {x1 : Int32} {x2 : Int32} {d3 : Option Value} {d4 : Option Value} {M : px_Mem} {Q : px_Po} (h1 : px_T 0 42 0 [some (.ref 24), some (.int 0), some (.int 0), some (.ref 47), none] [] M (fun r M1 => px_T 0 168 20 [some (.ref 0), some (.int x1), some (.int x2), d3, d4] (r.toList ++ []) M1 Q)) : px_T 0 168 7 [some (.ref 0), some (.int x1), some (.int x2), d3, d4] [] M Q := by
  obtain ⟨n, h⟩ := px_T_cl (k := 168) (pc := 17) (y := 42) (st := [.ref 47, .int 0, .int 0, .ref 24]) rfl (h1)
  exact ⟨n + 7, ⟨rfl, ⟨rfl, ⟨rfl, h⟩⟩⟩⟩
theorem sg_168_20 {x1 : Int32} {x2 : Int32} {d3 : Option Value} {d4 : Option Value} {s0 : Int32} {M : px_Mem} {Q : px_Po} (h1 : px_T 0 168 24 [some (.ref 0), some (.int x1), some (.int x2), some (.int s0), some (.int 0)] [] M Q) : px_T 0 168 20 [some (.ref 0), some (.int x1), some (.int x2), d3, d4] [.int s0] M Q := by
  obtain ⟨n, h⟩ := h1
  exact ⟨n + 3, h⟩
theorem sg_168_24 {x1 : Int32} {x2 : Int32} {x3 : Int32} {x4 : Int32} {M : px_Mem} {Q : px_Po} (h1 : px_T 0 53 0 [some (.ref 4)] [] M (fun r M1 => px_T 0 168 33 [some (.ref 0), some (.int x1), some (.int x2), some (.int x3), some (.int x4)] (r.toList ++ [.int x4]) M1 Q)) : px_T 0 168 24 [some (.ref 0), some (.int x1), some (.int x2), some (.int x3), some (.int x4)] [] M Q := by
  obtain ⟨n, h⟩ := px_T_cl (k := 168) (pc := 30) (y := 53) (st := [.ref 4, .int x4]) rfl (h1)
  exact ⟨n + 4, ⟨rfl, ⟨rfl, h⟩⟩⟩
theorem sg_168_33 {x1 : Int32} {x2 : Int32} {x3 : Int32} {x4 : Int32} {s0 : Int32} {s1 : Int32} {M : px_Mem} {Q : px_Po} (h1 : (s0 ≤ s1) → (x3 < 0) → Q (some (.int 0)) M) (h2 : (s0 ≤ s1) → (¬ (x3 < 0)) → Q (some (.int 1)) M) (h3 : (¬ (s0 ≤ s1)) → (x3 < 0) → (x3 < 0) → Q (some (.int 0)) M) (h4 : (¬ (s0 ≤ s1)) → (x3 < 0) → (¬ (x3 < 0)) → Q (some (.int 1)) M) (h5 : (¬ (s0 ≤ s1)) → (¬ (x3 < 0)) → ((M.1 24 3) ≤ x3) → (x3 < 0) → Q (some (.int 0)) M) (h6 : (¬ (s0 ≤ s1)) → (¬ (x3 < 0)) → ((M.1 24 3) ≤ x3) → (¬ (x3 < 0)) → Q (some (.int 1)) M) (h7 : (¬ (s0 ≤ s1)) → (¬ (x3 < 0)) → (¬ ((M.1 24 3) ≤ x3)) → (x4 = x1) → px_T 0 42 0 [some (.ref 24), some (.int x3), some (.int (x4 + 1)), some (.ref 47), none] [] M (fun r M1 => px_T 0 168 91 [some (.ref 0), some (.int x1), some (.int x2), some (.int x3), some (.int x4)] (r.toList ++ []) M1 Q)) (h8 : (¬ (s0 ≤ s1)) → (¬ (x3 < 0)) → (¬ ((M.1 24 3) ≤ x3)) → (¬ (x4 = x1)) → px_T 0 54 0 [some (.ref 4), some (.int x4)] [] M (fun r M1 => px_T 0 168 70 [some (.ref 0), some (.int x1), some (.int x2), some (.int x3), some (.int x4)] (r.toList ++ [.ref 47]) M1 Q)) : px_T 0 168 33 [some (.ref 0), some (.int x1), some (.int x2), some (.int x3), some (.int x4)] [.int s0, .int s1] M Q := by
  by_cases c1 : s0 ≤ s1
  · by_cases c2 : x3 < 0
    · exact ⟨5, ⟨fun _ => ⟨fun _ => ⟨Or.inl rfl, h1 c1 c2⟩, fun q => absurd c2 q⟩, fun q => absurd c1 q⟩⟩
    · exact ⟨6, ⟨fun _ => ⟨fun q => absurd q c2, fun _ => ⟨Or.inr rfl, h2 c1 c2⟩⟩, fun q => absurd c1 q⟩⟩
  · by_cases c3 : x3 < 0
    · by_cases c4 : x3 < 0
      · exact ⟨7, ⟨fun q => absurd q c1, fun _ => ⟨fun _ => ⟨fun _ => ⟨Or.inl rfl, h3 c1 c3 c4⟩, fun q => absurd c4 q⟩, fun q => absurd c3 q⟩⟩⟩
      · exact ⟨8, ⟨fun q => absurd q c1, fun _ => ⟨fun _ => ⟨fun q => absurd q c4, fun _ => ⟨Or.inr rfl, h4 c1 c3 c4⟩⟩, fun q => absurd c3 q⟩⟩⟩
    · by_cases c5 : (M.1 24 3) ≤ x3
      · by_cases c6 : x3 < 0
        · exact ⟨12, ⟨fun q => absurd q c1, fun _ => ⟨fun q => absurd q c3, fun _ => ⟨rfl, ⟨rfl, ⟨fun _ => ⟨fun _ => ⟨Or.inl rfl, h5 c1 c3 c5 c6⟩, fun q => absurd c6 q⟩, fun q => absurd c5 q⟩⟩⟩⟩⟩⟩
        · exact ⟨13, ⟨fun q => absurd q c1, fun _ => ⟨fun q => absurd q c3, fun _ => ⟨rfl, ⟨rfl, ⟨fun _ => ⟨fun q => absurd q c6, fun _ => ⟨Or.inr rfl, h6 c1 c3 c5 c6⟩⟩, fun q => absurd c5 q⟩⟩⟩⟩⟩⟩
      · by_cases c7 : x4 = x1
        · obtain ⟨n, h⟩ := px_T_cl (k := 168) (pc := 88) (y := 42) (st := [.ref 47, .int (x4 + 1), .int x3, .ref 24]) rfl (h7 c1 c3 c5 c7)
          exact ⟨n + 20, ⟨fun q => absurd q c1, fun _ => ⟨fun q => absurd q c3, fun _ => ⟨rfl, ⟨rfl, ⟨fun q => absurd q c5, fun _ => ⟨fun _ => ⟨rfl, ⟨rfl, ⟨rfl, h⟩⟩⟩, fun q => absurd c7 q⟩⟩⟩⟩⟩⟩⟩
        · obtain ⟨n, h⟩ := px_T_cl (k := 168) (pc := 67) (y := 54) (st := [.int x4, .ref 4, .ref 47]) rfl (h8 c1 c3 c5 c7)
          exact ⟨n + 17, ⟨fun q => absurd q c1, fun _ => ⟨fun q => absurd q c3, fun _ => ⟨rfl, ⟨rfl, ⟨fun q => absurd q c5, fun _ => ⟨fun q => absurd q c7, fun _ => ⟨rfl, ⟨rfl, ⟨rfl, h⟩⟩⟩⟩⟩⟩⟩⟩⟩⟩
theorem sg_168_91 {x1 : Int32} {x2 : Int32} {d3 : Option Value} {x4 : Int32} {s0 : Int32} {M : px_Mem} {Q : px_Po} (h1 : px_T 0 168 24 [some (.ref 0), some (.int x1), some (.int x2), some (.int s0), some (.int (x4 + 1))] [] M Q) : px_T 0 168 91 [some (.ref 0), some (.int x1), some (.int x2), d3, some (.int x4)] [.int s0] M Q := by
  obtain ⟨n, h⟩ := h1
  exact ⟨n + 3, h⟩
theorem sg_168_70 {x1 : Int32} {x2 : Int32} {x3 : Int32} {x4 : Int32} {s0 : Int32} {M : px_Mem} {Q : px_Po} (h1 : px_T 0 73 0 [some (.ref 47), some (.int s0), some (.int x2), none, none, none, none] [] M (fun r M1 => px_T 0 168 74 [some (.ref 0), some (.int x1), some (.int x2), some (.int x3), some (.int x4)] (r.toList ++ []) M1 Q)) : px_T 0 168 70 [some (.ref 0), some (.int x1), some (.int x2), some (.int x3), some (.int x4)] [.int s0, .ref 47] M Q := by
  obtain ⟨n, h⟩ := px_T_cl (k := 168) (pc := 71) (y := 73) (st := [.int x2, .int s0, .ref 47]) rfl (h1)
  exact ⟨n + 2, ⟨rfl, h⟩⟩
theorem sg_168_74 {x1 : Int32} {x2 : Int32} {x3 : Int32} {x4 : Int32} {s0 : Int32} {M : px_Mem} {Q : px_Po} (h1 : px_T 0 42 0 [some (.ref 24), some (.int x3), some (.int (x4 + 1)), some (.ref 47), none] [] M (fun r M1 => px_T 0 168 91 [some (.ref 0), some (.int x1), some (.int x2), some (.int x3), some (.int x4)] (r.toList ++ []) M1 Q)) : px_T 0 168 74 [some (.ref 0), some (.int x1), some (.int x2), some (.int x3), some (.int x4)] [.int s0] M Q := by
  obtain ⟨n, h⟩ := px_T_cl (k := 168) (pc := 88) (y := 42) (st := [.ref 47, .int (x4 + 1), .int x3, .ref 24]) rfl (h1)
  exact ⟨n + 10, ⟨rfl, ⟨rfl, ⟨rfl, h⟩⟩⟩⟩
theorem sg_169_0 {x1 : Int32} {M : px_Mem} {Q : px_Po} (h1 : px_T 0 60 0 [some (.ref 47)] [] M (fun r M1 => px_T 0 169 7 [some (.ref 0), some (.int x1), none, none, none] (r.toList ++ []) M1 Q)) : px_T 0 169 0 [some (.ref 0), some (.int x1), none, none, none] [] M Q := by
  obtain ⟨n, h⟩ := px_T_cl (k := 169) (pc := 4) (y := 60) (st := [.ref 47]) rfl (h1)
  exact ⟨n + 3, ⟨rfl, ⟨rfl, h⟩⟩⟩
theorem sg_169_7 {x1 : Int32} {d2 : Option Value} {d3 : Option Value} {d4 : Option Value} {M : px_Mem} {Q : px_Po} (h1 : px_T 0 169 13 [some (.ref 0), some (.int x1), some (.int (x1 ||| 1)), some (.int 0), d4] [] M Q) : px_T 0 169 7 [some (.ref 0), some (.int x1), d2, d3, d4] [] M Q := by
  obtain ⟨n, h⟩ := h1
  exact ⟨n + 6, h⟩
theorem sg_169_13 {d1 : Option Value} {x2 : Int32} {x3 : Int32} {d4 : Option Value} {M : px_Mem} {Q : px_Po} (h1 : px_T 0 53 0 [some (.ref 4)] [] M (fun r M1 => px_T 0 169 21 [some (.ref 0), d1, some (.int x2), some (.int x3), d4] (r.toList ++ [.int x3]) M1 Q)) : px_T 0 169 13 [some (.ref 0), d1, some (.int x2), some (.int x3), d4] [] M Q := by
  obtain ⟨n, h⟩ := px_T_cl (k := 169) (pc := 18) (y := 53) (st := [.ref 4, .int x3]) rfl (h1)
  exact ⟨n + 4, ⟨rfl, ⟨rfl, h⟩⟩⟩
theorem sg_169_21 {d1 : Option Value} {x2 : Int32} {x3 : Int32} {d4 : Option Value} {s0 : Int32} {s1 : Int32} {M : px_Mem} {Q : px_Po} (h1 : (s0 ≤ s1) → px_T 0 332 0 [some (.int (M.1 47 0))] [] M (fun r M1 => px_T 0 169 81 [some (.ref 0), d1, some (.int x2), some (.int x3), d4] (r.toList ++ []) M1 Q)) (h2 : (¬ (s0 ≤ s1)) → px_T 0 54 0 [some (.ref 4), some (.int x3)] [] M (fun r M1 => px_T 0 169 32 [some (.ref 0), d1, some (.int x2), some (.int x3), d4] (r.toList ++ []) M1 Q)) : px_T 0 169 21 [some (.ref 0), d1, some (.int x2), some (.int x3), d4] [.int s0, .int s1] M Q := by
  by_cases c1 : s0 ≤ s1
  · obtain ⟨n, h⟩ := px_T_cl (k := 169) (pc := 78) (y := 332) (st := [.int (M.1 47 0)]) rfl (h1 c1)
    exact ⟨n + 5, ⟨fun _ => ⟨rfl, ⟨rfl, h⟩⟩, fun q => absurd c1 q⟩⟩
  · obtain ⟨n, h⟩ := px_T_cl (k := 169) (pc := 29) (y := 54) (st := [.int x3, .ref 4]) rfl (h2 c1)
    exact ⟨n + 5, ⟨fun q => absurd q c1, fun _ => ⟨rfl, ⟨rfl, h⟩⟩⟩⟩
theorem sg_169_81 {d0 : Option Value} {d1 : Option Value} {d2 : Option Value} {d3 : Option Value} {d4 : Option Value} {s0 : Int32} {M : px_Mem} {Q : px_Po} (h1 : Q (some (.int s0)) M) : px_T 0 169 81 [d0, d1, d2, d3, d4] [.int s0] M Q := by
  exact ⟨1, ⟨trivial, h1⟩⟩
theorem sg_169_32 {d1 : Option Value} {x2 : Int32} {x3 : Int32} {d4 : Option Value} {s0 : Int32} {M : px_Mem} {Q : px_Po} (h1 : px_T 0 3 0 [some (.int s0), some (.int 1)] [] M (fun r M1 => px_T 0 169 41 [some (.ref 0), d1, some (.int x2), some (.int x3), some (.int s0)] (r.toList ++ [.int x2]) M1 Q)) : px_T 0 169 32 [some (.ref 0), d1, some (.int x2), some (.int x3), d4] [.int s0] M Q := by
  obtain ⟨n, h⟩ := px_T_cl (k := 169) (pc := 38) (y := 3) (st := [.int 1, .int s0, .int x2]) rfl (h1)
  exact ⟨n + 5, h⟩
theorem sg_169_41 {d1 : Option Value} {x2 : Int32} {x3 : Int32} {x4 : Int32} {s0 : Int32} {s1 : Int32} {M : px_Mem} {Q : px_Po} (h1 : px_T 0 161 0 [some (.int s0)] [] M (fun r M1 => px_T 0 169 44 [some (.ref 0), d1, some (.int x2), some (.int x3), some (.int x4)] (r.toList ++ [.int s1]) M1 Q)) : px_T 0 169 41 [some (.ref 0), d1, some (.int x2), some (.int x3), some (.int x4)] [.int s0, .int s1] M Q := by
  obtain ⟨n, h⟩ := px_T_cl (k := 169) (pc := 41) (y := 161) (st := [.int s0, .int s1]) rfl (h1)
  exact ⟨n + 1, h⟩
theorem sg_169_44 {d1 : Option Value} {x2 : Int32} {x3 : Int32} {x4 : Int32} {s0 : Int32} {s1 : Int32} {M : px_Mem} {Q : px_Po} (h1 : ((s1 &&& s0) = 0) → px_T 0 169 13 [some (.ref 0), d1, some (.int x2), some (.int (x3 + 1)), some (.int x4)] [] M Q) (h2 : (¬ ((s1 &&& s0) = 0)) → px_T 0 73 0 [some (.ref 47), some (.int x4), some (.int (M.1 4 2)), none, none, none, none] [] M (fun r M1 => px_T 0 169 64 [some (.ref 0), d1, some (.int x2), some (.int x3), some (.int x4)] (r.toList ++ []) M1 Q)) : px_T 0 169 44 [some (.ref 0), d1, some (.int x2), some (.int x3), some (.int x4)] [.int s0, .int s1] M Q := by
  by_cases c1 : (s1 &&& s0) = 0
  · obtain ⟨n, h⟩ := h1 c1
    exact ⟨n + 4, ⟨fun _ => h, fun q => absurd c1 q⟩⟩
  · obtain ⟨n, h⟩ := px_T_cl (k := 169) (pc := 61) (y := 73) (st := [.int (M.1 4 2), .int x4, .ref 47]) rfl (h2 c1)
    exact ⟨n + 9, ⟨fun q => absurd q c1, fun _ => ⟨rfl, ⟨rfl, ⟨rfl, ⟨rfl, h⟩⟩⟩⟩⟩⟩
theorem sg_169_64 {d1 : Option Value} {x2 : Int32} {x3 : Int32} {d4 : Option Value} {s0 : Int32} {M : px_Mem} {Q : px_Po} (h1 : px_T 0 169 13 [some (.ref 0), d1, some (.int x2), some (.int (x3 + 1)), d4] [] M Q) : px_T 0 169 64 [some (.ref 0), d1, some (.int x2), some (.int x3), d4] [.int s0] M Q := by
  obtain ⟨n, h⟩ := h1
  exact ⟨n + 3, h⟩
theorem sg_170_0 {x1 : Int32} {x2 : Int32} {x3 : Int32} {x4 : Int32} {x5 : Int32} {M : px_Mem} {Q : px_Po} (h1 : px_T 0 53 0 [some (.ref 4)] [] M (fun r M1 => px_T 0 170 15 [some (.ref 0), some (.int x1), some (.int x2), some (.int x3), some (.int x4), some (.int x5), none, none] (r.toList ++ [.ref 28, .ref 47]) M1 Q)) : px_T 0 170 0 [some (.ref 0), some (.int x1), some (.int x2), some (.int x3), some (.int x4), some (.int x5), none, none] [] M Q := by
  obtain ⟨n, h⟩ := px_T_cl (k := 170) (pc := 12) (y := 53) (st := [.ref 4, .ref 28, .ref 47]) rfl (h1)
  exact ⟨n + 7, ⟨rfl, ⟨rfl, ⟨rfl, ⟨rfl, h⟩⟩⟩⟩⟩
theorem sg_170_15 {x1 : Int32} {x2 : Int32} {x3 : Int32} {x4 : Int32} {x5 : Int32} {d6 : Option Value} {d7 : Option Value} {s0 : Int32} {M : px_Mem} {Q : px_Po} (h1 : px_T 0 11 0 [some (.ref 28), some (.int s0)] [] M (fun r M1 => px_T 0 170 18 [some (.ref 0), some (.int x1), some (.int x2), some (.int x3), some (.int x4), some (.int x5), d6, d7] (r.toList ++ [.ref 47]) M1 Q)) : px_T 0 170 15 [some (.ref 0), some (.int x1), some (.int x2), some (.int x3), some (.int x4), some (.int x5), d6, d7] [.int s0, .ref 28, .ref 47] M Q := by
  obtain ⟨n, h⟩ := px_T_cl (k := 170) (pc := 15) (y := 11) (st := [.int s0, .ref 28, .ref 47]) rfl (h1)
  exact ⟨n + 1, ⟨rfl, h⟩⟩
theorem sg_170_18 {x1 : Int32} {x2 : Int32} {x3 : Int32} {x4 : Int32} {x5 : Int32} {d6 : Option Value} {d7 : Option Value} {s0 : Nat} {M : px_Mem} {Q : px_Po} (h_s0 : px_isW s0) (h1 : px_T 0 61 0 [some (.ref 47), some (.ref s0)] [] M (fun r M1 => px_T 0 170 21 [some (.ref 0), some (.int x1), some (.int x2), some (.int x3), some (.int x4), some (.int x5), d6, d7] (r.toList ++ []) M1 Q)) : px_T 0 170 18 [some (.ref 0), some (.int x1), some (.int x2), some (.int x3), some (.int x4), some (.int x5), d6, d7] [.ref s0, .ref 47] M Q := by
  rcases h_s0 with rfl | rfl
  all_goals
    obtain ⟨n, h⟩ := px_T_cl (k := 170) (pc := 18) (y := 61) (st := [.ref s0, .ref 47]) rfl (h1)
    exact ⟨n + 1, ⟨rfl, h⟩⟩
theorem sg_170_21 {x1 : Int32} {x2 : Int32} {x3 : Int32} {x4 : Int32} {x5 : Int32} {d6 : Option Value} {d7 : Option Value} {M : px_Mem} {Q : px_Po} (h1 : (x5 = 0) → px_T 0 63 0 [some (.ref 47), some (.int x1)] [] M (fun r M1 => px_T 0 170 42 [some (.ref 0), some (.int x1), some (.int x2), some (.int x3), some (.int x4), some (.int x5), some (.int x1), d7] (r.toList ++ []) M1 Q)) (h2 : (¬ (x5 = 0)) → px_T 0 63 0 [some (.ref 47), some (.int x2)] [] M (fun r M1 => px_T 0 170 42 [some (.ref 0), some (.int x1), some (.int x2), some (.int x3), some (.int x4), some (.int x5), some (.int x2), d7] (r.toList ++ []) M1 Q)) : px_T 0 170 21 [some (.ref 0), some (.int x1), some (.int x2), some (.int x3), some (.int x4), some (.int x5), d6, d7] [] M Q := by
  by_cases c1 : x5 = 0
  · obtain ⟨n, h⟩ := px_T_cl (k := 170) (pc := 39) (y := 63) (st := [.int x1, .ref 47]) rfl (h1 c1)
    exact ⟨n + 8, ⟨fun _ => ⟨rfl, ⟨rfl, h⟩⟩, fun q => absurd c1 q⟩⟩
  · obtain ⟨n, h⟩ := px_T_cl (k := 170) (pc := 39) (y := 63) (st := [.int x2, .ref 47]) rfl (h2 c1)
    exact ⟨n + 9, ⟨fun q => absurd q c1, fun _ => ⟨rfl, ⟨rfl, h⟩⟩⟩⟩
theorem sg_170_42 {x1 : Int32} {x2 : Int32} {x3 : Int32} {x4 : Int32} {x5 : Int32} {x6 : Int32} {d7 : Option Value} {s0 : Int32} {M : px_Mem} {Q : px_Po} (h1 : (x3 = 1) → px_T 0 0 0 [some (.int 2), some (.int x1), some (.int 0), some (.int 0)] [] M (fun r M1 => px_T 0 170 60 [some (.ref 0), some (.int x1), some (.int x2), some (.int x3), some (.int x4), some (.int x5), some (.int x6), some (.int s0)] (r.toList ++ [.ref 47]) M1 Q)) (h2 : (¬ (x3 = 1)) → (x4 = 1) → px_T 0 0 0 [some (.int 2), some (.int x2), some (.int 0), some (.int 0)] [] M (fun r M1 => px_T 0 170 88 [some (.ref 0), some (.int x1), some (.int x2), some (.int x3), some (.int x4), some (.int x5), some (.int x6), some (.int s0)] (r.toList ++ [.ref 47]) M1 Q)) (h3 : (¬ (x3 = 1)) → (¬ (x4 = 1)) → (x5 = 0) → (x3 = 1) → (s0 = 0) → Q (some (.int 0)) M) (h4 : (¬ (x3 = 1)) → (¬ (x4 = 1)) → (x5 = 0) → (x3 = 1) → (¬ (s0 = 0)) → Q (some (.int 2)) M) (h5 : (¬ (x3 = 1)) → (¬ (x4 = 1)) → (x5 = 0) → (¬ (x3 = 1)) → px_T 0 67 0 [some (.ref 47), some (.int x6), none, none] [] M (fun r M1 => px_T 0 170 135 [some (.ref 0), some (.int x1), some (.int x2), some (.int x3), some (.int x4), some (.int x5), some (.int x6), some (.int s0)] (r.toList ++ [.int 3]) M1 Q)) (h6 : (¬ (x3 = 1)) → (¬ (x4 = 1)) → (¬ (x5 = 0)) → (x4 = 1) → (s0 = 0) → Q (some (.int 0)) M) (h7 : (¬ (x3 = 1)) → (¬ (x4 = 1)) → (¬ (x5 = 0)) → (x4 = 1) → (¬ (s0 = 0)) → Q (some (.int 2)) M) (h8 : (¬ (x3 = 1)) → (¬ (x4 = 1)) → (¬ (x5 = 0)) → (¬ (x4 = 1)) → px_T 0 67 0 [some (.ref 47), some (.int x6), none, none] [] M (fun r M1 => px_T 0 170 135 [some (.ref 0), some (.int x1), some (.int x2), some (.int x3), some (.int x4), some (.int x5), some (.int x6), some (.int s0)] (r.toList ++ [.int 3]) M1 Q)) : px_T 0 170 42 [some (.ref 0), some (.int x1), some (.int x2), some (.int x3), some (.int x4), some (.int x5), some (.int x6), d7] [.int s0] M Q := by
  by_cases c1 : x3 = 1
  · obtain ⟨n, h⟩ := px_T_cl (k := 170) (pc := 57) (y := 0) (st := [.int 0, .int 0, .int x1, .int 2, .ref 47]) rfl (h1 c1)
    exact ⟨n + 11, ⟨fun q => absurd c1 q, fun _ => ⟨rfl, h⟩⟩⟩
  · by_cases c2 : x4 = 1
    · obtain ⟨n, h⟩ := px_T_cl (k := 170) (pc := 85) (y := 0) (st := [.int 0, .int 0, .int x2, .int 2, .ref 47]) rfl (h2 c1 c2)
      exact ⟨n + 14, ⟨fun _ => ⟨fun q => absurd c2 q, fun _ => ⟨rfl, h⟩⟩, fun q => absurd q c1⟩⟩
    · by_cases c3 : x5 = 0
      · by_cases c4 : x3 = 1
        · by_cases c5 : s0 = 0
          · exact ⟨16, ⟨fun _ => ⟨fun _ => ⟨fun _ => ⟨fun q => absurd c4 q, fun _ => ⟨fun _ => ⟨trivial, h3 c1 c2 c3 c4 c5⟩, fun q => absurd c5 q⟩⟩, fun q => absurd c3 q⟩, fun q => absurd q c2⟩, fun q => absurd q c1⟩⟩
          · exact ⟨17, ⟨fun _ => ⟨fun _ => ⟨fun _ => ⟨fun q => absurd c4 q, fun _ => ⟨fun q => absurd q c5, fun _ => ⟨trivial, h4 c1 c2 c3 c4 c5⟩⟩⟩, fun q => absurd c3 q⟩, fun q => absurd q c2⟩, fun q => absurd q c1⟩⟩
        · obtain ⟨n, h⟩ := px_T_cl (k := 170) (pc := 132) (y := 67) (st := [.int x6, .ref 47, .int 3]) rfl (h5 c1 c2 c3 c4)
          exact ⟨n + 17, ⟨fun _ => ⟨fun _ => ⟨fun _ => ⟨fun _ => ⟨rfl, ⟨rfl, h⟩⟩, fun q => absurd q c4⟩, fun q => absurd c3 q⟩, fun q => absurd q c2⟩, fun q => absurd q c1⟩⟩
      · by_cases c6 : x4 = 1
        · by_cases c7 : s0 = 0
          · exact ⟨17, ⟨fun _ => ⟨fun _ => ⟨fun q => absurd q c3, fun _ => ⟨fun q => absurd c6 q, fun _ => ⟨fun _ => ⟨trivial, h6 c1 c2 c3 c6 c7⟩, fun q => absurd c7 q⟩⟩⟩, fun q => absurd q c2⟩, fun q => absurd q c1⟩⟩
          · exact ⟨18, ⟨fun _ => ⟨fun _ => ⟨fun q => absurd q c3, fun _ => ⟨fun q => absurd c6 q, fun _ => ⟨fun q => absurd q c7, fun _ => ⟨trivial, h7 c1 c2 c3 c6 c7⟩⟩⟩⟩, fun q => absurd q c2⟩, fun q => absurd q c1⟩⟩
        · obtain ⟨n, h⟩ := px_T_cl (k := 170) (pc := 132) (y := 67) (st := [.int x6, .ref 47, .int 3]) rfl (h8 c1 c2 c3 c6)
          exact ⟨n + 18, ⟨fun _ => ⟨fun _ => ⟨fun q => absurd q c3, fun _ => ⟨fun _ => ⟨rfl, ⟨rfl, h⟩⟩, fun q => absurd q c6⟩⟩, fun q => absurd q c2⟩, fun q => absurd q c1⟩⟩
theorem sg_170_60 {d1 : Option Value} {x2 : Int32} {x3 : Int32} {x4 : Int32} {x5 : Int32} {x6 : Int32} {x7 : Int32} {s0 : Int32} {M : px_Mem} {Q : px_Po} (h1 : px_T 0 73 0 [some (.ref 47), some (.int s0), some (.int (M.1 4 2)), none, none, none, none] [] M (fun r M1 => px_T 0 170 70 [some (.ref 0), d1, some (.int x2), some (.int x3), some (.int x4), some (.int x5), some (.int x6), some (.int x7)] (r.toList ++ []) M1 Q)) : px_T 0 170 60 [some (.ref 0), d1, some (.int x2), some (.int x3), some (.int x4), some (.int x5), some (.int x6), some (.int x7)] [.int s0, .ref 47] M Q := by
  obtain ⟨n, h⟩ := px_T_cl (k := 170) (pc := 67) (y := 73) (st := [.int (M.1 4 2), .int s0, .ref 47]) rfl (h1)
  exact ⟨n + 4, ⟨rfl, ⟨rfl, ⟨rfl, h⟩⟩⟩⟩
theorem sg_170_88 {d1 : Option Value} {d2 : Option Value} {x3 : Int32} {x4 : Int32} {x5 : Int32} {x6 : Int32} {x7 : Int32} {s0 : Int32} {M : px_Mem} {Q : px_Po} (h1 : px_T 0 73 0 [some (.ref 47), some (.int s0), some (.int (M.1 4 2)), none, none, none, none] [] M (fun r M1 => px_T 0 170 98 [some (.ref 0), d1, d2, some (.int x3), some (.int x4), some (.int x5), some (.int x6), some (.int x7)] (r.toList ++ []) M1 Q)) : px_T 0 170 88 [some (.ref 0), d1, d2, some (.int x3), some (.int x4), some (.int x5), some (.int x6), some (.int x7)] [.int s0, .ref 47] M Q := by
  obtain ⟨n, h⟩ := px_T_cl (k := 170) (pc := 95) (y := 73) (st := [.int (M.1 4 2), .int s0, .ref 47]) rfl (h1)
  exact ⟨n + 4, ⟨rfl, ⟨rfl, ⟨rfl, h⟩⟩⟩⟩
theorem sg_170_135 {d0 : Option Value} {d1 : Option Value} {d2 : Option Value} {d3 : Option Value} {d4 : Option Value} {d5 : Option Value} {d6 : Option Value} {d7 : Option Value} {s0 : Int32} {s1 : Int32} {M : px_Mem} {Q : px_Po} (h1 : Q (some (.int (s1 * s0))) M) : px_T 0 170 135 [d0, d1, d2, d3, d4, d5, d6, d7] [.int s0, .int s1] M Q := by
  exact ⟨2, ⟨trivial, h1⟩⟩
theorem sg_170_70 {d1 : Option Value} {x2 : Int32} {x3 : Int32} {x4 : Int32} {x5 : Int32} {x6 : Int32} {x7 : Int32} {s0 : Int32} {M : px_Mem} {Q : px_Po} (h1 : (x4 = 1) → px_T 0 0 0 [some (.int 2), some (.int x2), some (.int 0), some (.int 0)] [] M (fun r M1 => px_T 0 170 88 [some (.ref 0), d1, some (.int x2), some (.int x3), some (.int x4), some (.int x5), some (.int x6), some (.int x7)] (r.toList ++ [.ref 47]) M1 Q)) (h2 : (¬ (x4 = 1)) → (x5 = 0) → (x3 = 1) → (x7 = 0) → Q (some (.int 0)) M) (h3 : (¬ (x4 = 1)) → (x5 = 0) → (x3 = 1) → (¬ (x7 = 0)) → Q (some (.int 2)) M) (h4 : (¬ (x4 = 1)) → (x5 = 0) → (¬ (x3 = 1)) → px_T 0 67 0 [some (.ref 47), some (.int x6), none, none] [] M (fun r M1 => px_T 0 170 135 [some (.ref 0), d1, some (.int x2), some (.int x3), some (.int x4), some (.int x5), some (.int x6), some (.int x7)] (r.toList ++ [.int 3]) M1 Q)) (h5 : (¬ (x4 = 1)) → (¬ (x5 = 0)) → (x4 = 1) → (x7 = 0) → Q (some (.int 0)) M) (h6 : (¬ (x4 = 1)) → (¬ (x5 = 0)) → (x4 = 1) → (¬ (x7 = 0)) → Q (some (.int 2)) M) (h7 : (¬ (x4 = 1)) → (¬ (x5 = 0)) → (¬ (x4 = 1)) → px_T 0 67 0 [some (.ref 47), some (.int x6), none, none] [] M (fun r M1 => px_T 0 170 135 [some (.ref 0), d1, some (.int x2), some (.int x3), some (.int x4), some (.int x5), some (.int x6), some (.int x7)] (r.toList ++ [.int 3]) M1 Q)) : px_T 0 170 70 [some (.ref 0), d1, some (.int x2), some (.int x3), some (.int x4), some (.int x5), some (.int x6), some (.int x7)] [.int s0] M Q := by
  by_cases c1 : x4 = 1
  · obtain ⟨n, h⟩ := px_T_cl (k := 170) (pc := 85) (y := 0) (st := [.int 0, .int 0, .int x2, .int 2, .ref 47]) rfl (h1 c1)
    exact ⟨n + 11, ⟨fun q => absurd c1 q, fun _ => ⟨rfl, h⟩⟩⟩
  · by_cases c2 : x5 = 0
    · by_cases c3 : x3 = 1
      · by_cases c4 : x7 = 0
        · exact ⟨13, ⟨fun _ => ⟨fun _ => ⟨fun q => absurd c3 q, fun _ => ⟨fun _ => ⟨trivial, h2 c1 c2 c3 c4⟩, fun q => absurd c4 q⟩⟩, fun q => absurd c2 q⟩, fun q => absurd q c1⟩⟩
        · exact ⟨14, ⟨fun _ => ⟨fun _ => ⟨fun q => absurd c3 q, fun _ => ⟨fun q => absurd q c4, fun _ => ⟨trivial, h3 c1 c2 c3 c4⟩⟩⟩, fun q => absurd c2 q⟩, fun q => absurd q c1⟩⟩
      · obtain ⟨n, h⟩ := px_T_cl (k := 170) (pc := 132) (y := 67) (st := [.int x6, .ref 47, .int 3]) rfl (h4 c1 c2 c3)
        exact ⟨n + 14, ⟨fun _ => ⟨fun _ => ⟨fun _ => ⟨rfl, ⟨rfl, h⟩⟩, fun q => absurd q c3⟩, fun q => absurd c2 q⟩, fun q => absurd q c1⟩⟩
    · by_cases c5 : x4 = 1
      · by_cases c6 : x7 = 0
        · exact ⟨14, ⟨fun _ => ⟨fun q => absurd q c2, fun _ => ⟨fun q => absurd c5 q, fun _ => ⟨fun _ => ⟨trivial, h5 c1 c2 c5 c6⟩, fun q => absurd c6 q⟩⟩⟩, fun q => absurd q c1⟩⟩
        · exact ⟨15, ⟨fun _ => ⟨fun q => absurd q c2, fun _ => ⟨fun q => absurd c5 q, fun _ => ⟨fun q => absurd q c6, fun _ => ⟨trivial, h6 c1 c2 c5 c6⟩⟩⟩⟩, fun q => absurd q c1⟩⟩
      · obtain ⟨n, h⟩ := px_T_cl (k := 170) (pc := 132) (y := 67) (st := [.int x6, .ref 47, .int 3]) rfl (h7 c1 c2 c5)
        exact ⟨n + 15, ⟨fun _ => ⟨fun q => absurd q c2, fun _ => ⟨fun _ => ⟨rfl, ⟨rfl, h⟩⟩, fun q => absurd q c5⟩⟩, fun q => absurd q c1⟩⟩
theorem sg_170_98 {d1 : Option Value} {d2 : Option Value} {x3 : Int32} {x4 : Int32} {x5 : Int32} {x6 : Int32} {x7 : Int32} {s0 : Int32} {M : px_Mem} {Q : px_Po} (h1 : (x5 = 0) → (x3 = 1) → (x7 = 0) → Q (some (.int 0)) M) (h2 : (x5 = 0) → (x3 = 1) → (¬ (x7 = 0)) → Q (some (.int 2)) M) (h3 : (x5 = 0) → (¬ (x3 = 1)) → px_T 0 67 0 [some (.ref 47), some (.int x6), none, none] [] M (fun r M1 => px_T 0 170 135 [some (.ref 0), d1, d2, some (.int x3), some (.int x4), some (.int x5), some (.int x6), some (.int x7)] (r.toList ++ [.int 3]) M1 Q)) (h4 : (¬ (x5 = 0)) → (x4 = 1) → (x7 = 0) → Q (some (.int 0)) M) (h5 : (¬ (x5 = 0)) → (x4 = 1) → (¬ (x7 = 0)) → Q (some (.int 2)) M) (h6 : (¬ (x5 = 0)) → (¬ (x4 = 1)) → px_T 0 67 0 [some (.ref 47), some (.int x6), none, none] [] M (fun r M1 => px_T 0 170 135 [some (.ref 0), d1, d2, some (.int x3), some (.int x4), some (.int x5), some (.int x6), some (.int x7)] (r.toList ++ [.int 3]) M1 Q)) : px_T 0 170 98 [some (.ref 0), d1, d2, some (.int x3), some (.int x4), some (.int x5), some (.int x6), some (.int x7)] [.int s0] M Q := by
  by_cases c1 : x5 = 0
  · by_cases c2 : x3 = 1
    · by_cases c3 : x7 = 0
      · exact ⟨10, ⟨fun _ => ⟨fun q => absurd c2 q, fun _ => ⟨fun _ => ⟨trivial, h1 c1 c2 c3⟩, fun q => absurd c3 q⟩⟩, fun q => absurd c1 q⟩⟩
      · exact ⟨11, ⟨fun _ => ⟨fun q => absurd c2 q, fun _ => ⟨fun q => absurd q c3, fun _ => ⟨trivial, h2 c1 c2 c3⟩⟩⟩, fun q => absurd c1 q⟩⟩
    · obtain ⟨n, h⟩ := px_T_cl (k := 170) (pc := 132) (y := 67) (st := [.int x6, .ref 47, .int 3]) rfl (h3 c1 c2)
      exact ⟨n + 11, ⟨fun _ => ⟨fun _ => ⟨rfl, ⟨rfl, h⟩⟩, fun q => absurd q c2⟩, fun q => absurd c1 q⟩⟩
  · by_cases c4 : x4 = 1
    · by_cases c5 : x7 = 0
      · exact ⟨11, ⟨fun q => absurd q c1, fun _ => ⟨fun q => absurd c4 q, fun _ => ⟨fun _ => ⟨trivial, h4 c1 c4 c5⟩, fun q => absurd c5 q⟩⟩⟩⟩
      · exact ⟨12, ⟨fun q => absurd q c1, fun _ => ⟨fun q => absurd c4 q, fun _ => ⟨fun q => absurd q c5, fun _ => ⟨trivial, h5 c1 c4 c5⟩⟩⟩⟩⟩
    · obtain ⟨n, h⟩ := px_T_cl (k := 170) (pc := 132) (y := 67) (st := [.int x6, .ref 47, .int 3]) rfl (h6 c1 c4)
      exact ⟨n + 12, ⟨fun q => absurd q c1, fun _ => ⟨fun _ => ⟨rfl, ⟨rfl, h⟩⟩, fun q => absurd q c4⟩⟩⟩
theorem sg_171_0 {x1 : Int32} {x2 : Int32} {M : px_Mem} {Q : px_Po} (h1 : px_T 0 53 0 [some (.ref 4)] [] M (fun r M1 => px_T 0 171 7 [some (.ref 0), some (.int x1), some (.int x2), none, none, none, none, none, none, none] (r.toList ++ []) M1 Q)) : px_T 0 171 0 [some (.ref 0), some (.int x1), some (.int x2), none, none, none, none, none, none, none] [] M Q := by
  obtain ⟨n, h⟩ := px_T_cl (k := 171) (pc := 4) (y := 53) (st := [.ref 4]) rfl (h1)
  exact ⟨n + 3, ⟨rfl, ⟨rfl, h⟩⟩⟩
theorem sg_171_7 {x1 : Int32} {x2 : Int32} {d3 : Option Value} {d4 : Option Value} {d5 : Option Value} {d6 : Option Value} {d7 : Option Value} {d8 : Option Value} {d9 : Option Value} {s0 : Int32} {M : px_Mem} {Q : px_Po} (h1 : px_T 0 171 16 [some (.ref 0), some (.int x1), some (.int x2), some (.int (s0 - x1)), some (.long 0), none, some (.int 0), d7, d8, d9] [] M Q) : px_T 0 171 7 [some (.ref 0), some (.int x1), some (.int x2), d3, d4, d5, d6, d7, d8, d9] [.int s0] M Q := by
  obtain ⟨n, h⟩ := h1
  exact ⟨n + 7, h⟩
theorem sg_171_16 {x1 : Int32} {x2 : Int32} {x3 : Int32} {x4 : Int64} {x6 : Int32} {d7 : Option Value} {d8 : Option Value} {d9 : Option Value} {M : px_Mem} {Q : px_Po} (h1 : ((1 <<< (x1 &&& 31)) ≤ x6) → Q (some (.long x4)) M) (h2 : (¬ ((1 <<< (x1 &&& 31)) ≤ x6)) → px_T 0 11 0 [some (.ref 28), some (.int x3)] [] M (fun r M1 => px_T 0 171 39 [some (.ref 0), some (.int x1), some (.int x2), some (.int x3), some (.long x4), none, some (.int x6), some (.long 1), none, d9] (r.toList ++ [.ref 47]) M1 Q)) : px_T 0 171 16 [some (.ref 0), some (.int x1), some (.int x2), some (.int x3), some (.long x4), none, some (.int x6), d7, d8, d9] [] M Q := by
  by_cases c1 : (1 <<< (x1 &&& 31)) ≤ x6
  · exact ⟨7, ⟨fun _ => ⟨rfl, h1 c1⟩, fun q => absurd c1 q⟩⟩
  · obtain ⟨n, h⟩ := px_T_cl (k := 171) (pc := 36) (y := 11) (st := [.int x3, .ref 28, .ref 47]) rfl (h2 c1)
    exact ⟨n + 13, ⟨fun q => absurd q c1, fun _ => ⟨rfl, ⟨rfl, ⟨rfl, h⟩⟩⟩⟩⟩
theorem sg_171_39 {x1 : Int32} {x2 : Int32} {x3 : Int32} {x4 : Int64} {x6 : Int32} {x7 : Int64} {d9 : Option Value} {s0 : Nat} {M : px_Mem} {Q : px_Po} (h_s0 : px_isW s0) (h1 : px_T 0 61 0 [some (.ref 47), some (.ref s0)] [] M (fun r M1 => px_T 0 171 42 [some (.ref 0), some (.int x1), some (.int x2), some (.int x3), some (.long x4), none, some (.int x6), some (.long x7), none, d9] (r.toList ++ []) M1 Q)) : px_T 0 171 39 [some (.ref 0), some (.int x1), some (.int x2), some (.int x3), some (.long x4), none, some (.int x6), some (.long x7), none, d9] [.ref s0, .ref 47] M Q := by
  rcases h_s0 with rfl | rfl
  all_goals
    obtain ⟨n, h⟩ := px_T_cl (k := 171) (pc := 39) (y := 61) (st := [.ref s0, .ref 47]) rfl (h1)
    exact ⟨n + 1, ⟨rfl, h⟩⟩
theorem sg_171_42 {x1 : Int32} {x2 : Int32} {x3 : Int32} {x4 : Int64} {x6 : Int32} {x7 : Int64} {d9 : Option Value} {M : px_Mem} {Q : px_Po} (h1 : px_T 0 171 45 [some (.ref 0), some (.int x1), some (.int x2), some (.int x3), some (.long x4), none, some (.int x6), some (.long x7), none, some (.int 0)] [] M Q) : px_T 0 171 42 [some (.ref 0), some (.int x1), some (.int x2), some (.int x3), some (.long x4), none, some (.int x6), some (.long x7), none, d9] [] M Q := by
  obtain ⟨n, h⟩ := h1
  exact ⟨n + 2, h⟩
theorem sg_171_45 {x1 : Int32} {x2 : Int32} {x3 : Int32} {x4 : Int64} {x6 : Int32} {x7 : Int64} {x9 : Int32} {M : px_Mem} {Q : px_Po} (h1 : (x1 ≤ x9) → px_T 0 332 0 [some (.int ((M.1 47 0) &&& x2))] [] M (fun r M1 => px_T 0 171 141 [some (.ref 0), some (.int x1), some (.int x2), some (.int x3), some (.long x4), none, some (.int x6), some (.long x7), none, some (.int x9)] (r.toList ++ [.long x7, .long x4]) M1 Q)) (h2 : (¬ (x1 ≤ x9)) → (((x6 >>> (x9 &&& 31)) &&& 1) = 0) → px_T 0 54 0 [some (.ref 4), some (.int (x3 + x9))] [] M (fun r M1 => px_T 0 171 108 [some (.ref 0), some (.int x1), some (.int x2), some (.int x3), some (.long x4), none, some (.int x6), some (.long (x7 * ((10 - (M.1 4 3)).toInt64))), none, some (.int x9)] (r.toList ++ [.ref 47]) M1 Q)) (h3 : (¬ (x1 ≤ x9)) → (¬ (((x6 >>> (x9 &&& 31)) &&& 1) = 0)) → px_T 0 171 45 [some (.ref 0), some (.int x1), some (.int x2), some (.int x3), some (.long x4), none, some (.int x6), some (.long (x7 * ((M.1 4 3).toInt64))), none, some (.int (x9 + 1))] [] M Q) : px_T 0 171 45 [some (.ref 0), some (.int x1), some (.int x2), some (.int x3), some (.long x4), none, some (.int x6), some (.long x7), none, some (.int x9)] [] M Q := by
  by_cases c1 : x1 ≤ x9
  · obtain ⟨n, h⟩ := px_T_cl (k := 171) (pc := 138) (y := 332) (st := [.int ((M.1 47 0) &&& x2), .long x7, .long x4]) rfl (h1 c1)
    exact ⟨n + 11, ⟨fun _ => ⟨rfl, ⟨rfl, h⟩⟩, fun q => absurd c1 q⟩⟩
  · by_cases c2 : ((x6 >>> (x9 &&& 31)) &&& 1) = 0
    · obtain ⟨n, h⟩ := px_T_cl (k := 171) (pc := 105) (y := 54) (st := [.int (x3 + x9), .ref 4, .ref 47]) rfl (h2 c1 c2)
      exact ⟨n + 26, ⟨fun q => absurd q c1, fun _ => ⟨fun _ => ⟨rfl, ⟨rfl, ⟨rfl, ⟨rfl, ⟨rfl, h⟩⟩⟩⟩⟩, fun q => absurd c2 q⟩⟩⟩
    · obtain ⟨n, h⟩ := h3 c1 c2
      exact ⟨n + 19, ⟨fun q => absurd q c1, fun _ => ⟨fun q => absurd q c2, fun _ => ⟨rfl, ⟨rfl, h⟩⟩⟩⟩⟩
theorem sg_171_141 {x1 : Int32} {x2 : Int32} {x3 : Int32} {d4 : Option Value} {x6 : Int32} {d7 : Option Value} {d9 : Option Value} {s0 : Int32} {s1 : Int64} {s2 : Int64} {M : px_Mem} {Q : px_Po} (h1 : px_T 0 171 16 [some (.ref 0), some (.int x1), some (.int x2), some (.int x3), some (.long (s2 + (s1 * s0.toInt64))), none, some (.int (x6 + 1)), d7, none, d9] [] M Q) : px_T 0 171 141 [some (.ref 0), some (.int x1), some (.int x2), some (.int x3), d4, none, some (.int x6), d7, none, d9] [.int s0, .long s1, .long s2] M Q := by
  obtain ⟨n, h⟩ := h1
  exact ⟨n + 6, h⟩
theorem sg_171_108 {x1 : Int32} {x2 : Int32} {x3 : Int32} {x4 : Int64} {x6 : Int32} {x7 : Int64} {x9 : Int32} {s0 : Int32} {M : px_Mem} {Q : px_Po} (h1 : px_T 0 73 0 [some (.ref 47), some (.int s0), some (.int (M.1 4 2)), none, none, none, none] [] M (fun r M1 => px_T 0 171 118 [some (.ref 0), some (.int x1), some (.int x2), some (.int x3), some (.long x4), none, some (.int x6), some (.long x7), none, some (.int x9)] (r.toList ++ []) M1 Q)) : px_T 0 171 108 [some (.ref 0), some (.int x1), some (.int x2), some (.int x3), some (.long x4), none, some (.int x6), some (.long x7), none, some (.int x9)] [.int s0, .ref 47] M Q := by
  obtain ⟨n, h⟩ := px_T_cl (k := 171) (pc := 115) (y := 73) (st := [.int (M.1 4 2), .int s0, .ref 47]) rfl (h1)
  exact ⟨n + 4, ⟨rfl, ⟨rfl, ⟨rfl, h⟩⟩⟩⟩
theorem sg_171_118 {x1 : Int32} {x2 : Int32} {x3 : Int32} {x4 : Int64} {x6 : Int32} {x7 : Int64} {x9 : Int32} {s0 : Int32} {M : px_Mem} {Q : px_Po} (h1 : px_T 0 171 45 [some (.ref 0), some (.int x1), some (.int x2), some (.int x3), some (.long x4), none, some (.int x6), some (.long x7), none, some (.int (x9 + 1))] [] M Q) : px_T 0 171 118 [some (.ref 0), some (.int x1), some (.int x2), some (.int x3), some (.long x4), none, some (.int x6), some (.long x7), none, some (.int x9)] [.int s0] M Q := by
  obtain ⟨n, h⟩ := h1
  exact ⟨n + 3, h⟩
theorem sg_172_0 {x0 : Int32} {M : px_Mem} {Q : px_Po} (h1 : px_T 0 172 4 [some (.int x0), some (.long 1), none, some (.int 0)] [] M Q) : px_T 0 172 0 [some (.int x0), none, none, none] [] M Q := by
  obtain ⟨n, h⟩ := h1
  exact ⟨n + 4, h⟩
theorem sg_172_4 {x0 : Int32} {x1 : Int64} {x3 : Int32} {M : px_Mem} {Q : px_Po} (h1 : (x0 ≤ x3) → Q (some (.long x1)) M) (h2 : (¬ (x0 ≤ x3)) → px_T 0 172 4 [some (.int x0), some (.long (x1 * 10)), none, some (.int (x3 + 1))] [] M Q) : px_T 0 172 4 [some (.int x0), some (.long x1), none, some (.int x3)] [] M Q := by
  by_cases c1 : x0 ≤ x3
  · exact ⟨5, ⟨fun _ => ⟨rfl, h1 c1⟩, fun q => absurd c1 q⟩⟩
  · obtain ⟨n, h⟩ := h2 c1
    exact ⟨n + 9, ⟨fun q => absurd q c1, fun _ => h⟩⟩
theorem sg_173_0 {x0 : Int64} {x2 : Int64} {x4 : Int32} {M : px_Mem} {Q : px_Po} (h1 : px_T 0 173 12 [some (.long x0), none, some (.long x2), none, some (.int x4), some (.long (if 0 < x0 then x0 else -x0)), none, some (.long x2), none, some (.int 0), none, none] [] M Q) : px_T 0 173 0 [some (.long x0), none, some (.long x2), none, some (.int x4), none, none, none, none, none, none, none] [] M Q := by
  obtain ⟨n, h⟩ := h1
  exact ⟨n + 7, ⟨(by decide), (by decide), (by decide), h⟩⟩
theorem sg_173_12 {x0 : Int64} {x2 : Int64} {x4 : Int32} {x5 : Int64} {x7 : Int64} {x9 : Int32} {d10 : Option Value} {d11 : Option Value} {M : px_Mem} {Q : px_Po} (h1 : ((200 : Int32) ≤ x9) → ((lg_cmp x7 0) = 0) → Q (some (.long 0)) M) (h2 : ((200 : Int32) ≤ x9) → (¬ ((lg_cmp x7 0) = 0)) → (x4 = 0) → ¬ x7 = 0) (h3 : ((200 : Int32) ≤ x9) → (¬ ((lg_cmp x7 0) = 0)) → (x4 = 0) → Q (some (.long (x0 / x7))) M) (h4 : ((200 : Int32) ≤ x9) → (¬ ((lg_cmp x7 0) = 0)) → (¬ (x4 = 0)) → ¬ x7 = 0) (h5 : ((200 : Int32) ≤ x9) → (¬ ((lg_cmp x7 0) = 0)) → (¬ (x4 = 0)) → Q (some (.long (x2 / x7))) M) (h6 : (¬ ((200 : Int32) ≤ x9)) → ((lg_cmp x5 0) = 0) → ((lg_cmp x7 0) = 0) → Q (some (.long 0)) M) (h7 : (¬ ((200 : Int32) ≤ x9)) → ((lg_cmp x5 0) = 0) → (¬ ((lg_cmp x7 0) = 0)) → (x4 = 0) → ¬ x7 = 0) (h8 : (¬ ((200 : Int32) ≤ x9)) → ((lg_cmp x5 0) = 0) → (¬ ((lg_cmp x7 0) = 0)) → (x4 = 0) → Q (some (.long (x0 / x7))) M) (h9 : (¬ ((200 : Int32) ≤ x9)) → ((lg_cmp x5 0) = 0) → (¬ ((lg_cmp x7 0) = 0)) → (¬ (x4 = 0)) → ¬ x7 = 0) (h10 : (¬ ((200 : Int32) ≤ x9)) → ((lg_cmp x5 0) = 0) → (¬ ((lg_cmp x7 0) = 0)) → (¬ (x4 = 0)) → Q (some (.long (x2 / x7))) M) (h11 : (¬ ((200 : Int32) ≤ x9)) → (¬ ((lg_cmp x5 0) = 0)) → ¬ x5 = 0) (h12 : (¬ ((200 : Int32) ≤ x9)) → (¬ ((lg_cmp x5 0) = 0)) → px_T 0 173 12 [some (.long x0), none, some (.long x2), none, some (.int x4), some (.long (x7 - x7 / x5 * x5)), none, some (.long x5), none, some (.int (x9 + 1)), some (.long (x7 - x7 / x5 * x5)), none] [] M Q) : px_T 0 173 12 [some (.long x0), none, some (.long x2), none, some (.int x4), some (.long x5), none, some (.long x7), none, some (.int x9), d10, d11] [] M Q := by
  by_cases c1 : (200 : Int32) ≤ x9
  · by_cases c2 : (lg_cmp x7 0) = 0
    · exact ⟨9, ⟨fun _ => ⟨fun q => absurd c2 q, fun _ => ⟨rfl, h1 c1 c2⟩⟩, fun q => absurd c1 q⟩⟩
    · by_cases c3 : x4 = 0
      · exact ⟨14, ⟨fun _ => ⟨fun _ => ⟨fun q => absurd c3 q, fun _ => ⟨(h2 c1 c2 c3), ⟨rfl, h3 c1 c2 c3⟩⟩⟩, fun q => absurd q c2⟩, fun q => absurd c1 q⟩⟩
      · exact ⟨13, ⟨fun _ => ⟨fun _ => ⟨fun _ => ⟨(h4 c1 c2 c3), ⟨rfl, h5 c1 c2 c3⟩⟩, fun q => absurd q c3⟩, fun q => absurd q c2⟩, fun q => absurd c1 q⟩⟩
  · by_cases c4 : (lg_cmp x5 0) = 0
    · by_cases c5 : (lg_cmp x7 0) = 0
      · exact ⟨13, ⟨fun q => absurd q c1, fun _ => ⟨fun _ => ⟨fun q => absurd c5 q, fun _ => ⟨rfl, h6 c1 c4 c5⟩⟩, fun q => absurd c4 q⟩⟩⟩
      · by_cases c6 : x4 = 0
        · exact ⟨18, ⟨fun q => absurd q c1, fun _ => ⟨fun _ => ⟨fun _ => ⟨fun q => absurd c6 q, fun _ => ⟨(h7 c1 c4 c5 c6), ⟨rfl, h8 c1 c4 c5 c6⟩⟩⟩, fun q => absurd q c5⟩, fun q => absurd c4 q⟩⟩⟩
        · exact ⟨17, ⟨fun q => absurd q c1, fun _ => ⟨fun _ => ⟨fun _ => ⟨fun _ => ⟨(h9 c1 c4 c5 c6), ⟨rfl, h10 c1 c4 c5 c6⟩⟩, fun q => absurd q c6⟩, fun q => absurd q c5⟩, fun q => absurd c4 q⟩⟩⟩
    · obtain ⟨n, h⟩ := h12 c1 c4
      exact ⟨n + 17, ⟨fun q => absurd q c1, fun _ => ⟨fun q => absurd q c4, fun _ => ⟨(h11 c1 c4), h⟩⟩⟩⟩
theorem sg_174_0 {x1 : Int64} {M : px_Mem} {Q : px_Po} (h1 : px_T 0 60 0 [some (.ref 47)] [] M (fun r M1 => px_T 0 174 7 [some (.ref 0), some (.long x1), none, none, none, none, none] (r.toList ++ []) M1 Q)) : px_T 0 174 0 [some (.ref 0), some (.long x1), none, none, none, none, none] [] M Q := by
  obtain ⟨n, h⟩ := px_T_cl (k := 174) (pc := 4) (y := 60) (st := [.ref 47]) rfl (h1)
  exact ⟨n + 3, ⟨rfl, ⟨rfl, h⟩⟩⟩
theorem sg_174_7 {x1 : Int64} {d3 : Option Value} {d4 : Option Value} {d5 : Option Value} {d6 : Option Value} {M : px_Mem} {Q : px_Po} (h1 : px_T 0 174 15 [some (.ref 0), some (.long x1), none, some (.long x1), none, some (.int 0), some (.int 0)] [] M Q) : px_T 0 174 7 [some (.ref 0), some (.long x1), none, d3, d4, d5, d6] [] M Q := by
  obtain ⟨n, h⟩ := h1
  exact ⟨n + 6, h⟩
theorem sg_174_15 {d1 : Option Value} {x3 : Int64} {x5 : Int32} {x6 : Int32} {M : px_Mem} {Q : px_Po} (h1 : px_T 0 53 0 [some (.ref 4)] [] M (fun r M1 => px_T 0 174 24 [some (.ref 0), d1, none, some (.long x3), none, some (.int x5), some (.int x6)] (r.toList ++ [.int x6]) M1 Q)) : px_T 0 174 15 [some (.ref 0), d1, none, some (.long x3), none, some (.int x5), some (.int x6)] [] M Q := by
  obtain ⟨n, h⟩ := px_T_cl (k := 174) (pc := 21) (y := 53) (st := [.ref 4, .int x6]) rfl (h1)
  exact ⟨n + 4, ⟨rfl, ⟨rfl, h⟩⟩⟩
theorem sg_174_24 {d1 : Option Value} {d2 : Option Value} {x3 : Int64} {x5 : Int32} {x6 : Int32} {s0 : Int32} {s1 : Int32} {M : px_Mem} {Q : px_Po} (h1 : (s0 ≤ s1) → Q (some (.int x5)) M) (h2 : (¬ (s0 ≤ s1)) → ((0 : Int32) ≤ (lg_cmp (((((1103515245 * x3) + 12345) - ((1103515245 * x3) + 12345) / 2147483648 * 2147483648) / 65536) - ((((1103515245 * x3) + 12345) - ((1103515245 * x3) + 12345) / 2147483648 * 2147483648) / 65536) / 10 * 10) ((M.1 4 3).toInt64))) → px_T 0 54 0 [some (.ref 4), some (.int x6)] [] M (fun r M1 => px_T 0 174 81 [some (.ref 0), d1, d2, some (.long (((1103515245 * x3) + 12345) - ((1103515245 * x3) + 12345) / 2147483648 * 2147483648)), none, some (.int x5), some (.int x6)] (r.toList ++ [.ref 47]) M1 Q)) (h3 : (¬ (s0 ≤ s1)) → (¬ ((0 : Int32) ≤ (lg_cmp (((((1103515245 * x3) + 12345) - ((1103515245 * x3) + 12345) / 2147483648 * 2147483648) / 65536) - ((((1103515245 * x3) + 12345) - ((1103515245 * x3) + 12345) / 2147483648 * 2147483648) / 65536) / 10 * 10) ((M.1 4 3).toInt64)))) → px_T 0 174 15 [some (.ref 0), d1, d2, some (.long (((1103515245 * x3) + 12345) - ((1103515245 * x3) + 12345) / 2147483648 * 2147483648)), none, some (.int (x5 + 1)), some (.int (x6 + 1))] [] M Q) : px_T 0 174 24 [some (.ref 0), d1, d2, some (.long x3), none, some (.int x5), some (.int x6)] [.int s0, .int s1] M Q := by
  by_cases c1 : s0 ≤ s1
  · exact ⟨3, ⟨fun _ => ⟨trivial, h1 c1⟩, fun q => absurd c1 q⟩⟩
  · by_cases c2 : (0 : Int32) ≤ (lg_cmp (((((1103515245 * x3) + 12345) - ((1103515245 * x3) + 12345) / 2147483648 * 2147483648) / 65536) - ((((1103515245 * x3) + 12345) - ((1103515245 * x3) + 12345) / 2147483648 * 2147483648) / 65536) / 10 * 10) ((M.1 4 3).toInt64))
    · obtain ⟨n, h⟩ := px_T_cl (k := 174) (pc := 78) (y := 54) (st := [.int x6, .ref 4, .ref 47]) rfl (h2 c1 c2)
      exact ⟨n + 26, ⟨fun q => absurd q c1, fun _ => ⟨(by decide), ⟨(by decide), ⟨(by decide), ⟨rfl, ⟨rfl, ⟨fun _ => ⟨rfl, ⟨rfl, ⟨rfl, h⟩⟩⟩, fun q => absurd c2 q⟩⟩⟩⟩⟩⟩⟩⟩
    · obtain ⟨n, h⟩ := h3 c1 c2
      exact ⟨n + 24, ⟨fun q => absurd q c1, fun _ => ⟨(by decide), ⟨(by decide), ⟨(by decide), ⟨rfl, ⟨rfl, ⟨fun q => absurd q c2, fun _ => h⟩⟩⟩⟩⟩⟩⟩⟩
theorem sg_174_81 {d1 : Option Value} {d2 : Option Value} {x3 : Int64} {x5 : Int32} {x6 : Int32} {s0 : Int32} {M : px_Mem} {Q : px_Po} (h1 : px_T 0 73 0 [some (.ref 47), some (.int s0), some (.int (M.1 4 2)), none, none, none, none] [] M (fun r M1 => px_T 0 174 91 [some (.ref 0), d1, d2, some (.long x3), none, some (.int x5), some (.int x6)] (r.toList ++ []) M1 Q)) : px_T 0 174 81 [some (.ref 0), d1, d2, some (.long x3), none, some (.int x5), some (.int x6)] [.int s0, .ref 47] M Q := by
  obtain ⟨n, h⟩ := px_T_cl (k := 174) (pc := 88) (y := 73) (st := [.int (M.1 4 2), .int s0, .ref 47]) rfl (h1)
  exact ⟨n + 4, ⟨rfl, ⟨rfl, ⟨rfl, h⟩⟩⟩⟩
theorem sg_174_91 {d1 : Option Value} {d2 : Option Value} {x3 : Int64} {x5 : Int32} {x6 : Int32} {s0 : Int32} {M : px_Mem} {Q : px_Po} (h1 : px_T 0 174 15 [some (.ref 0), d1, d2, some (.long x3), none, some (.int x5), some (.int (x6 + 1))] [] M Q) : px_T 0 174 91 [some (.ref 0), d1, d2, some (.long x3), none, some (.int x5), some (.int x6)] [.int s0] M Q := by
  obtain ⟨n, h⟩ := h1
  exact ⟨n + 3, h⟩
