theorem sg_169_81 {d0 : Option Value} {d1 : Option Value} {d2 : Option Value} {d3 : Option Value} {d4 : Option Value} {s0 : Int32} {M : px_Mem} {Q : px_Po} (h1 : Q (some (.int s0)) M) : px_T 0 169 81 [d0, d1, d2, d3, d4] [.int s0] M Q := by
  exact ⟨1, ⟨trivial, h1⟩⟩
theorem sg_169_32 {d1 : Option Value} {x2 : Int32} {x3 : Int32} {d4 : Option Value} {s0 : Int32} {M : px_Mem} {Q : px_Po} (h1 : px_T 0 3 0 [some (.int s0), some (.int 1)] [] M (fun r M1 => px_T 0 169 41 [some (.ref 0), d1, some (.int x2), some (.int x3), some (.int s0)] (r.toList ++ [.int x2]) M1 Q)) : px_T 0 169 32 [some (.ref 0), d1, some (.int x2), some (.int x3), d4] [.int s0] M Q := by
  obtain ⟨n, h⟩ := px_T_cl (k := 169) (pc := 38) (y := 3) (st := [.int 1, .int s0, .int x2]) rfl (h1)
  exact ⟨n + 5, h⟩
theorem sg_169_41 {d1 : Option Value} {x2 : Int32} {x3 : Int32} {x4 : Int32} {s0 : Int32} {s1 : Int32} {M : px_Mem} {Q : px_Po} (h1 : px_T 0 161 0 [some (.int s0)] [] M (fun r M1 => px_T 0 169 44 [some (.ref 0), d1, some (.int x2), some (.int x3), some (.int x4)] (r.toList ++ [.int s1]) M1 Q)) : px_T 0 169 41 [some (.ref 0), d1, some (.int x2), some (.int x3), some (.int x4)] [.int s0, .int s1] M Q := by
  obtain ⟨n, h⟩ := px_T_cl (k := 169) (pc := 41) (y := 161) (st := [.int s0, .int s1]) rfl (h1)
  exact ⟨n + 1, h⟩
theorem sg_169_44 {d1 : Option Value} {x2 : Int32} {x3 : Int32} {x4 : Int32} {s0 : Int32} {s1 : Int32} {M : px_Mem} {Q : px_Po} (h1 : ((s1 &&& s0) = 0) → px_T 0 169 13 [some (.ref 0), d1, some (.int x2), some (.int (x3 + 1)), some (.int x4)] [] M Q) (h2 : (¬ ((s1 &&& s0) = 0)) → px_T 0 73 0 [some (.ref 47), some (.int x4), some (.int (M.1 4 2)), none, none, none, none] [] M (fun r M1 => px_T 0 169 64 [some (.ref 0), d1, some (.int x2), some (.int x3), some (.int x4)] (r.toList ++ []) M1 Q)) : px_T 0 169 44 [some (.ref 0), d1, some (.int x2), some (.int x3), some (.int x4)] [.int s0, .int s1] M Q := by
  by_cases c1 : (s1 &&& s0) = 0
  · obtain ⟨n, h⟩ := h1 c1
    exact ⟨n + 4, ⟨fun _ => h, fun q => absurd c1 q⟩⟩
  · obtain ⟨n, h⟩ := px_T_cl (k := 169) (pc := 61) (y := 73) (st := [.int (M.1 4 2), .int x4, .ref 47]) rfl (h2 c1)
    exact ⟨n + 9, ⟨fun q => absurd q c1, fun _ => ⟨rfl, ⟨rfl, ⟨rfl, ⟨rfl, h⟩⟩⟩⟩⟩⟩
theorem sg_169_64 {d1 : Option Value} {x2 : Int32} {x3 : Int32} {d4 : Option Value} {s0 : Int32} {M : px_Mem} {Q : px_Po} (h1 : px_T 0 169 13 [some (.ref 0), d1, some (.int x2), some (.int (x3 + 1)), d4] [] M Q) : px_T 0 169 64 [some (.ref 0), d1, some (.int x2), some (.int x3), d4] [.int s0] M Q := by
  obtain ⟨n, h⟩ := h1
  exact ⟨n + 3, h⟩
theorem sg_170_0 {x1 : Int32} {x2 : Int32} {x3 : Int32} {x4 : Int32} {x5 : Int32} {M : px_Mem} {Q : px_Po} (h1 : px_T 0 53 0 [some (.ref 4)] [] M (fun r M1 => px_T 0 170 15 [some (.ref 0), some (.int x1), some (.int x2), some (.int x3), some (.int x4), some (.int x5), none, none] (r.toList ++ [.ref 28, .ref 47]) M1 Q)) : px_T 0 170 0 [some (.ref 0), some (.int x1), some (.int x2), some (.int x3), some (.int x4), some (.int x5), none, none] [] M Q := by
  obtain ⟨n, h⟩ := px_T_cl (k := 170) (pc := 12) (y := 53) (st := [.ref 4, .ref 28, .ref 47]) rfl (h1)
  exact ⟨n + 7, ⟨rfl, ⟨rfl, ⟨rfl, ⟨rfl, h⟩⟩⟩⟩⟩
theorem sg_170_15 {x1 : Int32} {x2 : Int32} {x3 : Int32} {x4 : Int32} {x5 : Int32} {d6 : Option Value} {d7 : Option Value} {s0 : Int32} {M : px_Mem} {Q : px_Po} (h1 : px_T 0 11 0 [some (.ref 28), some (.int s0)] [] M (fun r M1 => px_T 0 170 18 [some (.ref 0), some (.int x1), some (.int x2), some (.int x3), some (.int x4), some (.int x5), d6, d7] (r.toList ++ [.ref 47]) M1 Q)) : px_T 0 170 15 [some (.ref 0), some (.int x1), some (.int x2), some (.int x3), some (.int x4), some (.int x5), d6, d7] [.int s0, .ref 28, .ref 47] M Q := by
  obtain ⟨n, h⟩ := px_T_cl (k := 170) (pc := 15) (y := 11) (st := [.int s0, .ref 28, .ref 47]) rfl (h1)
  exact ⟨n + 1, ⟨rfl, h⟩⟩
theorem sg_170_18 {x1 : Int32} {x2 : Int32} {x3 : Int32} {x4 : Int32} {x5 : Int32} {d6 : Option Value} {d7 : Option Value} {s0 : Nat} {M : px_Mem} {Q : px_Po} (h_s0 : px_isW s0) (h1 : px_T 0 61 0 [some (.ref 47), some (.ref s0)] [] M (fun r M1 => px_T 0 170 21 [some (.ref 0), some (.int x1), some (.int x2), some (.int x3), some (.int x4), some (.int x5), d6, d7] (r.toList ++ []) M1 Q)) : px_T 0 170 18 [some (.ref 0), some (.int x1), some (.int x2), some (.int x3), some (.int x4), some (.int x5), d6, d7] [.ref s0, .ref 47] M Q := by
  rcases h_s0 with rfl | rfl
  · obtain ⟨n, h⟩ := px_T_cl (k := 170) (pc := 18) (y := 61) (st := [.ref 29, .ref 47]) rfl (h1)
    exact ⟨n + 1, ⟨rfl, h⟩⟩
  · obtain ⟨n, h⟩ := px_T_cl (k := 170) (pc := 18) (y := 61) (st := [.ref 47, .ref 47]) rfl (h1)
    exact ⟨n + 1, ⟨rfl, h⟩⟩
theorem sg_170_21 {x1 : Int32} {x2 : Int32} {x3 : Int32} {x4 : Int32} {x5 : Int32} {d6 : Option Value} {d7 : Option Value} {M : px_Mem} {Q : px_Po} (h1 : (x5 = 0) → px_T 0 63 0 [some (.ref 47), some (.int x1)] [] M (fun r M1 => px_T 0 170 42 [some (.ref 0), some (.int x1), some (.int x2), some (.int x3), some (.int x4), some (.int x5), some (.int x1), d7] (r.toList ++ []) M1 Q)) (h2 : (¬ (x5 = 0)) → px_T 0 63 0 [some (.ref 47), some (.int x2)] [] M (fun r M1 => px_T 0 170 42 [some (.ref 0), some (.int x1), some (.int x2), some (.int x3), some (.int x4), some (.int x5), some (.int x2), d7] (r.toList ++ []) M1 Q)) : px_T 0 170 21 [some (.ref 0), some (.int x1), some (.int x2), some (.int x3), some (.int x4), some (.int x5), d6, d7] [] M Q := by
  by_cases c1 : x5 = 0
  · obtain ⟨n, h⟩ := px_T_cl (k := 170) (pc := 39) (y := 63) (st := [.int x1, .ref 47]) rfl (h1 c1)
    exact ⟨n + 8, ⟨fun _ => ⟨rfl, ⟨rfl, h⟩⟩, fun q => absurd c1 q⟩⟩
  · obtain ⟨n, h⟩ := px_T_cl (k := 170) (pc := 39) (y := 63) (st := [.int x2, .ref 47]) rfl (h2 c1)
    exact ⟨n + 9, ⟨fun q => absurd q c1, fun _ => ⟨rfl, ⟨rfl, h⟩⟩⟩⟩
theorem sg_170_42 {x1 : Int32} {x2 : Int32} {x3 : Int32} {x4 : Int32} {x5 : Int32} {x6 : Int32} {d7 : Option Value} {s0 : Int32} {M : px_Mem} {Q : px_Po} (h1 : (x3 = 1) → px_T 0 0 0 [some (.int 2), some (.int x1), some (.int 0), some (.int 0)] [] M (fun r M1 => px_T 0 170 60 [some (.ref 0), some (.int x1), some (.int x2), some (.int x3), some (.int x4), some (.int x5), some (.int x6), some (.int s0)] (r.toList ++ [.ref 47]) M1 Q)) (h2 : (¬ (x3 = 1)) → (x4 = 1) → px_T 0 0 0 [some (.int 2), some (.int x2), some (.int 0), some (.int 0)] [] M (fun r M1 => px_T 0 170 88 [some (.ref 0), some (.int x1), some (.int x2), some (.int x3), some (.int x4), some (.int x5), some (.int x6), some (.int s0)] (r.toList ++ [.ref 47]) M1 Q)) (h3 : (¬ (x3 = 1)) → (¬ (x4 = 1)) → (x5 = 0) → (x3 = 1) → (s0 = 0) → Q (some (.int 0)) M) (h4 : (¬ (x3 = 1)) → (¬ (x4 = 1)) → (x5 = 0) → (x3 = 1) → (¬ (s0 = 0)) → Q (some (.int 2)) M) (h5 : (¬ (x3 = 1)) → (¬ (x4 = 1)) → (x5 = 0) → (¬ (x3 = 1)) → px_T 0 67 0 [some (.ref 47), some (.int x6), none, none] [] M (fun r M1 => px_T 0 170 135 [some (.ref 0), some (.int x1), some (.int x2), some (.int x3), some (.int x4), some (.int x5), some (.int x6), some (.int s0)] (r.toList ++ [.int 3]) M1 Q)) (h6 : (¬ (x3 = 1)) → (¬ (x4 = 1)) → (¬ (x5 = 0)) → (x4 = 1) → (s0 = 0) → Q (some (.int 0)) M) (h7 : (¬ (x3 = 1)) → (¬ (x4 = 1)) → (¬ (x5 = 0)) → (x4 = 1) → (¬ (s0 = 0)) → Q (some (.int 2)) M) (h8 : (¬ (x3 = 1)) → (¬ (x4 = 1)) → (¬ (x5 = 0)) → (¬ (x4 = 1)) → px_T 0 67 0 [some (.ref 47), some (.int x6), none, none] [] M (fun r M1 => px_T 0 170 135 [some (.ref 0), some (.int x1), some (.int x2), some (.int x3), some (.int x4), some (.int x5), some (.int x6), some (.int s0)] (r.toList ++ [.int 3]) M1 Q)) : px_T 0 170 42 [some (.ref 0), some (.int x1), some (.int x2), some (.int x3), some (.int x4), some (.int x5), some (.int x6), d7] [.int s0] M Q := by
  by_cases c1 : x3 = 1
  · obtain ⟨n, h⟩ := px_T_cl (k := 170) (pc := 57) (y := 0) (st := [.int 0, .int 0, .int x1, .int 2, .ref 47]) rfl (h1 c1)
    exact ⟨n + 11, ⟨fun q => absurd c1 q, fun _ => ⟨rfl, h⟩⟩⟩
  · by_cases c2 : x4 = 1
    · obtain ⟨n, h⟩ := px_T_cl (k := 170) (pc := 85) (y := 0) (st := [.int 0, .int 0, .int x2, .int 2, .ref 47]) rfl (h2 c1 c2)
      exact ⟨n + 14, ⟨fun _ => ⟨fun q => absurd c2 q, fun _ => ⟨rfl, h⟩⟩, fun q => absurd q c1⟩⟩
    · by_cases c3 : x5 = 0
      · by_cases c4 : x3 = 1
        · by_cases c5 : s0 = 0
          · exact ⟨16, ⟨fun _ => ⟨fun _ => ⟨fun _ => ⟨fun q => absurd c4 q, fun _ => ⟨fun _ => ⟨trivial, h3 c1 c2 c3 c4 c5⟩, fun q => absurd c5 q⟩⟩, fun q => absurd c3 q⟩, fun q => absurd q c2⟩, fun q => absurd q c1⟩⟩
          · exact ⟨17, ⟨fun _ => ⟨fun _ => ⟨fun _ => ⟨fun q => absurd c4 q, fun _ => ⟨fun q => absurd q c5, fun _ => ⟨trivial, h4 c1 c2 c3 c4 c5⟩⟩⟩, fun q => absurd c3 q⟩, fun q => absurd q c2⟩, fun q => absurd q c1⟩⟩
        · obtain ⟨n, h⟩ := px_T_cl (k := 170) (pc := 132) (y := 67) (st := [.int x6, .ref 47, .int 3]) rfl (h5 c1 c2 c3 c4)
          exact ⟨n + 17, ⟨fun _ => ⟨fun _ => ⟨fun _ => ⟨fun _ => ⟨rfl, ⟨rfl, h⟩⟩, fun q => absurd q c4⟩, fun q => absurd c3 q⟩, fun q => absurd q c2⟩, fun q => absurd q c1⟩⟩
      · by_cases c6 : x4 = 1
        · by_cases c7 : s0 = 0
          · exact ⟨17, ⟨fun _ => ⟨fun _ => ⟨fun q => absurd q c3, fun _ => ⟨fun q => absurd c6 q, fun _ => ⟨fun _ => ⟨trivial, h6 c1 c2 c3 c6 c7⟩, fun q => absurd c7 q⟩⟩⟩, fun q => absurd q c2⟩, fun q => absurd q c1⟩⟩
          · exact ⟨18, ⟨fun _ => ⟨fun _ => ⟨fun q => absurd q c3, fun _ => ⟨fun q => absurd c6 q, fun _ => ⟨fun q => absurd q c7, fun _ => ⟨trivial, h7 c1 c2 c3 c6 c7⟩⟩⟩⟩, fun q => absurd q c2⟩, fun q => absurd q c1⟩⟩
        · obtain ⟨n, h⟩ := px_T_cl (k := 170) (pc := 132) (y := 67) (st := [.int x6, .ref 47, .int 3]) rfl (h8 c1 c2 c3 c6)
          exact ⟨n + 18, ⟨fun _ => ⟨fun _ => ⟨fun q => absurd q c3, fun _ => ⟨fun _ => ⟨rfl, ⟨rfl, h⟩⟩, fun q => absurd q c6⟩⟩, fun q => absurd q c2⟩, fun q => absurd q c1⟩⟩
theorem sg_170_60 {d1 : Option Value} {x2 : Int32} {x3 : Int32} {x4 : Int32} {x5 : Int32} {x6 : Int32} {x7 : Int32} {s0 : Int32} {M : px_Mem} {Q : px_Po} (h1 : px_T 0 73 0 [some (.ref 47), some (.int s0), some (.int (M.1 4 2)), none, none, none, none] [] M (fun r M1 => px_T 0 170 70 [some (.ref 0), d1, some (.int x2), some (.int x3), some (.int x4), some (.int x5), some (.int x6), some (.int x7)] (r.toList ++ []) M1 Q)) : px_T 0 170 60 [some (.ref 0), d1, some (.int x2), some (.int x3), some (.int x4), some (.int x5), some (.int x6), some (.int x7)] [.int s0, .ref 47] M Q := by
  obtain ⟨n, h⟩ := px_T_cl (k := 170) (pc := 67) (y := 73) (st := [.int (M.1 4 2), .int s0, .ref 47]) rfl (h1)
  exact ⟨n + 4, ⟨rfl, ⟨rfl, ⟨rfl, h⟩⟩⟩⟩
theorem sg_170_88 {d1 : Option Value} {d2 : Option Value} {x3 : Int32} {x4 : Int32} {x5 : Int32} {x6 : Int32} {x7 : Int32} {s0 : Int32} {M : px_Mem} {Q : px_Po} (h1 : px_T 0 73 0 [some (.ref 47), some (.int s0), some (.int (M.1 4 2)), none, none, none, none] [] M (fun r M1 => px_T 0 170 98 [some (.ref 0), d1, d2, some (.int x3), some (.int x4), some (.int x5), some (.int x6), some (.int x7)] (r.toList ++ []) M1 Q)) : px_T 0 170 88 [some (.ref 0), d1, d2, some (.int x3), some (.int x4), some (.int x5), some (.int x6), some (.int x7)] [.int s0, .ref 47] M Q := by
  obtain ⟨n, h⟩ := px_T_cl (k := 170) (pc := 95) (y := 73) (st := [.int (M.1 4 2), .int s0, .ref 47]) rfl (h1)
  exact ⟨n + 4, ⟨rfl, ⟨rfl, ⟨rfl, h⟩⟩⟩⟩
theorem sg_170_135 {d0 : Option Value} {d1 : Option Value} {d2 : Option Value} {d3 : Option Value} {d4 : Option Value} {d5 : Option Value} {d6 : Option Value} {d7 : Option Value} {s0 : Int32} {s1 : Int32} {M : px_Mem} {Q : px_Po} (h1 : Q (some (.int (s1 * s0))) M) : px_T 0 170 135 [d0, d1, d2, d3, d4, d5, d6, d7] [.int s0, .int s1] M Q := by
  exact ⟨2, ⟨trivial, h1⟩⟩
theorem sg_170_70 {d1 : Option Value} {x2 : Int32} {x3 : Int32} {x4 : Int32} {x5 : Int32} {x6 : Int32} {x7 : Int32} {s0 : Int32} {M : px_Mem} {Q : px_Po} (h1 : (x4 = 1) → px_T 0 0 0 [some (.int 2), some (.int x2), some (.int 0), some (.int 0)] [] M (fun r M1 => px_T 0 170 88 [some (.ref 0), d1, some (.int x2), some (.int x3), some (.int x4), some (.int x5), some (.int x6), some (.int x7)] (r.toList ++ [.ref 47]) M1 Q)) (h2 : (¬ (x4 = 1)) → (x5 = 0) → (x3 = 1) → (x7 = 0) → Q (some (.int 0)) M) (h3 : (¬ (x4 = 1)) → (x5 = 0) → (x3 = 1) → (¬ (x7 = 0)) → Q (some (.int 2)) M) (h4 : (¬ (x4 = 1)) → (x5 = 0) → (¬ (x3 = 1)) → px_T 0 67 0 [some (.ref 47), some (.int x6), none, none] [] M (fun r M1 => px_T 0 170 135 [some (.ref 0), d1, some (.int x2), some (.int x3), some (.int x4), some (.int x5), some (.int x6), some (.int x7)] (r.toList ++ [.int 3]) M1 Q)) (h5 : (¬ (x4 = 1)) → (¬ (x5 = 0)) → (x4 = 1) → (x7 = 0) → Q (some (.int 0)) M) (h6 : (¬ (x4 = 1)) → (¬ (x5 = 0)) → (x4 = 1) → (¬ (x7 = 0)) → Q (some (.int 2)) M) (h7 : (¬ (x4 = 1)) → (¬ (x5 = 0)) → (¬ (x4 = 1)) → px_T 0 67 0 [some (.ref 47), some (.int x6), none, none] [] M (fun r M1 => px_T 0 170 135 [some (.ref 0), d1, some (.int x2), some (.int x3), some (.int x4), some (.int x5), some (.int x6), some (.int x7)] (r.toList ++ [.int 3]) M1 Q)) : px_T 0 170 70 [some (.ref 0), d1, some (.int x2), some (.int x3), some (.int x4), some (.int x5), some (.int x6), some (.int x7)] [.int s0] M Q := by
  by_cases c1 : x4 = 1
  · obtain ⟨n, h⟩ := px_T_cl (k := 170) (pc := 85) (y := 0) (st := [.int 0, .int 0, .int x2, .int 2, .ref 47]) rfl (h1 c1)
    exact ⟨n + 11, ⟨fun q => absurd c1 q, fun _ => ⟨rfl, h⟩⟩⟩
  · by_cases c2 : x5 = 0
    · by_cases c3 : x3 = 1
      · by_cases c4 : x7 = 0
        · exact ⟨13, ⟨fun _ => ⟨fun _ => ⟨fun q => absurd c3 q, fun _ => ⟨fun _ => ⟨trivial, h2 c1 c2 c3 c4⟩, fun q => absurd c4 q⟩⟩, fun q => absurd c2 q⟩, fun q => absurd q c1⟩⟩
        · exact ⟨14, ⟨fun _ => ⟨fun _ => ⟨fun q => absurd c3 q, fun _ => ⟨fun q => absurd q c4, fun _ => ⟨trivial, h3 c1 c2 c3 c4⟩⟩⟩, fun q => absurd c2 q⟩, fun q => absurd q c1⟩⟩
      · obtain ⟨n, h⟩ := px_T_cl (k := 170) (pc := 132) (y := 67) (st := [.int x6, .ref 47, .int 3]) rfl (h4 c1 c2 c3)
        exact ⟨n + 14, ⟨fun _ => ⟨fun _ => ⟨fun _ => ⟨rfl, ⟨rfl, h⟩⟩, fun q => absurd q c3⟩, fun q => absurd c2 q⟩, fun q => absurd q c1⟩⟩
    · by_cases c5 : x4 = 1
      · by_cases c6 : x7 = 0
        · exact ⟨14, ⟨fun _ => ⟨fun q => absurd q c2, fun _ => ⟨fun q => absurd c5 q, fun _ => ⟨fun _ => ⟨trivial, h5 c1 c2 c5 c6⟩, fun q => absurd c6 q⟩⟩⟩, fun q => absurd q c1⟩⟩
        · exact ⟨15, ⟨fun _ => ⟨fun q => absurd q c2, fun _ => ⟨fun q => absurd c5 q, fun _ => ⟨fun q => absurd q c6, fun _ => ⟨trivial, h6 c1 c2 c5 c6⟩⟩⟩⟩, fun q => absurd q c1⟩⟩
      · obtain ⟨n, h⟩ := px_T_cl (k := 170) (pc := 132) (y := 67) (st := [.int x6, .ref 47, .int 3]) rfl (h7 c1 c2 c5)
        exact ⟨n + 15, ⟨fun _ => ⟨fun q => absurd q c2, fun _ => ⟨fun _ => ⟨rfl, ⟨rfl, h⟩⟩, fun q => absurd q c5⟩⟩, fun q => absurd q c1⟩⟩
theorem sg_170_98 {d1 : Option Value} {d2 : Option Value} {x3 : Int32} {x4 : Int32} {x5 : Int32} {x6 : Int32} {x7 : Int32} {s0 : Int32} {M : px_Mem} {Q : px_Po} (h1 : (x5 = 0) → (x3 = 1) → (x7 = 0) → Q (some (.int 0)) M) (h2 : (x5 = 0) → (x3 = 1) → (¬ (x7 = 0)) → Q (some (.int 2)) M) (h3 : (x5 = 0) → (¬ (x3 = 1)) → px_T 0 67 0 [some (.ref 47), some (.int x6), none, none] [] M (fun r M1 => px_T 0 170 135 [some (.ref 0), d1, d2, some (.int x3), some (.int x4), some (.int x5), some (.int x6), some (.int x7)] (r.toList ++ [.int 3]) M1 Q)) (h4 : (¬ (x5 = 0)) → (x4 = 1) → (x7 = 0) → Q (some (.int 0)) M) (h5 : (¬ (x5 = 0)) → (x4 = 1) → (¬ (x7 = 0)) → Q (some (.int 2)) M) (h6 : (¬ (x5 = 0)) → (¬ (x4 = 1)) → px_T 0 67 0 [some (.ref 47), some (.int x6), none, none] [] M (fun r M1 => px_T 0 170 135 [some (.ref 0), d1, d2, some (.int x3), some (.int x4), some (.int x5), some (.int x6), some (.int x7)] (r.toList ++ [.int 3]) M1 Q)) : px_T 0 170 98 [some (.ref 0), d1, d2, some (.int x3), some (.int x4), some (.int x5), some (.int x6), some (.int x7)] [.int s0] M Q := by
  by_cases c1 : x5 = 0
  · by_cases c2 : x3 = 1
    · by_cases c3 : x7 = 0
      · exact ⟨10, ⟨fun _ => ⟨fun q => absurd c2 q, fun _ => ⟨fun _ => ⟨trivial, h1 c1 c2 c3⟩, fun q => absurd c3 q⟩⟩, fun q => absurd c1 q⟩⟩
      · exact ⟨11, ⟨fun _ => ⟨fun q => absurd c2 q, fun _ => ⟨fun q => absurd q c3, fun _ => ⟨trivial, h2 c1 c2 c3⟩⟩⟩, fun q => absurd c1 q⟩⟩
    · obtain ⟨n, h⟩ := px_T_cl (k := 170) (pc := 132) (y := 67) (st := [.int x6, .ref 47, .int 3]) rfl (h3 c1 c2)
      exact ⟨n + 11, ⟨fun _ => ⟨fun _ => ⟨rfl, ⟨rfl, h⟩⟩, fun q => absurd q c2⟩, fun q => absurd c1 q⟩⟩
  · by_cases c4 : x4 = 1
    · by_cases c5 : x7 = 0
      · exact ⟨11, ⟨fun q => absurd q c1, fun _ => ⟨fun q => absurd c4 q, fun _ => ⟨fun _ => ⟨trivial, h4 c1 c4 c5⟩, fun q => absurd c5 q⟩⟩⟩⟩
      · exact ⟨12, ⟨fun q => absurd q c1, fun _ => ⟨fun q => absurd c4 q, fun _ => ⟨fun q => absurd q c5, fun _ => ⟨trivial, h5 c1 c4 c5⟩⟩⟩⟩⟩
    · obtain ⟨n, h⟩ := px_T_cl (k := 170) (pc := 132) (y := 67) (st := [.int x6, .ref 47, .int 3]) rfl (h6 c1 c4)
      exact ⟨n + 12, ⟨fun q => absurd q c1, fun _ => ⟨fun _ => ⟨rfl, ⟨rfl, h⟩⟩, fun q => absurd q c4⟩⟩⟩
theorem sg_171_0 {x1 : Int32} {x2 : Int32} {M : px_Mem} {Q : px_Po} (h1 : px_T 0 53 0 [some (.ref 4)] [] M (fun r M1 => px_T 0 171 7 [some (.ref 0), some (.int x1), some (.int x2), none, none, none, none, none, none, none] (r.toList ++ []) M1 Q)) : px_T 0 171 0 [some (.ref 0), some (.int x1), some (.int x2), none, none, none, none, none, none, none] [] M Q := by
  obtain ⟨n, h⟩ := px_T_cl (k := 171) (pc := 4) (y := 53) (st := [.ref 4]) rfl (h1)
  exact ⟨n + 3, ⟨rfl, ⟨rfl, h⟩⟩⟩
theorem sg_171_7 {x1 : Int32} {x2 : Int32} {d3 : Option Value} {d4 : Option Value} {d5 : Option Value} {d6 : Option Value} {d7 : Option Value} {d8 : Option Value} {d9 : Option Value} {s0 : Int32} {M : px_Mem} {Q : px_Po} (h1 : px_T 0 171 16 [some (.ref 0), some (.int x1), some (.int x2), some (.int (s0 - x1)), some (.long 0), none, some (.int 0), d7, d8, d9] [] M Q) : px_T 0 171 7 [some (.ref 0), some (.int x1), some (.int x2), d3, d4, d5, d6, d7, d8, d9] [.int s0] M Q := by
  obtain ⟨n, h⟩ := h1
  exact ⟨n + 7, h⟩
theorem sg_171_16 {x1 : Int32} {x2 : Int32} {x3 : Int32} {x4 : Int64} {x6 : Int32} {d7 : Option Value} {d8 : Option Value} {d9 : Option Value} {M : px_Mem} {Q : px_Po} (h1 : ((1 <<< (x1 &&& 31)) ≤ x6) → Q (some (.long x4)) M) (h2 : (¬ ((1 <<< (x1 &&& 31)) ≤ x6)) → px_T 0 11 0 [some (.ref 28), some (.int x3)] [] M (fun r M1 => px_T 0 171 39 [some (.ref 0), some (.int x1), some (.int x2), some (.int x3), some (.long x4), none, some (.int x6), some (.long 1), none, d9] (r.toList ++ [.ref 47]) M1 Q)) : px_T 0 171 16 [some (.ref 0), some (.int x1), some (.int x2), some (.int x3), some (.long x4), none, some (.int x6), d7, d8, d9] [] M Q := by
  by_cases c1 : (1 <<< (x1 &&& 31)) ≤ x6
  · exact ⟨7, ⟨fun _ => ⟨rfl, h1 c1⟩, fun q => absurd c1 q⟩⟩
  · obtain ⟨n, h⟩ := px_T_cl (k := 171) (pc := 36) (y := 11) (st := [.int x3, .ref 28, .ref 47]) rfl (h2 c1)
    exact ⟨n + 13, ⟨fun q => absurd q c1, fun _ => ⟨rfl, ⟨rfl, ⟨rfl, h⟩⟩⟩⟩⟩
theorem sg_171_39 {x1 : Int32} {x2 : Int32} {x3 : Int32} {x4 : Int64} {x6 : Int32} {x7 : Int64} {d9 : Option Value} {s0 : Nat} {M : px_Mem} {Q : px_Po} (h_s0 : px_isW s0) (h1 : px_T 0 61 0 [some (.ref 47), some (.ref s0)] [] M (fun r M1 => px_T 0 171 42 [some (.ref 0), some (.int x1), some (.int x2), some (.int x3), some (.long x4), none, some (.int x6), some (.long x7), none, d9] (r.toList ++ []) M1 Q)) : px_T 0 171 39 [some (.ref 0), some (.int x1), some (.int x2), some (.int x3), some (.long x4), none, some (.int x6), some (.long x7), none, d9] [.ref s0, .ref 47] M Q := by
  rcases h_s0 with rfl | rfl
  · obtain ⟨n, h⟩ := px_T_cl (k := 171) (pc := 39) (y := 61) (st := [.ref 29, .ref 47]) rfl (h1)
    exact ⟨n + 1, ⟨rfl, h⟩⟩
  · obtain ⟨n, h⟩ := px_T_cl (k := 171) (pc := 39) (y := 61) (st := [.ref 47, .ref 47]) rfl (h1)
    exact ⟨n + 1, ⟨rfl, h⟩⟩
theorem sg_171_42 {x1 : Int32} {x2 : Int32} {x3 : Int32} {x4 : Int64} {x6 : Int32} {x7 : Int64} {d9 : Option Value} {M : px_Mem} {Q : px_Po} (h1 : px_T 0 171 45 [some (.ref 0), some (.int x1), some (.int x2), some (.int x3), some (.long x4), none, some (.int x6), some (.long x7), none, some (.int 0)] [] M Q) : px_T 0 171 42 [some (.ref 0), some (.int x1), some (.int x2), some (.int x3), some (.long x4), none, some (.int x6), some (.long x7), none, d9] [] M Q := by
  obtain ⟨n, h⟩ := h1
  exact ⟨n + 2, h⟩
theorem sg_171_45 {x1 : Int32} {x2 : Int32} {x3 : Int32} {x4 : Int64} {x6 : Int32} {x7 : Int64} {x9 : Int32} {M : px_Mem} {Q : px_Po} (h1 : (x1 ≤ x9) → px_T 0 332 0 [some (.int ((M.1 47 0) &&& x2))] [] M (fun r M1 => px_T 0 171 141 [some (.ref 0), some (.int x1), some (.int x2), some (.int x3), some (.long x4), none, some (.int x6), some (.long x7), none, some (.int x9)] (r.toList ++ [.long x7, .long x4]) M1 Q)) (h2 : (¬ (x1 ≤ x9)) → (((x6 >>> (x9 &&& 31)) &&& 1) = 0) → px_T 0 54 0 [some (.ref 4), some (.int (x3 + x9))] [] M (fun r M1 => px_T 0 171 108 [some (.ref 0), some (.int x1), some (.int x2), some (.int x3), some (.long x4), none, some (.int x6), some (.long (x7 * ((10 - (M.1 4 3)).toInt64))), none, some (.int x9)] (r.toList ++ [.ref 47]) M1 Q)) (h3 : (¬ (x1 ≤ x9)) → (¬ (((x6 >>> (x9 &&& 31)) &&& 1) = 0)) → px_T 0 171 45 [some (.ref 0), some (.int x1), some (.int x2), some (.int x3), some (.long x4), none, some (.int x6), some (.long (x7 * ((M.1 4 3).toInt64))), none, some (.int (x9 + 1))] [] M Q) : px_T 0 171 45 [some (.ref 0), some (.int x1), some (.int x2), some (.int x3), some (.long x4), none, some (.int x6), some (.long x7), none, some (.int x9)] [] M Q := by
  by_cases c1 : x1 ≤ x9
  · obtain ⟨n, h⟩ := px_T_cl (k := 171) (pc := 138) (y := 332) (st := [.int ((M.1 47 0) &&& x2), .long x7, .long x4]) rfl (h1 c1)
    exact ⟨n + 11, ⟨fun _ => ⟨rfl, ⟨rfl, h⟩⟩, fun q => absurd c1 q⟩⟩
  · by_cases c2 : ((x6 >>> (x9 &&& 31)) &&& 1) = 0
    · obtain ⟨n, h⟩ := px_T_cl (k := 171) (pc := 105) (y := 54) (st := [.int (x3 + x9), .ref 4, .ref 47]) rfl (h2 c1 c2)
      exact ⟨n + 26, ⟨fun q => absurd q c1, fun _ => ⟨fun _ => ⟨rfl, ⟨rfl, ⟨rfl, ⟨rfl, ⟨rfl, h⟩⟩⟩⟩⟩, fun q => absurd c2 q⟩⟩⟩
    · obtain ⟨n, h⟩ := h3 c1 c2
      exact ⟨n + 19, ⟨fun q => absurd q c1, fun _ => ⟨fun q => absurd q c2, fun _ => ⟨rfl, ⟨rfl, h⟩⟩⟩⟩⟩
theorem sg_171_141 {x1 : Int32} {x2 : Int32} {x3 : Int32} {d4 : Option Value} {x6 : Int32} {d7 : Option Value} {d9 : Option Value} {s0 : Int32} {s1 : Int64} {s2 : Int64} {M : px_Mem} {Q : px_Po} (h1 : px_T 0 171 16 [some (.ref 0), some (.int x1), some (.int x2), some (.int x3), some (.long (s2 + (s1 * s0.toInt64))), none, some (.int (x6 + 1)), d7, none, d9] [] M Q) : px_T 0 171 141 [some (.ref 0), some (.int x1), some (.int x2), some (.int x3), d4, none, some (.int x6), d7, none, d9] [.int s0, .long s1, .long s2] M Q := by
  obtain ⟨n, h⟩ := h1
  exact ⟨n + 6, h⟩
theorem sg_171_108 {x1 : Int32} {x2 : Int32} {x3 : Int32} {x4 : Int64} {x6 : Int32} {x7 : Int64} {x9 : Int32} {s0 : Int32} {M : px_Mem} {Q : px_Po} (h1 : px_T 0 73 0 [some (.ref 47), some (.int s0), some (.int (M.1 4 2)), none, none, none, none] [] M (fun r M1 => px_T 0 171 118 [some (.ref 0), some (.int x1), some (.int x2), some (.int x3), some (.long x4), none, some (.int x6), some (.long x7), none, some (.int x9)] (r.toList ++ []) M1 Q)) : px_T 0 171 108 [some (.ref 0), some (.int x1), some (.int x2), some (.int x3), some (.long x4), none, some (.int x6), some (.long x7), none, some (.int x9)] [.int s0, .ref 47] M Q := by
  obtain ⟨n, h⟩ := px_T_cl (k := 171) (pc := 115) (y := 73) (st := [.int (M.1 4 2), .int s0, .ref 47]) rfl (h1)
  exact ⟨n + 4, ⟨rfl, ⟨rfl, ⟨rfl, h⟩⟩⟩⟩
theorem sg_171_118 {x1 : Int32} {x2 : Int32} {x3 : Int32} {x4 : Int64} {x6 : Int32} {x7 : Int64} {x9 : Int32} {s0 : Int32} {M : px_Mem} {Q : px_Po} (h1 : px_T 0 171 45 [some (.ref 0), some (.int x1), some (.int x2), some (.int x3), some (.long x4), none, some (.int x6), some (.long x7), none, some (.int (x9 + 1))] [] M Q) : px_T 0 171 118 [some (.ref 0), some (.int x1), some (.int x2), some (.int x3), some (.long x4), none, some (.int x6), some (.long x7), none, some (.int x9)] [.int s0] M Q := by
  obtain ⟨n, h⟩ := h1
  exact ⟨n + 3, h⟩
theorem sg_172_0 {x0 : Int32} {M : px_Mem} {Q : px_Po} (h1 : px_T 0 172 4 [some (.int x0), some (.long 1), none, some (.int 0)] [] M Q) : px_T 0 172 0 [some (.int x0), none, none, none] [] M Q := by
  obtain ⟨n, h⟩ := h1
  exact ⟨n + 4, h⟩
theorem sg_172_4 {x0 : Int32} {x1 : Int64} {x3 : Int32} {M : px_Mem} {Q : px_Po} (h1 : (x0 ≤ x3) → Q (some (.long x1)) M) (h2 : (¬ (x0 ≤ x3)) → px_T 0 172 4 [some (.int x0), some (.long (x1 * 10)), none, some (.int (x3 + 1))] [] M Q) : px_T 0 172 4 [some (.int x0), some (.long x1), none, some (.int x3)] [] M Q := by
  by_cases c1 : x0 ≤ x3
  · exact ⟨5, ⟨fun _ => ⟨rfl, h1 c1⟩, fun q => absurd c1 q⟩⟩
  · obtain ⟨n, h⟩ := h2 c1
    exact ⟨n + 9, ⟨fun q => absurd q c1, fun _ => h⟩⟩
theorem sg_173_0 {x0 : Int64} {x2 : Int64} {x4 : Int32} {M : px_Mem} {Q : px_Po} (h1 : px_T 0 173 12 [some (.long x0), none, some (.long x2), none, some (.int x4), some (.long (if 0 < x0 then x0 else -x0)), none, some (.long x2), none, some (.int 0), none, none] [] M Q) : px_T 0 173 0 [some (.long x0), none, some (.long x2), none, some (.int x4), none, none, none, none, none, none, none] [] M Q := by
  obtain ⟨n, h⟩ := h1
  exact ⟨n + 7, ⟨(Nat.le_of_ble_eq_true rfl), (Nat.le_of_ble_eq_true rfl), (Nat.le_of_ble_eq_true rfl), h⟩⟩
theorem sg_173_12 {x0 : Int64} {x2 : Int64} {x4 : Int32} {x5 : Int64} {x7 : Int64} {x9 : Int32} {d10 : Option Value} {d11 : Option Value} {M : px_Mem} {Q : px_Po} (h1 : ((200 : Int32) ≤ x9) → ((lg_cmp x7 0) = 0) → Q (some (.long 0)) M) (h2 : ((200 : Int32) ≤ x9) → (¬ ((lg_cmp x7 0) = 0)) → (x4 = 0) → ¬ x7 = 0) (h3 : ((200 : Int32) ≤ x9) → (¬ ((lg_cmp x7 0) = 0)) → (x4 = 0) → Q (some (.long (x0 / x7))) M) (h4 : ((200 : Int32) ≤ x9) → (¬ ((lg_cmp x7 0) = 0)) → (¬ (x4 = 0)) → ¬ x7 = 0) (h5 : ((200 : Int32) ≤ x9) → (¬ ((lg_cmp x7 0) = 0)) → (¬ (x4 = 0)) → Q (some (.long (x2 / x7))) M) (h6 : (¬ ((200 : Int32) ≤ x9)) → ((lg_cmp x5 0) = 0) → ((lg_cmp x7 0) = 0) → Q (some (.long 0)) M) (h7 : (¬ ((200 : Int32) ≤ x9)) → ((lg_cmp x5 0) = 0) → (¬ ((lg_cmp x7 0) = 0)) → (x4 = 0) → ¬ x7 = 0) (h8 : (¬ ((200 : Int32) ≤ x9)) → ((lg_cmp x5 0) = 0) → (¬ ((lg_cmp x7 0) = 0)) → (x4 = 0) → Q (some (.long (x0 / x7))) M) (h9 : (¬ ((200 : Int32) ≤ x9)) → ((lg_cmp x5 0) = 0) → (¬ ((lg_cmp x7 0) = 0)) → (¬ (x4 = 0)) → ¬ x7 = 0) (h10 : (¬ ((200 : Int32) ≤ x9)) → ((lg_cmp x5 0) = 0) → (¬ ((lg_cmp x7 0) = 0)) → (¬ (x4 = 0)) → Q (some (.long (x2 / x7))) M) (h11 : (¬ ((200 : Int32) ≤ x9)) → (¬ ((lg_cmp x5 0) = 0)) → ¬ x5 = 0) (h12 : (¬ ((200 : Int32) ≤ x9)) → (¬ ((lg_cmp x5 0) = 0)) → px_T 0 173 12 [some (.long x0), none, some (.long x2), none, some (.int x4), some (.long (x7 - x7 / x5 * x5)), none, some (.long x5), none, some (.int (x9 + 1)), some (.long (x7 - x7 / x5 * x5)), none] [] M Q) : px_T 0 173 12 [some (.long x0), none, some (.long x2), none, some (.int x4), some (.long x5), none, some (.long x7), none, some (.int x9), d10, d11] [] M Q := by
  by_cases c1 : (200 : Int32) ≤ x9
  · by_cases c2 : (lg_cmp x7 0) = 0
    · exact ⟨9, ⟨fun _ => ⟨fun q => absurd c2 q, fun _ => ⟨rfl, h1 c1 c2⟩⟩, fun q => absurd c1 q⟩⟩
    · by_cases c3 : x4 = 0
      · exact ⟨14, ⟨fun _ => ⟨fun _ => ⟨fun q => absurd c3 q, fun _ => ⟨(h2 c1 c2 c3), ⟨rfl, h3 c1 c2 c3⟩⟩⟩, fun q => absurd q c2⟩, fun q => absurd c1 q⟩⟩
      · exact ⟨13, ⟨fun _ => ⟨fun _ => ⟨fun _ => ⟨(h4 c1 c2 c3), ⟨rfl, h5 c1 c2 c3⟩⟩, fun q => absurd q c3⟩, fun q => absurd q c2⟩, fun q => absurd c1 q⟩⟩
  · by_cases c4 : (lg_cmp x5 0) = 0
    · by_cases c5 : (lg_cmp x7 0) = 0
      · exact ⟨13, ⟨fun q => absurd q c1, fun _ => ⟨fun _ => ⟨fun q => absurd c5 q, fun _ => ⟨rfl, h6 c1 c4 c5⟩⟩, fun q => absurd c4 q⟩⟩⟩
      · by_cases c6 : x4 = 0
        · exact ⟨18, ⟨fun q => absurd q c1, fun _ => ⟨fun _ => ⟨fun _ => ⟨fun q => absurd c6 q, fun _ => ⟨(h7 c1 c4 c5 c6), ⟨rfl, h8 c1 c4 c5 c6⟩⟩⟩, fun q => absurd q c5⟩, fun q => absurd c4 q⟩⟩⟩
        · exact ⟨17, ⟨fun q => absurd q c1, fun _ => ⟨fun _ => ⟨fun _ => ⟨fun _ => ⟨(h9 c1 c4 c5 c6), ⟨rfl, h10 c1 c4 c5 c6⟩⟩, fun q => absurd q c6⟩, fun q => absurd q c5⟩, fun q => absurd c4 q⟩⟩⟩
    · obtain ⟨n, h⟩ := h12 c1 c4
      exact ⟨n + 17, ⟨fun q => absurd q c1, fun _ => ⟨fun q => absurd q c4, fun _ => ⟨(h11 c1 c4), h⟩⟩⟩⟩
theorem sg_174_0 {x1 : Int64} {M : px_Mem} {Q : px_Po} (h1 : px_T 0 60 0 [some (.ref 47)] [] M (fun r M1 => px_T 0 174 7 [some (.ref 0), some (.long x1), none, none, none, none, none] (r.toList ++ []) M1 Q)) : px_T 0 174 0 [some (.ref 0), some (.long x1), none, none, none, none, none] [] M Q := by
  obtain ⟨n, h⟩ := px_T_cl (k := 174) (pc := 4) (y := 60) (st := [.ref 47]) rfl (h1)
  exact ⟨n + 3, ⟨rfl, ⟨rfl, h⟩⟩⟩
theorem sg_174_7 {x1 : Int64} {d3 : Option Value} {d4 : Option Value} {d5 : Option Value} {d6 : Option Value} {M : px_Mem} {Q : px_Po} (h1 : px_T 0 174 15 [some (.ref 0), some (.long x1), none, some (.long x1), none, some (.int 0), some (.int 0)] [] M Q) : px_T 0 174 7 [some (.ref 0), some (.long x1), none, d3, d4, d5, d6] [] M Q := by
  obtain ⟨n, h⟩ := h1
  exact ⟨n + 6, h⟩
theorem sg_174_15 {d1 : Option Value} {x3 : Int64} {x5 : Int32} {x6 : Int32} {M : px_Mem} {Q : px_Po} (h1 : px_T 0 53 0 [some (.ref 4)] [] M (fun r M1 => px_T 0 174 24 [some (.ref 0), d1, none, some (.long x3), none, some (.int x5), some (.int x6)] (r.toList ++ [.int x6]) M1 Q)) : px_T 0 174 15 [some (.ref 0), d1, none, some (.long x3), none, some (.int x5), some (.int x6)] [] M Q := by
  obtain ⟨n, h⟩ := px_T_cl (k := 174) (pc := 21) (y := 53) (st := [.ref 4, .int x6]) rfl (h1)
  exact ⟨n + 4, ⟨rfl, ⟨rfl, h⟩⟩⟩
theorem sg_174_24 {d1 : Option Value} {d2 : Option Value} {x3 : Int64} {x5 : Int32} {x6 : Int32} {s0 : Int32} {s1 : Int32} {M : px_Mem} {Q : px_Po} (h1 : (s0 ≤ s1) → Q (some (.int x5)) M) (h2 : (¬ (s0 ≤ s1)) → ((0 : Int32) ≤ (lg_cmp (((((1103515245 * x3) + 12345) - ((1103515245 * x3) + 12345) / 2147483648 * 2147483648) / 65536) - ((((1103515245 * x3) + 12345) - ((1103515245 * x3) + 12345) / 2147483648 * 2147483648) / 65536) / 10 * 10) ((M.1 4 3).toInt64))) → px_T 0 54 0 [some (.ref 4), some (.int x6)] [] M (fun r M1 => px_T 0 174 81 [some (.ref 0), d1, d2, some (.long (((1103515245 * x3) + 12345) - ((1103515245 * x3) + 12345) / 2147483648 * 2147483648)), none, some (.int x5), some (.int x6)] (r.toList ++ [.ref 47]) M1 Q)) (h3 : (¬ (s0 ≤ s1)) → (¬ ((0 : Int32) ≤ (lg_cmp (((((1103515245 * x3) + 12345) - ((1103515245 * x3) + 12345) / 2147483648 * 2147483648) / 65536) - ((((1103515245 * x3) + 12345) - ((1103515245 * x3) + 12345) / 2147483648 * 2147483648) / 65536) / 10 * 10) ((M.1 4 3).toInt64)))) → px_T 0 174 15 [some (.ref 0), d1, d2, some (.long (((1103515245 * x3) + 12345) - ((1103515245 * x3) + 12345) / 2147483648 * 2147483648)), none, some (.int (x5 + 1)), some (.int (x6 + 1))] [] M Q) : px_T 0 174 24 [some (.ref 0), d1, d2, some (.long x3), none, some (.int x5), some (.int x6)] [.int s0, .int s1] M Q := by
  by_cases c1 : s0 ≤ s1
  · exact ⟨3, ⟨fun _ => ⟨trivial, h1 c1⟩, fun q => absurd c1 q⟩⟩
  · by_cases c2 : (0 : Int32) ≤ (lg_cmp (((((1103515245 * x3) + 12345) - ((1103515245 * x3) + 12345) / 2147483648 * 2147483648) / 65536) - ((((1103515245 * x3) + 12345) - ((1103515245 * x3) + 12345) / 2147483648 * 2147483648) / 65536) / 10 * 10) ((M.1 4 3).toInt64))
    · obtain ⟨n, h⟩ := px_T_cl (k := 174) (pc := 78) (y := 54) (st := [.int x6, .ref 4, .ref 47]) rfl (h2 c1 c2)
      exact ⟨n + 26, ⟨fun q => absurd q c1, fun _ => ⟨(by decide), ⟨(by decide), ⟨(by decide), ⟨rfl, ⟨rfl, ⟨fun _ => ⟨rfl, ⟨rfl, ⟨rfl, h⟩⟩⟩, fun q => absurd c2 q⟩⟩⟩⟩⟩⟩⟩⟩
    · obtain ⟨n, h⟩ := h3 c1 c2
      exact ⟨n + 24, ⟨fun q => absurd q c1, fun _ => ⟨(by decide), ⟨(by decide), ⟨(by decide), ⟨rfl, ⟨rfl, ⟨fun q => absurd q c2, fun _ => h⟩⟩⟩⟩⟩⟩⟩⟩
theorem sg_174_81 {d1 : Option Value} {d2 : Option Value} {x3 : Int64} {x5 : Int32} {x6 : Int32} {s0 : Int32} {M : px_Mem} {Q : px_Po} (h1 : px_T 0 73 0 [some (.ref 47), some (.int s0), some (.int (M.1 4 2)), none, none, none, none] [] M (fun r M1 => px_T 0 174 91 [some (.ref 0), d1, d2, some (.long x3), none, some (.int x5), some (.int x6)] (r.toList ++ []) M1 Q)) : px_T 0 174 81 [some (.ref 0), d1, d2, some (.long x3), none, some (.int x5), some (.int x6)] [.int s0, .ref 47] M Q := by
  obtain ⟨n, h⟩ := px_T_cl (k := 174) (pc := 88) (y := 73) (st := [.int (M.1 4 2), .int s0, .ref 47]) rfl (h1)
  exact ⟨n + 4, ⟨rfl, ⟨rfl, ⟨rfl, h⟩⟩⟩⟩
theorem sg_174_91 {d1 : Option Value} {d2 : Option Value} {x3 : Int64} {x5 : Int32} {x6 : Int32} {s0 : Int32} {M : px_Mem} {Q : px_Po} (h1 : px_T 0 174 15 [some (.ref 0), d1, d2, some (.long x3), none, some (.int x5), some (.int (x6 + 1))] [] M Q) : px_T 0 174 91 [some (.ref 0), d1, d2, some (.long x3), none, some (.int x5), some (.int x6)] [.int s0] M Q := by
  obtain ⟨n, h⟩ := h1
  exact ⟨n + 3, h⟩
