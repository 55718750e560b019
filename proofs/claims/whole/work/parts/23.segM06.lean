theorem sg_312_86 {x1 : Int32} {x2 : Int32} {x3 : Int32} {x4 : Int32} {d5 : Option Value} {d6 : Option Value} {d7 : Option Value} {s0 : Int32} {s1 : Int32} {M : px_Mem} {Q : px_Po} (h1 : (s1 < s0) → px_T 0 312 17 [some (.ref 56), some (.int x1), some (.int x2), some (.int (x3 ||| 0)), some (.int (x4 + 1)), d5, d6, some (.int 0)] [] M Q) (h2 : (¬ (s1 < s0)) → px_T 0 312 17 [some (.ref 56), some (.int x1), some (.int x2), some (.int (x3 ||| (1 <<< (x4 &&& 31)))), some (.int (x4 + 1)), d5, d6, some (.int 1)] [] M Q) : px_T 0 312 86 [some (.ref 56), some (.int x1), some (.int x2), some (.int x3), some (.int x4), d5, d6, d7] [.int s0, .int s1] M Q := by
  by_cases c1 : s1 < s0
  · obtain ⟨n, h⟩ := h1 c1
    exact ⟨n + 11, ⟨fun _ => ⟨fun _ => h, fun q => absurd (by decide) q⟩, fun q => absurd c1 q⟩⟩
  · obtain ⟨n, h⟩ := h2 c1
    exact ⟨n + 15, ⟨fun q => absurd q c1, fun _ => ⟨fun q => absurd q (by decide), fun _ => h⟩⟩⟩
theorem sg_313_0 {x1 : Int32} {x2 : Int32} {x3 : Int32} {x4 : Int32} {M : px_Mem} {Q : px_Po} (h1 : px_T 0 311 0 [some (.ref 56), some (.int x1), some (.int x2)] [] M (fun r M1 => px_T 0 313 6 [some (.ref 56), some (.int x1), some (.int x2), some (.int x3), some (.int x4)] (r.toList ++ []) M1 Q)) : px_T 0 313 0 [some (.ref 56), some (.int x1), some (.int x2), some (.int x3), some (.int x4)] [] M Q := by
  obtain ⟨n, h⟩ := px_T_cl (k := 313) (pc := 3) (y := 311) (st := [.int x2, .int x1, .ref 56]) rfl (h1)
  exact ⟨n + 4, ⟨rfl, h⟩⟩
theorem sg_313_6 {x1 : Int32} {x2 : Int32} {x3 : Int32} {x4 : Int32} {s0 : Int32} {M : px_Mem} {Q : px_Po} (h1 : (s0 = 0) → Q (some (.int (-2))) M) (h2 : (¬ (s0 = 0)) → px_T 0 175 0 [some (.long x3.toInt64), none, some (.long 0), none, some (.long 1), none] [] M (fun r M1 => px_T 0 313 16 [some (.ref 56), some (.int x1), some (.int x2), some (.int x3), some (.int x4)] (r.toList ++ []) M1 Q)) : px_T 0 313 6 [some (.ref 56), some (.int x1), some (.int x2), some (.int x3), some (.int x4)] [.int s0] M Q := by
  by_cases c1 : s0 = 0
  · exact ⟨3, ⟨fun _ => ⟨trivial, h1 c1⟩, fun q => absurd c1 q⟩⟩
  · obtain ⟨n, h⟩ := px_T_cl (k := 313) (pc := 13) (y := 175) (st := [.long 1, .long 0, .long x3.toInt64]) rfl (h2 c1)
    exact ⟨n + 6, ⟨fun q => absurd q c1, fun _ => h⟩⟩
theorem sg_313_16 {x1 : Int32} {x2 : Int32} {x3 : Int32} {x4 : Int32} {s0 : Int32} {M : px_Mem} {Q : px_Po} (h1 : (s0 = 0) → Q (some (.int (-2))) M) (h2 : (¬ (s0 = 0)) → px_T 0 175 0 [some (.long x4.toInt64), none, some (.long 0), none, some (.long 1), none] [] M (fun r M1 => px_T 0 313 27 [some (.ref 56), some (.int x1), some (.int x2), some (.int x3), some (.int x4)] (r.toList ++ []) M1 Q)) : px_T 0 313 16 [some (.ref 56), some (.int x1), some (.int x2), some (.int x3), some (.int x4)] [.int s0] M Q := by
  by_cases c1 : s0 = 0
  · exact ⟨3, ⟨fun _ => ⟨trivial, h1 c1⟩, fun q => absurd c1 q⟩⟩
  · obtain ⟨n, h⟩ := px_T_cl (k := 313) (pc := 24) (y := 175) (st := [.long 1, .long 0, .long x4.toInt64]) rfl (h2 c1)
    exact ⟨n + 6, ⟨fun q => absurd q c1, fun _ => h⟩⟩
theorem sg_313_27 {x1 : Int32} {x2 : Int32} {x3 : Int32} {x4 : Int32} {s0 : Int32} {M : px_Mem} {Q : px_Po} (h1 : (s0 = 0) → Q (some (.int (-2))) M) (h2 : (¬ (s0 = 0)) → px_T 0 310 0 [some (.ref 56), some (.int x1), some (.int x2), some (.int x3), some (.int x4), some (.int 0), none, none, none] [] M (fun r M1 => px_T 0 313 40 [some (.ref 56), some (.int x1), some (.int x2), some (.int x3), some (.int x4)] (r.toList ++ []) M1 Q)) : px_T 0 313 27 [some (.ref 56), some (.int x1), some (.int x2), some (.int x3), some (.int x4)] [.int s0] M Q := by
  by_cases c1 : s0 = 0
  · exact ⟨3, ⟨fun _ => ⟨trivial, h1 c1⟩, fun q => absurd c1 q⟩⟩
  · obtain ⟨n, h⟩ := px_T_cl (k := 313) (pc := 37) (y := 310) (st := [.int 0, .int x4, .int x3, .int x2, .int x1, .ref 56]) rfl (h2 c1)
    exact ⟨n + 8, ⟨fun q => absurd q c1, fun _ => ⟨rfl, h⟩⟩⟩
theorem sg_313_40 {d0 : Option Value} {d1 : Option Value} {d2 : Option Value} {d3 : Option Value} {d4 : Option Value} {s0 : Int32} {M : px_Mem} {Q : px_Po} (h1 : Q (some (.int s0)) M) : px_T 0 313 40 [d0, d1, d2, d3, d4] [.int s0] M Q := by
  exact ⟨2, ⟨trivial, h1⟩⟩
theorem sg_314_0 {x1 : Int32} {x2 : Int32} {M : px_Mem} {Q : px_Po} (h1 : px_T 0 209 0 [some (.ref 56), none] [] (px_wL (px_wL (px_wL M 56 51 0) 56 52 0) 56 53 0) (fun r M1 => px_T 0 314 19 [some (.ref 56), some (.int x1), some (.int x2), none, none, none, none] (r.toList ++ []) M1 Q)) : px_T 0 314 0 [some (.ref 56), some (.int x1), some (.int x2), none, none, none, none] [] M Q := by
  obtain ⟨n, h⟩ := px_T_cl (k := 314) (pc := 16) (y := 209) (st := [.ref 56]) rfl (h1)
  exact ⟨n + 11, ⟨rfl, ⟨rfl, ⟨rfl, ⟨rfl, h⟩⟩⟩⟩⟩
theorem sg_314_19 {x1 : Int32} {x2 : Int32} {d3 : Option Value} {d4 : Option Value} {d5 : Option Value} {d6 : Option Value} {M : px_Mem} {Q : px_Po} (h1 : px_T 0 314 21 [some (.ref 56), some (.int x1), some (.int x2), some (.int 0), d4, d5, d6] [] M Q) : px_T 0 314 19 [some (.ref 56), some (.int x1), some (.int x2), d3, d4, d5, d6] [] M Q := by
  obtain ⟨n, h⟩ := h1
  exact ⟨n + 2, h⟩
theorem sg_314_21 {x1 : Int32} {x2 : Int32} {x3 : Int32} {d4 : Option Value} {d5 : Option Value} {d6 : Option Value} {M : px_Mem} {Q : px_Po} (h1 : ((1 <<< (x2 &&& 31)) ≤ x3) → Q none M) (h2 : (¬ ((1 <<< (x2 &&& 31)) ≤ x3)) → px_T 0 314 34 [some (.ref 56), some (.int x1), some (.int x2), some (.int x3), some (.long 1), none, some (.int 0)] [] M Q) : px_T 0 314 21 [some (.ref 56), some (.int x1), some (.int x2), some (.int x3), d4, d5, d6] [] M Q := by
  by_cases c1 : (1 <<< (x2 &&& 31)) ≤ x3
  · exact ⟨6, ⟨fun _ => ⟨rfl, h1 c1⟩, fun q => absurd c1 q⟩⟩
  · obtain ⟨n, h⟩ := h2 c1
    exact ⟨n + 9, ⟨fun q => absurd q c1, fun _ => h⟩⟩
theorem sg_314_34 {x1 : Int32} {x2 : Int32} {x3 : Int32} {x4 : Int64} {x6 : Int32} {M : px_Mem} {Q : px_Po} (h1 : (x2 ≤ x6) → ((lg_cmp x4 0) = 0) → px_T 0 314 21 [some (.ref 56), some (.int x1), some (.int x2), some (.int (x3 + 1)), some (.long x4), none, some (.int x6)] [] M Q) (h2 : (x2 ≤ x6) → (¬ ((lg_cmp x4 0) = 0)) → px_T 0 223 0 [some (.ref 56), none] [] M (fun r M1 => px_T 0 314 124 [some (.ref 56), some (.int x1), some (.int x2), some (.int x3), some (.long x4), none, some (.int x6)] (r.toList ++ []) M1 Q)) (h3 : (¬ (x2 ≤ x6)) → px_T 0 177 0 [some (.int x3), some (.int x6)] [] M (fun r M1 => px_T 0 314 48 [some (.ref 56), some (.int x1), some (.int x2), some (.int x3), some (.long x4), none, some (.int x6)] (r.toList ++ [.long x4]) M1 Q)) : px_T 0 314 34 [some (.ref 56), some (.int x1), some (.int x2), some (.int x3), some (.long x4), none, some (.int x6)] [] M Q := by
  by_cases c1 : x2 ≤ x6
  · by_cases c2 : (lg_cmp x4 0) = 0
    · obtain ⟨n, h⟩ := h1 c1 c2
      exact ⟨n + 10, ⟨fun _ => ⟨fun q => absurd c2 q, fun _ => h⟩, fun q => absurd c1 q⟩⟩
    · obtain ⟨n, h⟩ := px_T_cl (k := 314) (pc := 121) (y := 223) (st := [.ref 56]) rfl (h2 c1 c2)
      exact ⟨n + 9, ⟨fun _ => ⟨fun _ => ⟨rfl, h⟩, fun q => absurd q c2⟩, fun q => absurd c1 q⟩⟩
  · obtain ⟨n, h⟩ := px_T_cl (k := 314) (pc := 45) (y := 177) (st := [.int x6, .int x3, .long x4]) rfl (h3 c1)
    exact ⟨n + 7, ⟨fun q => absurd q c1, fun _ => h⟩⟩
theorem sg_314_124 {x1 : Int32} {x2 : Int32} {x3 : Int32} {x4 : Int64} {d6 : Option Value} {M : px_Mem} {Q : px_Po} (h1 : px_T 0 227 0 [some (.ref 56), some (.int x1), some (.int (M.1 56 20))] [] (px_wL M 56 51 ((M.2 56 51) + x4)) (fun r M1 => px_T 0 314 149 [some (.ref 56), some (.int x1), some (.int x2), some (.int x3), some (.long x4), none, d6] (r.toList ++ [.long (M.2 56 52), .ref 56]) M1 Q)) : px_T 0 314 124 [some (.ref 56), some (.int x1), some (.int x2), some (.int x3), some (.long x4), none, d6] [] M Q := by
  obtain ⟨n, h⟩ := px_T_cl (k := 314) (pc := 146) (y := 227) (st := [.int (M.1 56 20), .int x1, .ref 56, .long (M.2 56 52), .ref 56]) rfl (h1)
  exact ⟨n + 14, ⟨rfl, ⟨rfl, ⟨rfl, ⟨rfl, ⟨rfl, h⟩⟩⟩⟩⟩⟩
theorem sg_314_48 {x1 : Int32} {x2 : Int32} {x3 : Int32} {d4 : Option Value} {x6 : Int32} {s0 : Int32} {s1 : Int64} {M : px_Mem} {Q : px_Po} (h1 : (s0 = 1) → px_T 0 177 0 [some (.int x3), some (.int x6)] [] M (fun r M1 => px_T 0 314 94 [some (.ref 56), some (.int x1), some (.int x2), some (.int x3), some (.long (s1 * ((M.1 57 1).toInt64))), none, some (.int x6)] (r.toList ++ [.int (((M.1 56 20) - x2) + x6), .ref 67]) M1 Q)) (h2 : (¬ (s0 = 1)) → px_T 0 177 0 [some (.int x3), some (.int x6)] [] M (fun r M1 => px_T 0 314 94 [some (.ref 56), some (.int x1), some (.int x2), some (.int x3), some (.long (s1 * ((10 - (M.1 57 1)).toInt64))), none, some (.int x6)] (r.toList ++ [.int (((M.1 56 20) - x2) + x6), .ref 67]) M1 Q)) : px_T 0 314 48 [some (.ref 56), some (.int x1), some (.int x2), some (.int x3), d4, none, some (.int x6)] [.int s0, .long s1] M Q := by
  by_cases c1 : s0 = 1
  · obtain ⟨n, h⟩ := px_T_cl (k := 314) (pc := 91) (y := 177) (st := [.int x6, .int x3, .int (((M.1 56 20) - x2) + x6), .ref 67]) rfl (h1 c1)
    exact ⟨n + 21, ⟨fun q => absurd c1 q, fun _ => ⟨rfl, ⟨Or.inl ⟨0, 285, Or.inl rfl, rfl, (vp_in_nI (n := 1) (by decide) (by decide))⟩, ⟨rfl, ⟨rfl, h⟩⟩⟩⟩⟩⟩
  · obtain ⟨n, h⟩ := px_T_cl (k := 314) (pc := 91) (y := 177) (st := [.int x6, .int x3, .int (((M.1 56 20) - x2) + x6), .ref 67]) rfl (h2 c1)
    exact ⟨n + 22, ⟨fun _ => ⟨rfl, ⟨Or.inl ⟨0, 285, Or.inl rfl, rfl, (vp_in_nI (n := 1) (by decide) (by decide))⟩, ⟨rfl, ⟨rfl, h⟩⟩⟩⟩, fun q => absurd q c1⟩⟩
theorem sg_314_149 {x1 : Int32} {x2 : Int32} {x3 : Int32} {x4 : Int64} {d6 : Option Value} {s0 : Int32} {s1 : Int64} {M : px_Mem} {Q : px_Po} (h1 : (s0 = 0) → px_T 0 230 0 [some (.ref 56), some (.int (M.1 56 20))] [] (px_wL M 56 52 (s1 + 0)) (fun r M1 => px_T 0 314 177 [some (.ref 56), some (.int x1), some (.int x2), some (.int x3), some (.long x4), none, d6] (r.toList ++ [.long x4, .long (M.2 56 53), .ref 56]) M1 Q)) (h2 : (¬ (s0 = 0)) → px_T 0 230 0 [some (.ref 56), some (.int (M.1 56 20))] [] (px_wL M 56 52 (s1 + x4)) (fun r M1 => px_T 0 314 177 [some (.ref 56), some (.int x1), some (.int x2), some (.int x3), some (.long x4), none, d6] (r.toList ++ [.long x4, .long (M.2 56 53), .ref 56]) M1 Q)) : px_T 0 314 149 [some (.ref 56), some (.int x1), some (.int x2), some (.int x3), some (.long x4), none, d6] [.int s0, .long s1, .ref 56] M Q := by
  by_cases c1 : s0 = 0
  · obtain ⟨n, h⟩ := px_T_cl (k := 314) (pc := 174) (y := 230) (st := [.int (M.1 56 20), .ref 56, .long x4, .long (M.2 56 53), .ref 56]) rfl (h1 c1)
    exact ⟨n + 12, ⟨fun _ => ⟨rfl, ⟨rfl, ⟨rfl, ⟨rfl, h⟩⟩⟩⟩, fun q => absurd c1 q⟩⟩
  · obtain ⟨n, h⟩ := px_T_cl (k := 314) (pc := 174) (y := 230) (st := [.int (M.1 56 20), .ref 56, .long x4, .long (M.2 56 53), .ref 56]) rfl (h2 c1)
    exact ⟨n + 13, ⟨fun q => absurd q c1, fun _ => ⟨rfl, ⟨rfl, ⟨rfl, ⟨rfl, h⟩⟩⟩⟩⟩⟩
theorem sg_314_94 {x1 : Int32} {x2 : Int32} {x3 : Int32} {x4 : Int64} {x6 : Int32} {s0 : Int32} {s1 : Int32} {M : px_Mem} {Q : px_Po} (h1 : (s0 = 1) → vp_in s1 72) (h2 : (s0 = 1) → px_T 0 314 34 [some (.ref 56), some (.int x1), some (.int x2), some (.int x3), some (.long x4), none, some (.int (x6 + 1))] [] (px_wI M 67 s1.toNatClampNeg (vp_nar .boolean 1)) Q) (h3 : (¬ (s0 = 1)) → vp_in s1 72) (h4 : (¬ (s0 = 1)) → px_T 0 314 34 [some (.ref 56), some (.int x1), some (.int x2), some (.int x3), some (.long x4), none, some (.int (x6 + 1))] [] (px_wI M 67 s1.toNatClampNeg (vp_nar .boolean 0)) Q) : px_T 0 314 94 [some (.ref 56), some (.int x1), some (.int x2), some (.int x3), some (.long x4), none, some (.int x6)] [.int s0, .int s1, .ref 67] M Q := by
  by_cases c1 : s0 = 1
  · obtain ⟨n, h⟩ := h2 c1
    exact ⟨n + 7, ⟨fun q => absurd c1 q, fun _ => (Or.inr ⟨⟨72, rfl, (h1 c1)⟩, h⟩)⟩⟩
  · obtain ⟨n, h⟩ := h4 c1
    exact ⟨n + 6, ⟨fun _ => (Or.inr ⟨⟨72, rfl, (h3 c1)⟩, h⟩), fun q => absurd q c1⟩⟩
theorem sg_314_177 {x1 : Int32} {x2 : Int32} {x3 : Int32} {d4 : Option Value} {d6 : Option Value} {s0 : Int32} {s1 : Int64} {s2 : Int64} {M : px_Mem} {Q : px_Po} (h1 : px_T 0 314 21 [some (.ref 56), some (.int x1), some (.int x2), some (.int (x3 + 1)), d4, none, d6] [] (px_wL M 56 53 (s2 + (s1 * s0.toInt64))) Q) : px_T 0 314 177 [some (.ref 56), some (.int x1), some (.int x2), some (.int x3), d4, none, d6] [.int s0, .long s1, .long s2, .ref 56] M Q := by
  obtain ⟨n, h⟩ := h1
  exact ⟨n + 6, ⟨rfl, h⟩⟩
theorem sg_315_0 {x1 : Int32} {x2 : Int32} {M : px_Mem} {Q : px_Po} (h1 : px_T 0 180 0 [some (.ref 56)] [] M (fun r M1 => px_T 0 315 4 [some (.ref 56), some (.int x1), some (.int x2)] (r.toList ++ []) M1 Q)) : px_T 0 315 0 [some (.ref 56), some (.int x1), some (.int x2)] [] M Q := by
  obtain ⟨n, h⟩ := px_T_cl (k := 315) (pc := 1) (y := 180) (st := [.ref 56]) rfl (h1)
  exact ⟨n + 2, ⟨rfl, h⟩⟩
theorem sg_315_4 {x1 : Int32} {x2 : Int32} {s0 : Int32} {M : px_Mem} {Q : px_Po} (h1 : (s0 = 0) → Q (some (.int 0)) M) (h2 : (¬ (s0 = 0)) → px_T 0 175 0 [some (.long x1.toInt64), none, some (.long 0), none, some (.long 6), none] [] M (fun r M1 => px_T 0 315 16 [some (.ref 56), some (.int x1), some (.int x2)] (r.toList ++ []) M1 Q)) : px_T 0 315 4 [some (.ref 56), some (.int x1), some (.int x2)] [.int s0] M Q := by
  by_cases c1 : s0 = 0
  · exact ⟨3, ⟨fun _ => ⟨Or.inl rfl, h1 c1⟩, fun q => absurd c1 q⟩⟩
  · obtain ⟨n, h⟩ := px_T_cl (k := 315) (pc := 13) (y := 175) (st := [.long 6, .long 0, .long x1.toInt64]) rfl (h2 c1)
    exact ⟨n + 6, ⟨fun q => absurd q c1, fun _ => h⟩⟩
theorem sg_315_16 {x1 : Int32} {x2 : Int32} {s0 : Int32} {M : px_Mem} {Q : px_Po} (h1 : (s0 = 0) → Q (some (.int 0)) M) (h2 : (¬ (s0 = 0)) → px_T 0 181 0 [some (.ref 56)] [] M (fun r M1 => px_T 0 315 24 [some (.ref 56), some (.int x1), some (.int x2)] (r.toList ++ [.int x1]) M1 Q)) : px_T 0 315 16 [some (.ref 56), some (.int x1), some (.int x2)] [.int s0] M Q := by
  by_cases c1 : s0 = 0
  · exact ⟨3, ⟨fun _ => ⟨Or.inl rfl, h1 c1⟩, fun q => absurd c1 q⟩⟩
  · obtain ⟨n, h⟩ := px_T_cl (k := 315) (pc := 21) (y := 181) (st := [.ref 56, .int x1]) rfl (h2 c1)
    exact ⟨n + 4, ⟨fun q => absurd q c1, fun _ => ⟨rfl, h⟩⟩⟩
theorem sg_315_24 {d0 : Option Value} {d1 : Option Value} {x2 : Int32} {s0 : Int32} {s1 : Int32} {M : px_Mem} {Q : px_Po} (h1 : (s0 < s1) → Q (some (.int 0)) M) (h2 : (¬ (s0 < s1)) → px_T 0 175 0 [some (.long x2.toInt64), none, some (.long 0), none, some (.long 1), none] [] M (fun r M1 => px_T 0 315 34 [d0, d1, some (.int x2)] (r.toList ++ []) M1 Q)) : px_T 0 315 24 [d0, d1, some (.int x2)] [.int s0, .int s1] M Q := by
  by_cases c1 : s0 < s1
  · exact ⟨3, ⟨fun _ => ⟨Or.inl rfl, h1 c1⟩, fun q => absurd c1 q⟩⟩
  · obtain ⟨n, h⟩ := px_T_cl (k := 315) (pc := 31) (y := 175) (st := [.long 1, .long 0, .long x2.toInt64]) rfl (h2 c1)
    exact ⟨n + 6, ⟨fun q => absurd q c1, fun _ => h⟩⟩
theorem sg_315_34 {d0 : Option Value} {d1 : Option Value} {d2 : Option Value} {s0 : Int32} {M : px_Mem} {Q : px_Po} (h1 : (s0 = 0) → Q (some (.int 0)) M) (h2 : (¬ (s0 = 0)) → Q (some (.int 1)) M) : px_T 0 315 34 [d0, d1, d2] [.int s0] M Q := by
  by_cases c1 : s0 = 0
  · exact ⟨3, ⟨fun _ => ⟨Or.inl rfl, h1 c1⟩, fun q => absurd c1 q⟩⟩
  · exact ⟨4, ⟨fun q => absurd q c1, fun _ => ⟨Or.inr rfl, h2 c1⟩⟩⟩
theorem sg_316_0 {x1 : Int32} {x2 : Int32} {x3 : Int32} {M : px_Mem} {Q : px_Po} (h1 : px_T 0 315 0 [some (.ref 56), some (.int x2), some (.int x3)] [] M (fun r M1 => px_T 0 316 6 [some (.ref 56), some (.int x1), some (.int x2), some (.int x3)] (r.toList ++ []) M1 Q)) : px_T 0 316 0 [some (.ref 56), some (.int x1), some (.int x2), some (.int x3)] [] M Q := by
  obtain ⟨n, h⟩ := px_T_cl (k := 316) (pc := 3) (y := 315) (st := [.int x3, .int x2, .ref 56]) rfl (h1)
  exact ⟨n + 4, ⟨rfl, h⟩⟩
theorem sg_316_6 {x1 : Int32} {x2 : Int32} {x3 : Int32} {s0 : Int32} {M : px_Mem} {Q : px_Po} (h1 : (s0 = 0) → Q (some (.long (-2))) M) (h2 : (¬ (s0 = 0)) → px_T 0 184 0 [some (.long x1.toInt64), none] [] M (fun r M1 => px_T 0 316 14 [some (.ref 56), some (.int x1), some (.int x2), some (.int x3)] (r.toList ++ []) M1 Q)) : px_T 0 316 6 [some (.ref 56), some (.int x1), some (.int x2), some (.int x3)] [.int s0] M Q := by
  by_cases c1 : s0 = 0
  · exact ⟨3, ⟨fun _ => ⟨rfl, h1 c1⟩, fun q => absurd c1 q⟩⟩
  · obtain ⟨n, h⟩ := px_T_cl (k := 316) (pc := 11) (y := 184) (st := [.long x1.toInt64]) rfl (h2 c1)
    exact ⟨n + 4, ⟨fun q => absurd q c1, fun _ => h⟩⟩
theorem sg_316_14 {x1 : Int32} {x2 : Int32} {x3 : Int32} {s0 : Int32} {M : px_Mem} {Q : px_Po} (h1 : (s0 = 0) → Q (some (.long (-2))) M) (h2 : (¬ (s0 = 0)) → px_T 0 314 0 [some (.ref 56), some (.int x1), some (.int x2), none, none, none, none] [] M (fun r M1 => px_T 0 316 27 [some (.ref 56), some (.int x1), some (.int x2), some (.int x3)] (r.toList ++ []) M1 Q)) : px_T 0 316 14 [some (.ref 56), some (.int x1), some (.int x2), some (.int x3)] [.int s0] M Q := by
  by_cases c1 : s0 = 0
  · exact ⟨3, ⟨fun q => absurd c1 q, fun _ => ⟨rfl, h1 c1⟩⟩⟩
  · obtain ⟨n, h⟩ := px_T_cl (k := 316) (pc := 24) (y := 314) (st := [.int x2, .int x1, .ref 56]) rfl (h2 c1)
    exact ⟨n + 5, ⟨fun _ => ⟨rfl, h⟩, fun q => absurd q c1⟩⟩
theorem sg_316_27 {d1 : Option Value} {d2 : Option Value} {x3 : Int32} {M : px_Mem} {Q : px_Po} (h1 : px_T 0 308 0 [some (.long (M.2 56 52)), none, some (.long (M.2 56 51)), none, some (.int x3)] [] M (fun r M1 => px_T 0 316 39 [some (.ref 56), d1, d2, some (.int x3)] (r.toList ++ []) M1 Q)) : px_T 0 316 27 [some (.ref 56), d1, d2, some (.int x3)] [] M Q := by
  obtain ⟨n, h⟩ := px_T_cl (k := 316) (pc := 36) (y := 308) (st := [.int x3, .long (M.2 56 51), .long (M.2 56 52)]) rfl (h1)
  exact ⟨n + 6, ⟨rfl, ⟨rfl, h⟩⟩⟩
theorem sg_316_39 {d0 : Option Value} {d1 : Option Value} {d2 : Option Value} {d3 : Option Value} {s0 : Int64} {M : px_Mem} {Q : px_Po} (h1 : Q (some (.long s0)) M) : px_T 0 316 39 [d0, d1, d2, d3] [.long s0] M Q := by
  exact ⟨1, ⟨rfl, h1⟩⟩
theorem sg_317_0 {x1 : Int32} {x2 : Int32} {M : px_Mem} {Q : px_Po} (h1 : px_T 0 315 0 [some (.ref 56), some (.int x1), some (.int x2)] [] M (fun r M1 => px_T 0 317 6 [some (.ref 56), some (.int x1), some (.int x2)] (r.toList ++ []) M1 Q)) : px_T 0 317 0 [some (.ref 56), some (.int x1), some (.int x2)] [] M Q := by
  obtain ⟨n, h⟩ := px_T_cl (k := 317) (pc := 3) (y := 315) (st := [.int x2, .int x1, .ref 56]) rfl (h1)
  exact ⟨n + 4, ⟨rfl, h⟩⟩
theorem sg_317_6 {x1 : Int32} {x2 : Int32} {s0 : Int32} {M : px_Mem} {Q : px_Po} (h1 : (s0 = 0) → Q (some (.long (-2))) M) (h2 : (¬ (s0 = 0)) → px_T 0 314 0 [some (.ref 56), some (.int 1), some (.int x1), none, none, none, none] [] M (fun r M1 => px_T 0 317 19 [some (.ref 56), some (.int x1), some (.int x2)] (r.toList ++ []) M1 Q)) : px_T 0 317 6 [some (.ref 56), some (.int x1), some (.int x2)] [.int s0] M Q := by
  by_cases c1 : s0 = 0
  · exact ⟨3, ⟨fun q => absurd c1 q, fun _ => ⟨rfl, h1 c1⟩⟩⟩
  · obtain ⟨n, h⟩ := px_T_cl (k := 317) (pc := 16) (y := 314) (st := [.int x1, .int 1, .ref 56]) rfl (h2 c1)
    exact ⟨n + 5, ⟨fun _ => ⟨rfl, h⟩, fun q => absurd q c1⟩⟩
theorem sg_317_19 {d1 : Option Value} {x2 : Int32} {M : px_Mem} {Q : px_Po} (h1 : px_T 0 308 0 [some (.long (M.2 56 53)), none, some (.long (M.2 56 51)), none, some (.int x2)] [] M (fun r M1 => px_T 0 317 31 [some (.ref 56), d1, some (.int x2)] (r.toList ++ []) M1 Q)) : px_T 0 317 19 [some (.ref 56), d1, some (.int x2)] [] M Q := by
  obtain ⟨n, h⟩ := px_T_cl (k := 317) (pc := 28) (y := 308) (st := [.int x2, .long (M.2 56 51), .long (M.2 56 53)]) rfl (h1)
  exact ⟨n + 6, ⟨rfl, ⟨rfl, h⟩⟩⟩
theorem sg_317_31 {d0 : Option Value} {d1 : Option Value} {d2 : Option Value} {s0 : Int64} {M : px_Mem} {Q : px_Po} (h1 : Q (some (.long s0)) M) : px_T 0 317 31 [d0, d1, d2] [.long s0] M Q := by
  exact ⟨1, ⟨rfl, h1⟩⟩
theorem sg_318_0 {x0 : Int32} {x1 : Int32} {x2 : Int32} {M : px_Mem} {Q : px_Po} (h1 : px_T 0 188 0 [some (.int x0), some (.int x1)] [] M (fun r M1 => px_T 0 318 5 [some (.int x0), some (.int x1), some (.int x2), none] (r.toList ++ []) M1 Q)) : px_T 0 318 0 [some (.int x0), some (.int x1), some (.int x2), none] [] M Q := by
  obtain ⟨n, h⟩ := px_T_cl (k := 318) (pc := 2) (y := 188) (st := [.int x1, .int x0]) rfl (h1)
  exact ⟨n + 3, h⟩
theorem sg_318_5 {x0 : Int32} {x1 : Int32} {x2 : Int32} {d3 : Option Value} {s0 : Int32} {M : px_Mem} {Q : px_Po} (h1 : (s0 = (-1)) → (x2 = 0) → Q (some (.int 1)) M) (h2 : (s0 = (-1)) → (¬ (x2 = 0)) → Q (some (.int 0)) M) (h3 : (¬ (s0 = (-1))) → px_T 0 189 0 [some (.int x0), some (.int x1)] [] M (fun r M1 => px_T 0 318 30 [some (.int x0), some (.int x1), some (.int x2), some (.int s0)] (r.toList ++ [.long x2.toInt64]) M1 Q)) : px_T 0 318 5 [some (.int x0), some (.int x1), some (.int x2), d3] [.int s0] M Q := by
  by_cases c1 : s0 = (-1)
  · by_cases c2 : x2 = 0
    · exact ⟨9, ⟨fun q => absurd c1 q, fun _ => ⟨fun q => absurd c2 q, fun _ => ⟨Or.inr rfl, h1 c1 c2⟩⟩⟩⟩
    · exact ⟨9, ⟨fun q => absurd c1 q, fun _ => ⟨fun _ => ⟨Or.inl rfl, h2 c1 c2⟩, fun q => absurd q c2⟩⟩⟩
  · obtain ⟨n, h⟩ := px_T_cl (k := 318) (pc := 27) (y := 189) (st := [.int x1, .int x0, .long x2.toInt64]) rfl (h3 c1)
    exact ⟨n + 9, ⟨fun _ => h, fun q => absurd q c1⟩⟩
theorem sg_318_30 {d0 : Option Value} {d1 : Option Value} {d2 : Option Value} {x3 : Int32} {s0 : Int32} {s1 : Int64} {M : px_Mem} {Q : px_Po} (h1 : px_T 0 175 0 [some (.long s1), none, some (.long s0.toInt64), none, some (.long x3.toInt64), none] [] M (fun r M1 => px_T 0 318 36 [d0, d1, d2, some (.int x3)] (r.toList ++ []) M1 Q)) : px_T 0 318 30 [d0, d1, d2, some (.int x3)] [.int s0, .long s1] M Q := by
  obtain ⟨n, h⟩ := px_T_cl (k := 318) (pc := 33) (y := 175) (st := [.long x3.toInt64, .long s0.toInt64, .long s1]) rfl (h1)
  exact ⟨n + 4, h⟩
theorem sg_318_36 {d0 : Option Value} {d1 : Option Value} {d2 : Option Value} {d3 : Option Value} {s0 : Int32} {M : px_Mem} {Q : px_Po} (h1 : (s0 = 0 ∨ s0 = 1)) (h2 : Q (some (.int s0)) M) : px_T 0 318 36 [d0, d1, d2, d3] [.int s0] M Q := by
  exact ⟨1, ⟨h1, h2⟩⟩
theorem sg_319_0 {x1 : Int32} {x2 : Int32} {x3 : Int32} {x4 : Int32} {M : px_Mem} {Q : px_Po} (h1 : px_T 0 180 0 [some (.ref 56)] [] M (fun r M1 => px_T 0 319 4 [some (.ref 56), some (.int x1), some (.int x2), some (.int x3), some (.int x4), none] (r.toList ++ []) M1 Q)) : px_T 0 319 0 [some (.ref 56), some (.int x1), some (.int x2), some (.int x3), some (.int x4), none] [] M Q := by
  obtain ⟨n, h⟩ := px_T_cl (k := 319) (pc := 1) (y := 180) (st := [.ref 56]) rfl (h1)
  exact ⟨n + 2, ⟨rfl, h⟩⟩
theorem sg_319_4 {x1 : Int32} {x2 : Int32} {x3 : Int32} {x4 : Int32} {d5 : Option Value} {s0 : Int32} {M : px_Mem} {Q : px_Po} (h1 : (s0 = 0) → Q (some (.int (-2))) M) (h2 : (¬ (s0 = 0)) → px_T 0 175 0 [some (.long x1.toInt64), none, some (.long 0), none, some (.long 9), none] [] M (fun r M1 => px_T 0 319 16 [some (.ref 56), some (.int x1), some (.int x2), some (.int x3), some (.int x4), d5] (r.toList ++ []) M1 Q)) : px_T 0 319 4 [some (.ref 56), some (.int x1), some (.int x2), some (.int x3), some (.int x4), d5] [.int s0] M Q := by
  by_cases c1 : s0 = 0
  · exact ⟨3, ⟨fun _ => ⟨trivial, h1 c1⟩, fun q => absurd c1 q⟩⟩
  · obtain ⟨n, h⟩ := px_T_cl (k := 319) (pc := 13) (y := 175) (st := [.long 9, .long 0, .long x1.toInt64]) rfl (h2 c1)
    exact ⟨n + 6, ⟨fun q => absurd q c1, fun _ => h⟩⟩
theorem sg_319_16 {x1 : Int32} {x2 : Int32} {x3 : Int32} {x4 : Int32} {d5 : Option Value} {s0 : Int32} {M : px_Mem} {Q : px_Po} (h1 : (s0 = 0) → Q (some (.int (-2))) M) (h2 : (¬ (s0 = 0)) → px_T 0 184 0 [some (.long x2.toInt64), none] [] M (fun r M1 => px_T 0 319 24 [some (.ref 56), some (.int x1), some (.int x2), some (.int x3), some (.int x4), d5] (r.toList ++ []) M1 Q)) : px_T 0 319 16 [some (.ref 56), some (.int x1), some (.int x2), some (.int x3), some (.int x4), d5] [.int s0] M Q := by
  by_cases c1 : s0 = 0
  · exact ⟨3, ⟨fun _ => ⟨trivial, h1 c1⟩, fun q => absurd c1 q⟩⟩
  · obtain ⟨n, h⟩ := px_T_cl (k := 319) (pc := 21) (y := 184) (st := [.long x2.toInt64]) rfl (h2 c1)
    exact ⟨n + 4, ⟨fun q => absurd q c1, fun _ => h⟩⟩
theorem sg_319_24 {x1 : Int32} {x2 : Int32} {x3 : Int32} {x4 : Int32} {d5 : Option Value} {s0 : Int32} {M : px_Mem} {Q : px_Po} (h1 : (s0 = 0) → Q (some (.int (-2))) M) (h2 : (¬ (s0 = 0)) → px_T 0 318 0 [some (.int x1), some (.int 1), some (.int x3), none] [] M (fun r M1 => px_T 0 319 33 [some (.ref 56), some (.int x1), some (.int x2), some (.int x3), some (.int x4), d5] (r.toList ++ []) M1 Q)) : px_T 0 319 24 [some (.ref 56), some (.int x1), some (.int x2), some (.int x3), some (.int x4), d5] [.int s0] M Q := by
  by_cases c1 : s0 = 0
  · exact ⟨3, ⟨fun _ => ⟨trivial, h1 c1⟩, fun q => absurd c1 q⟩⟩
  · obtain ⟨n, h⟩ := px_T_cl (k := 319) (pc := 30) (y := 318) (st := [.int x3, .int 1, .int x1]) rfl (h2 c1)
    exact ⟨n + 5, ⟨fun q => absurd q c1, fun _ => h⟩⟩
theorem sg_319_33 {x1 : Int32} {x2 : Int32} {x3 : Int32} {x4 : Int32} {d5 : Option Value} {s0 : Int32} {M : px_Mem} {Q : px_Po} (h1 : (s0 = 0) → Q (some (.int (-2))) M) (h2 : (¬ (s0 = 0)) → px_T 0 318 0 [some (.int x1), some (.int 2), some (.int x4), none] [] M (fun r M1 => px_T 0 319 43 [some (.ref 56), some (.int x1), some (.int x2), some (.int x3), some (.int x4), d5] (r.toList ++ []) M1 Q)) : px_T 0 319 33 [some (.ref 56), some (.int x1), some (.int x2), some (.int x3), some (.int x4), d5] [.int s0] M Q := by
  by_cases c1 : s0 = 0
  · exact ⟨3, ⟨fun _ => ⟨trivial, h1 c1⟩, fun q => absurd c1 q⟩⟩
  · obtain ⟨n, h⟩ := px_T_cl (k := 319) (pc := 40) (y := 318) (st := [.int x4, .int 2, .int x1]) rfl (h2 c1)
    exact ⟨n + 5, ⟨fun q => absurd q c1, fun _ => h⟩⟩
theorem sg_319_43 {x1 : Int32} {x2 : Int32} {x3 : Int32} {x4 : Int32} {d5 : Option Value} {s0 : Int32} {M : px_Mem} {Q : px_Po} (h1 : (s0 = 0) → Q (some (.int (-2))) M) (h2 : (¬ (s0 = 0)) → ((M.1 57 3) = 30) → Q (some (.int (-5))) M) (h3 : (¬ (s0 = 0)) → (¬ ((M.1 57 3) = 30)) → px_T 0 181 0 [some (.ref 56)] [] M (fun r M1 => px_T 0 319 69 [some (.ref 56), some (.int x1), some (.int x2), some (.int x3), some (.int x4), d5] (r.toList ++ [.int 4, .int 5]) M1 Q)) : px_T 0 319 43 [some (.ref 56), some (.int x1), some (.int x2), some (.int x3), some (.int x4), d5] [.int s0] M Q := by
  by_cases c1 : s0 = 0
  · exact ⟨3, ⟨fun q => absurd c1 q, fun _ => ⟨trivial, h1 c1⟩⟩⟩
  · by_cases c2 : (M.1 57 3) = 30
    · exact ⟨9, ⟨fun _ => ⟨rfl, ⟨Or.inl ⟨0, 285, Or.inl rfl, rfl, (vp_in_nI (n := 3) (by decide) (by decide))⟩, ⟨fun q => absurd c2 q, fun _ => ⟨trivial, h2 c1 c2⟩⟩⟩⟩, fun q => absurd q c1⟩⟩
    · obtain ⟨n, h⟩ := px_T_cl (k := 319) (pc := 66) (y := 181) (st := [.ref 56, .int 4, .int 5]) rfl (h3 c1 c2)
      exact ⟨n + 11, ⟨fun _ => ⟨rfl, ⟨Or.inl ⟨0, 285, Or.inl rfl, rfl, (vp_in_nI (n := 3) (by decide) (by decide))⟩, ⟨fun _ => ⟨rfl, h⟩, fun q => absurd q c2⟩⟩⟩, fun q => absurd q c1⟩⟩
theorem sg_319_69 {x1 : Int32} {x2 : Int32} {x3 : Int32} {x4 : Int32} {d5 : Option Value} {s0 : Int32} {s1 : Int32} {s2 : Int32} {M : px_Mem} {Q : px_Po} (h1 : vp_in (s2 + (s1 * s0)) 285) (h2 : vp_in ((s2 + (s1 * s0)) + 1) 285) (h3 : vp_in ((s2 + (s1 * s0)) + 2) 285) (h4 : vp_in ((s2 + (s1 * s0)) + 3) 285) (h5 : px_T 0 319 112 [some (.ref 56), some (.int x1), some (.int x2), some (.int x3), some (.int x4), some (.int (s2 + (s1 * s0)))] [] (px_wI (px_wI (px_wI (px_wI M 57 ((s2 + (s1 * s0)).toNatClampNeg) x1) 57 (((s2 + (s1 * s0)) + 1).toNatClampNeg) x2) 57 (((s2 + (s1 * s0)) + 2).toNatClampNeg) x3) 57 (((s2 + (s1 * s0)) + 3).toNatClampNeg) x4) Q) : px_T 0 319 69 [some (.ref 56), some (.int x1), some (.int x2), some (.int x3), some (.int x4), d5] [.int s0, .int s1, .int s2] M Q := by
  obtain ⟨n, h⟩ := h5
  exact ⟨n + 29, ⟨rfl, ⟨⟨285, rfl, h1⟩, ⟨rfl, ⟨⟨285, rfl, h2⟩, ⟨rfl, ⟨⟨285, rfl, h3⟩, ⟨rfl, ⟨⟨285, rfl, h4⟩, h⟩⟩⟩⟩⟩⟩⟩⟩⟩
theorem sg_319_112 {d1 : Option Value} {d2 : Option Value} {d3 : Option Value} {d4 : Option Value} {d5 : Option Value} {M : px_Mem} {Q : px_Po} (h1 : px_T 0 224 0 [some (.ref 56)] [] (px_wI M 57 3 ((M.1 57 3) + 1)) (fun r M1 => px_T 0 319 126 [some (.ref 56), d1, d2, d3, d4, d5] (r.toList ++ []) M1 Q)) : px_T 0 319 112 [some (.ref 56), d1, d2, d3, d4, d5] [] M Q := by
  obtain ⟨n, h⟩ := px_T_cl (k := 319) (pc := 123) (y := 224) (st := [.ref 56]) rfl (h1)
  exact ⟨n + 10, ⟨rfl, ⟨Or.inl ⟨0, 285, Or.inl rfl, rfl, (vp_in_nI (n := 3) (by decide) (by decide))⟩, ⟨⟨285, rfl, (vp_in_nI (n := 3) (by decide) (by decide))⟩, ⟨rfl, h⟩⟩⟩⟩⟩
theorem sg_319_126 {d1 : Option Value} {d2 : Option Value} {d3 : Option Value} {d4 : Option Value} {d5 : Option Value} {s0 : Int32} {M : px_Mem} {Q : px_Po} (h1 : vp_in ((M.1 56 20) - 1) 72) (h2 : Q (some (.int (M.1 73 (((M.1 56 20) - 1).toNatClampNeg)))) M) : px_T 0 319 126 [some (.ref 56), d1, d2, d3, d4, d5] [.int s0] M Q := by
  exact ⟨9, ⟨rfl, ⟨rfl, ⟨Or.inl ⟨0, 72, Or.inl rfl, rfl, h1⟩, ⟨trivial, h2⟩⟩⟩⟩⟩
theorem sg_320_0 {M : px_Mem} {Q : px_Po} (h1 : px_T 0 180 0 [some (.ref 56)] [] M (fun r M1 => px_T 0 320 4 [some (.ref 56)] (r.toList ++ []) M1 Q)) : px_T 0 320 0 [some (.ref 56)] [] M Q := by
  obtain ⟨n, h⟩ := px_T_cl (k := 320) (pc := 1) (y := 180) (st := [.ref 56]) rfl (h1)
  exact ⟨n + 2, ⟨rfl, h⟩⟩
theorem sg_320_4 {s0 : Int32} {M : px_Mem} {Q : px_Po} (h1 : (s0 = 0) → Q (some (.int (-2))) M) (h2 : (¬ (s0 = 0)) → ((M.1 57 3) = 0) → Q (some (.int (-5))) M) (h3 : (¬ (s0 = 0)) → (¬ ((M.1 57 3) = 0)) → Q (some (.int ((M.1 57 3) - 1))) (px_wI M 57 3 ((M.1 57 3) - 1))) : px_T 0 320 4 [some (.ref 56)] [.int s0] M Q := by
  by_cases c1 : s0 = 0
  · exact ⟨3, ⟨fun q => absurd c1 q, fun _ => ⟨trivial, h1 c1⟩⟩⟩
  · by_cases c2 : (M.1 57 3) = 0
    · exact ⟨8, ⟨fun _ => ⟨rfl, ⟨Or.inl ⟨0, 285, Or.inl rfl, rfl, (vp_in_nI (n := 3) (by decide) (by decide))⟩, ⟨fun q => absurd c2 q, fun _ => ⟨trivial, h2 c1 c2⟩⟩⟩⟩, fun q => absurd q c1⟩⟩
    · exact ⟨19, ⟨fun _ => ⟨rfl, ⟨Or.inl ⟨0, 285, Or.inl rfl, rfl, (vp_in_nI (n := 3) (by decide) (by decide))⟩, ⟨fun _ => ⟨rfl, ⟨Or.inl ⟨0, 285, Or.inl rfl, rfl, (vp_in_nI (n := 3) (by decide) (by decide))⟩, ⟨⟨285, rfl, (vp_in_nI (n := 3) (by decide) (by decide))⟩, ⟨rfl, ⟨Or.inl ⟨0, 285, Or.inl rfl, rfl, (vp_in_nI (n := 3) (by decide) (by decide))⟩, ⟨trivial, h3 c1 c2⟩⟩⟩⟩⟩⟩, fun q => absurd q c2⟩⟩⟩, fun q => absurd q c1⟩⟩
theorem sg_321_0 {M : px_Mem} {Q : px_Po} (h1 : px_T 0 180 0 [some (.ref 56)] [] M (fun r M1 => px_T 0 321 4 [some (.ref 56), none] (r.toList ++ []) M1 Q)) : px_T 0 321 0 [some (.ref 56), none] [] M Q := by
  obtain ⟨n, h⟩ := px_T_cl (k := 321) (pc := 1) (y := 180) (st := [.ref 56]) rfl (h1)
  exact ⟨n + 2, ⟨rfl, h⟩⟩
theorem sg_321_4 {d1 : Option Value} {s0 : Int32} {M : px_Mem} {Q : px_Po} (h1 : (s0 = 0) → Q (some (.int (-2))) M) (h2 : (¬ (s0 = 0)) → Q (some (.int (M.1 57 3))) (px_wI M 57 3 0)) : px_T 0 321 4 [some (.ref 56), d1] [.int s0] M Q := by
  by_cases c1 : s0 = 0
  · exact ⟨3, ⟨fun q => absurd c1 q, fun _ => ⟨trivial, h1 c1⟩⟩⟩
  · exact ⟨13, ⟨fun _ => ⟨rfl, ⟨Or.inl ⟨0, 285, Or.inl rfl, rfl, (vp_in_nI (n := 3) (by decide) (by decide))⟩, ⟨rfl, ⟨⟨285, rfl, (vp_in_nI (n := 3) (by decide) (by decide))⟩, ⟨trivial, h2 c1⟩⟩⟩⟩⟩, fun q => absurd q c1⟩⟩
theorem sg_322_0 {x1 : Int64} {M : px_Mem} {Q : px_Po} (h1 : px_T 0 209 0 [some (.ref 56), none] [] M (fun r M1 => px_T 0 322 4 [some (.ref 56), some (.long x1), none, none, none, none, none] (r.toList ++ []) M1 Q)) : px_T 0 322 0 [some (.ref 56), some (.long x1), none, none, none, none, none] [] M Q := by
  obtain ⟨n, h⟩ := px_T_cl (k := 322) (pc := 1) (y := 209) (st := [.ref 56]) rfl (h1)
  exact ⟨n + 2, ⟨rfl, h⟩⟩
theorem sg_322_4 {x1 : Int64} {d3 : Option Value} {d4 : Option Value} {d5 : Option Value} {d6 : Option Value} {M : px_Mem} {Q : px_Po} (h1 : px_T 0 322 12 [some (.ref 56), some (.long x1), none, some (.long x1), none, some (.int 0), some (.int 0)] [] M Q) : px_T 0 322 4 [some (.ref 56), some (.long x1), none, d3, d4, d5, d6] [] M Q := by
  obtain ⟨n, h⟩ := h1
  exact ⟨n + 6, h⟩
theorem sg_322_12 {d1 : Option Value} {x3 : Int64} {x5 : Int32} {x6 : Int32} {M : px_Mem} {Q : px_Po} (h1 : ((M.1 56 20) ≤ x6) → px_T 0 223 0 [some (.ref 56), none] [] M (fun r M1 => px_T 0 322 97 [some (.ref 56), d1, none, some (.long x3), none, some (.int x5), some (.int x6)] (r.toList ++ []) M1 Q)) (h2 : (¬ ((M.1 56 20) ≤ x6)) → ((0 : Int32) ≤ (lg_cmp (((((1103515245 * x3) + 12345) - ((1103515245 * x3) + 12345) / 2147483648 * 2147483648) / 65536) - ((((1103515245 * x3) + 12345) - ((1103515245 * x3) + 12345) / 2147483648 * 2147483648) / 65536) / 10 * 10) ((M.1 57 1).toInt64))) → vp_in x6 72) (h3 : (¬ ((M.1 56 20) ≤ x6)) → ((0 : Int32) ≤ (lg_cmp (((((1103515245 * x3) + 12345) - ((1103515245 * x3) + 12345) / 2147483648 * 2147483648) / 65536) - ((((1103515245 * x3) + 12345) - ((1103515245 * x3) + 12345) / 2147483648 * 2147483648) / 65536) / 10 * 10) ((M.1 57 1).toInt64))) → px_T 0 322 67 [some (.ref 56), d1, none, some (.long (((1103515245 * x3) + 12345) - ((1103515245 * x3) + 12345) / 2147483648 * 2147483648)), none, some (.int x5), some (.int x6)] [] (px_wI M 67 x6.toNatClampNeg (vp_nar .boolean 0)) Q) (h4 : (¬ ((M.1 56 20) ≤ x6)) → (¬ ((0 : Int32) ≤ (lg_cmp (((((1103515245 * x3) + 12345) - ((1103515245 * x3) + 12345) / 2147483648 * 2147483648) / 65536) - ((((1103515245 * x3) + 12345) - ((1103515245 * x3) + 12345) / 2147483648 * 2147483648) / 65536) / 10 * 10) ((M.1 57 1).toInt64)))) → vp_in x6 72) (h5 : (¬ ((M.1 56 20) ≤ x6)) → (¬ ((0 : Int32) ≤ (lg_cmp (((((1103515245 * x3) + 12345) - ((1103515245 * x3) + 12345) / 2147483648 * 2147483648) / 65536) - ((((1103515245 * x3) + 12345) - ((1103515245 * x3) + 12345) / 2147483648 * 2147483648) / 65536) / 10 * 10) ((M.1 57 1).toInt64)))) → px_T 0 322 67 [some (.ref 56), d1, none, some (.long (((1103515245 * x3) + 12345) - ((1103515245 * x3) + 12345) / 2147483648 * 2147483648)), none, some (.int x5), some (.int x6)] [] (px_wI M 67 x6.toNatClampNeg (vp_nar .boolean 1)) Q) : px_T 0 322 12 [some (.ref 56), d1, none, some (.long x3), none, some (.int x5), some (.int x6)] [] M Q := by
  by_cases c1 : (M.1 56 20) ≤ x6
  · obtain ⟨n, h⟩ := px_T_cl (k := 322) (pc := 94) (y := 223) (st := [.ref 56]) rfl (h1 c1)
    exact ⟨n + 6, ⟨rfl, ⟨fun _ => ⟨rfl, h⟩, fun q => absurd c1 q⟩⟩⟩
  · by_cases c2 : (0 : Int32) ≤ (lg_cmp (((((1103515245 * x3) + 12345) - ((1103515245 * x3) + 12345) / 2147483648 * 2147483648) / 65536) - ((((1103515245 * x3) + 12345) - ((1103515245 * x3) + 12345) / 2147483648 * 2147483648) / 65536) / 10 * 10) ((M.1 57 1).toInt64))
    · obtain ⟨n, h⟩ := h3 c1 c2
      exact ⟨n + 29, ⟨rfl, ⟨fun q => absurd q c1, fun _ => ⟨(by decide), ⟨rfl, ⟨(by decide), ⟨(by decide), ⟨rfl, ⟨Or.inl ⟨0, 285, Or.inl rfl, rfl, (vp_in_nI (n := 1) (by decide) (by decide))⟩, ⟨fun _ => (Or.inr ⟨⟨72, rfl, (h2 c1 c2)⟩, h⟩), fun q => absurd c2 q⟩⟩⟩⟩⟩⟩⟩⟩⟩⟩
    · obtain ⟨n, h⟩ := h5 c1 c2
      exact ⟨n + 30, ⟨rfl, ⟨fun q => absurd q c1, fun _ => ⟨(by decide), ⟨rfl, ⟨(by decide), ⟨(by decide), ⟨rfl, ⟨Or.inl ⟨0, 285, Or.inl rfl, rfl, (vp_in_nI (n := 1) (by decide) (by decide))⟩, ⟨fun q => absurd q c2, fun _ => (Or.inr ⟨⟨72, rfl, (h4 c1 c2)⟩, h⟩)⟩⟩⟩⟩⟩⟩⟩⟩⟩⟩
theorem sg_322_97 {d0 : Option Value} {d1 : Option Value} {d2 : Option Value} {d3 : Option Value} {x5 : Int32} {d6 : Option Value} {M : px_Mem} {Q : px_Po} (h1 : Q (some (.int x5)) M) : px_T 0 322 97 [d0, d1, d2, d3, none, some (.int x5), d6] [] M Q := by
  exact ⟨2, ⟨trivial, h1⟩⟩
theorem sg_322_67 {d1 : Option Value} {d2 : Option Value} {x3 : Int64} {x5 : Int32} {x6 : Int32} {M : px_Mem} {Q : px_Po} (h1 : vp_in x6 72) (h2 : ((M.1 67 x6.toNatClampNeg) = 0) → px_T 0 322 12 [some (.ref 56), d1, d2, some (.long x3), none, some (.int (x5 + 0)), some (.int (x6 + 1))] [] M Q) (h3 : (¬ ((M.1 67 x6.toNatClampNeg) = 0)) → px_T 0 322 12 [some (.ref 56), d1, d2, some (.long x3), none, some (.int (x5 + 1)), some (.int (x6 + 1))] [] M Q) : px_T 0 322 67 [some (.ref 56), d1, d2, some (.long x3), none, some (.int x5), some (.int x6)] [] M Q := by
  by_cases c1 : (M.1 67 x6.toNatClampNeg) = 0
  · obtain ⟨n, h⟩ := h2 c1
    exact ⟨n + 11, ⟨rfl, ⟨⟨3, 72, Or.inr (Or.inl rfl), rfl, h1⟩, ⟨fun _ => h, fun q => absurd c1 q⟩⟩⟩⟩
  · obtain ⟨n, h⟩ := h3 c1
    exact ⟨n + 12, ⟨rfl, ⟨⟨3, 72, Or.inr (Or.inl rfl), rfl, h1⟩, ⟨fun q => absurd q c1, fun _ => h⟩⟩⟩⟩
theorem sg_323_0 {x0 : Int32} {M : px_Mem} {Q : px_Po} (h1 : px_T 0 175 0 [some (.long x0.toInt64), none, some (.long 0), none, some (.long 2000000000), none] [] M (fun r M1 => px_T 0 323 9 [some (.int x0)] (r.toList ++ []) M1 Q)) : px_T 0 323 0 [some (.int x0)] [] M Q := by
  obtain ⟨n, h⟩ := px_T_cl (k := 323) (pc := 6) (y := 175) (st := [.long 2000000000, .long 0, .long x0.toInt64]) rfl (h1)
  exact ⟨n + 5, h⟩
theorem sg_323_9 {d0 : Option Value} {s0 : Int32} {M : px_Mem} {Q : px_Po} (h1 : (s0 = 0 ∨ s0 = 1)) (h2 : Q (some (.int s0)) M) : px_T 0 323 9 [d0] [.int s0] M Q := by
  exact ⟨1, ⟨h1, h2⟩⟩
theorem sg_324_0 {x1 : Int32} {x2 : Int32} {M : px_Mem} {Q : px_Po} (h1 : px_T 0 180 0 [some (.ref 56)] [] M (fun r M1 => px_T 0 324 4 [some (.ref 56), some (.int x1), some (.int x2), none] (r.toList ++ []) M1 Q)) : px_T 0 324 0 [some (.ref 56), some (.int x1), some (.int x2), none] [] M Q := by
  obtain ⟨n, h⟩ := px_T_cl (k := 324) (pc := 1) (y := 180) (st := [.ref 56]) rfl (h1)
  exact ⟨n + 2, ⟨rfl, h⟩⟩
theorem sg_324_4 {x1 : Int32} {x2 : Int32} {d3 : Option Value} {s0 : Int32} {M : px_Mem} {Q : px_Po} (h1 : (s0 = 0) → Q (some (.int (-2))) M) (h2 : (¬ (s0 = 0)) → px_T 0 323 0 [some (.int x1)] [] M (fun r M1 => px_T 0 324 11 [some (.ref 56), some (.int x1), some (.int x2), d3] (r.toList ++ []) M1 Q)) : px_T 0 324 4 [some (.ref 56), some (.int x1), some (.int x2), d3] [.int s0] M Q := by
  by_cases c1 : s0 = 0
  · exact ⟨3, ⟨fun _ => ⟨trivial, h1 c1⟩, fun q => absurd c1 q⟩⟩
  · obtain ⟨n, h⟩ := px_T_cl (k := 324) (pc := 8) (y := 323) (st := [.int x1]) rfl (h2 c1)
    exact ⟨n + 3, ⟨fun q => absurd q c1, fun _ => h⟩⟩
theorem sg_324_11 {x1 : Int32} {x2 : Int32} {d3 : Option Value} {s0 : Int32} {M : px_Mem} {Q : px_Po} (h1 : (s0 = 0) → Q (some (.int (-2))) M) (h2 : (¬ (s0 = 0)) → px_T 0 175 0 [some (.long x2.toInt64), none, some (.long 0), none, some (.long 1), none] [] M (fun r M1 => px_T 0 324 21 [some (.ref 56), some (.int x1), some (.int x2), d3] (r.toList ++ []) M1 Q)) : px_T 0 324 11 [some (.ref 56), some (.int x1), some (.int x2), d3] [.int s0] M Q := by
  by_cases c1 : s0 = 0
  · exact ⟨3, ⟨fun _ => ⟨trivial, h1 c1⟩, fun q => absurd c1 q⟩⟩
  · obtain ⟨n, h⟩ := px_T_cl (k := 324) (pc := 18) (y := 175) (st := [.long 1, .long 0, .long x2.toInt64]) rfl (h2 c1)
    exact ⟨n + 6, ⟨fun q => absurd q c1, fun _ => h⟩⟩
theorem sg_324_21 {x1 : Int32} {x2 : Int32} {d3 : Option Value} {s0 : Int32} {M : px_Mem} {Q : px_Po} (h1 : (s0 = 0) → Q (some (.int (-2))) M) (h2 : (¬ (s0 = 0)) → px_T 0 322 0 [some (.ref 56), some (.long x1.toInt64), none, none, none, none, none] [] M (fun r M1 => px_T 0 324 33 [some (.ref 56), some (.int x1), some (.int x2), d3] (r.toList ++ []) M1 Q)) : px_T 0 324 21 [some (.ref 56), some (.int x1), some (.int x2), d3] [.int s0] M Q := by
  by_cases c1 : s0 = 0
  · exact ⟨3, ⟨fun q => absurd c1 q, fun _ => ⟨trivial, h1 c1⟩⟩⟩
  · obtain ⟨n, h⟩ := px_T_cl (k := 324) (pc := 30) (y := 322) (st := [.long x1.toInt64, .ref 56]) rfl (h2 c1)
    exact ⟨n + 5, ⟨fun _ => ⟨rfl, h⟩, fun q => absurd q c1⟩⟩
theorem sg_324_33 {d1 : Option Value} {x2 : Int32} {d3 : Option Value} {s0 : Int32} {M : px_Mem} {Q : px_Po} (h1 : (x2 = 0) → Q (some (.int s0)) M) (h2 : (¬ (x2 = 0)) → px_T 0 230 0 [some (.ref 56), some (.int (M.1 56 20))] [] M (fun r M1 => px_T 0 324 50 [some (.ref 56), d1, some (.int x2), some (.int s0)] (r.toList ++ []) M1 Q)) : px_T 0 324 33 [some (.ref 56), d1, some (.int x2), d3] [.int s0] M Q := by
  by_cases c1 : x2 = 0
  · exact ⟨6, ⟨fun q => absurd c1 q, fun _ => ⟨trivial, h1 c1⟩⟩⟩
  · obtain ⟨n, h⟩ := px_T_cl (k := 324) (pc := 47) (y := 230) (st := [.int (M.1 56 20), .ref 56]) rfl (h2 c1)
    exact ⟨n + 7, ⟨fun _ => ⟨rfl, ⟨rfl, h⟩⟩, fun q => absurd q c1⟩⟩
theorem sg_324_50 {d0 : Option Value} {d1 : Option Value} {d2 : Option Value} {d3 : Option Value} {s0 : Int32} {M : px_Mem} {Q : px_Po} (h1 : Q (some (.int s0)) M) : px_T 0 324 50 [d0, d1, d2, d3] [.int s0] M Q := by
  exact ⟨1, ⟨trivial, h1⟩⟩
theorem sg_325_0 {x1 : Int32} {x2 : Int32} {x3 : Int32} {M : px_Mem} {Q : px_Po} (h1 : px_T 0 180 0 [some (.ref 56)] [] M (fun r M1 => px_T 0 325 4 [some (.ref 56), some (.int x1), some (.int x2), some (.int x3), none, none] (r.toList ++ []) M1 Q)) : px_T 0 325 0 [some (.ref 56), some (.int x1), some (.int x2), some (.int x3), none, none] [] M Q := by
  obtain ⟨n, h⟩ := px_T_cl (k := 325) (pc := 1) (y := 180) (st := [.ref 56]) rfl (h1)
  exact ⟨n + 2, ⟨rfl, h⟩⟩
theorem sg_325_4 {x1 : Int32} {x2 : Int32} {x3 : Int32} {d4 : Option Value} {d5 : Option Value} {s0 : Int32} {M : px_Mem} {Q : px_Po} (h1 : (s0 = 0) → Q (some (.int (-2))) M) (h2 : (¬ (s0 = 0)) → px_T 0 323 0 [some (.int x1)] [] M (fun r M1 => px_T 0 325 11 [some (.ref 56), some (.int x1), some (.int x2), some (.int x3), d4, d5] (r.toList ++ []) M1 Q)) : px_T 0 325 4 [some (.ref 56), some (.int x1), some (.int x2), some (.int x3), d4, d5] [.int s0] M Q := by
  by_cases c1 : s0 = 0
  · exact ⟨3, ⟨fun _ => ⟨trivial, h1 c1⟩, fun q => absurd c1 q⟩⟩
  · obtain ⟨n, h⟩ := px_T_cl (k := 325) (pc := 8) (y := 323) (st := [.int x1]) rfl (h2 c1)
    exact ⟨n + 3, ⟨fun q => absurd q c1, fun _ => h⟩⟩
theorem sg_325_11 {x1 : Int32} {x2 : Int32} {x3 : Int32} {d4 : Option Value} {d5 : Option Value} {s0 : Int32} {M : px_Mem} {Q : px_Po} (h1 : (s0 = 0) → Q (some (.int (-2))) M) (h2 : (¬ (s0 = 0)) → px_T 0 175 0 [some (.long x2.toInt64), none, some (.long 1), none, some (.long 20), none] [] M (fun r M1 => px_T 0 325 23 [some (.ref 56), some (.int x1), some (.int x2), some (.int x3), d4, d5] (r.toList ++ []) M1 Q)) : px_T 0 325 11 [some (.ref 56), some (.int x1), some (.int x2), some (.int x3), d4, d5] [.int s0] M Q := by
  by_cases c1 : s0 = 0
  · exact ⟨3, ⟨fun _ => ⟨trivial, h1 c1⟩, fun q => absurd c1 q⟩⟩
  · obtain ⟨n, h⟩ := px_T_cl (k := 325) (pc := 20) (y := 175) (st := [.long 20, .long 1, .long x2.toInt64]) rfl (h2 c1)
    exact ⟨n + 6, ⟨fun q => absurd q c1, fun _ => h⟩⟩
theorem sg_325_23 {x1 : Int32} {x2 : Int32} {x3 : Int32} {d4 : Option Value} {d5 : Option Value} {s0 : Int32} {M : px_Mem} {Q : px_Po} (h1 : (s0 = 0) → Q (some (.int (-2))) M) (h2 : (¬ (s0 = 0)) → px_T 0 184 0 [some (.long x3.toInt64), none] [] M (fun r M1 => px_T 0 325 31 [some (.ref 56), some (.int x1), some (.int x2), some (.int x3), d4, d5] (r.toList ++ []) M1 Q)) : px_T 0 325 23 [some (.ref 56), some (.int x1), some (.int x2), some (.int x3), d4, d5] [.int s0] M Q := by
  by_cases c1 : s0 = 0
  · exact ⟨3, ⟨fun _ => ⟨trivial, h1 c1⟩, fun q => absurd c1 q⟩⟩
  · obtain ⟨n, h⟩ := px_T_cl (k := 325) (pc := 28) (y := 184) (st := [.long x3.toInt64]) rfl (h2 c1)
    exact ⟨n + 4, ⟨fun q => absurd q c1, fun _ => h⟩⟩
theorem sg_325_31 {x1 : Int32} {x2 : Int32} {x3 : Int32} {d4 : Option Value} {d5 : Option Value} {s0 : Int32} {M : px_Mem} {Q : px_Po} (h1 : (s0 = 0) → Q (some (.int (-2))) M) (h2 : (¬ (s0 = 0)) → px_T 0 325 43 [some (.ref 56), some (.int x1), some (.int x2), some (.int x3), some (.int 0), some (.int 0)] [] M Q) : px_T 0 325 31 [some (.ref 56), some (.int x1), some (.int x2), some (.int x3), d4, d5] [.int s0] M Q := by
  by_cases c1 : s0 = 0
  · exact ⟨3, ⟨fun q => absurd c1 q, fun _ => ⟨trivial, h1 c1⟩⟩⟩
  · obtain ⟨n, h⟩ := h2 c1
    exact ⟨n + 5, ⟨fun _ => h, fun q => absurd q c1⟩⟩
theorem sg_325_43 {x1 : Int32} {x2 : Int32} {x3 : Int32} {x4 : Int32} {x5 : Int32} {M : px_Mem} {Q : px_Po} (h1 : (x2 ≤ x5) → Q (some (.int x4)) M) (h2 : (¬ (x2 ≤ x5)) → px_T 0 322 0 [some (.ref 56), some (.long (x1.toInt64 + x5.toInt64)), none, none, none, none, none] [] M (fun r M1 => px_T 0 325 59 [some (.ref 56), some (.int x1), some (.int x2), some (.int x3), some (.int x4), some (.int x5)] (r.toList ++ []) M1 Q)) : px_T 0 325 43 [some (.ref 56), some (.int x1), some (.int x2), some (.int x3), some (.int x4), some (.int x5)] [] M Q := by
  by_cases c1 : x2 ≤ x5
  · exact ⟨5, ⟨fun _ => ⟨trivial, h1 c1⟩, fun q => absurd c1 q⟩⟩
  · obtain ⟨n, h⟩ := px_T_cl (k := 325) (pc := 56) (y := 322) (st := [.long (x1.toInt64 + x5.toInt64), .ref 56]) rfl (h2 c1)
    exact ⟨n + 10, ⟨fun q => absurd q c1, fun _ => ⟨rfl, h⟩⟩⟩
theorem sg_325_59 {x1 : Int32} {x2 : Int32} {x3 : Int32} {x4 : Int32} {x5 : Int32} {s0 : Int32} {M : px_Mem} {Q : px_Po} (h1 : px_T 0 227 0 [some (.ref 56), some (.int x3), some (.int (M.1 56 20))] [] M (fun r M1 => px_T 0 325 71 [some (.ref 56), some (.int x1), some (.int x2), some (.int x3), some (.int x4), some (.int x5)] (r.toList ++ [.int x4]) M1 Q)) : px_T 0 325 59 [some (.ref 56), some (.int x1), some (.int x2), some (.int x3), some (.int x4), some (.int x5)] [.int s0] M Q := by
  obtain ⟨n, h⟩ := px_T_cl (k := 325) (pc := 68) (y := 227) (st := [.int (M.1 56 20), .int x3, .ref 56, .int x4]) rfl (h1)
  exact ⟨n + 7, ⟨rfl, ⟨rfl, h⟩⟩⟩
theorem sg_325_71 {x1 : Int32} {x2 : Int32} {x3 : Int32} {d4 : Option Value} {x5 : Int32} {s0 : Int32} {s1 : Int32} {M : px_Mem} {Q : px_Po} (h1 : (s0 = 0) → px_T 0 325 43 [some (.ref 56), some (.int x1), some (.int x2), some (.int x3), some (.int (s1 + 0)), some (.int (x5 + 1))] [] M Q) (h2 : (¬ (s0 = 0)) → px_T 0 325 43 [some (.ref 56), some (.int x1), some (.int x2), some (.int x3), some (.int (s1 + 1)), some (.int (x5 + 1))] [] M Q) : px_T 0 325 71 [some (.ref 56), some (.int x1), some (.int x2), some (.int x3), d4, some (.int x5)] [.int s0, .int s1] M Q := by
  by_cases c1 : s0 = 0
  · obtain ⟨n, h⟩ := h1 c1
    exact ⟨n + 6, ⟨fun _ => h, fun q => absurd c1 q⟩⟩
  · obtain ⟨n, h⟩ := h2 c1
    exact ⟨n + 7, ⟨fun q => absurd q c1, fun _ => h⟩⟩
theorem sg_326_0 {x1 : Int32} {M : px_Mem} {Q : px_Po} (h1 : px_T 0 175 0 [some (.long x1.toInt64), none, some (.long 0), none, some (.long 4), none] [] M (fun r M1 => px_T 0 326 9 [some (.ref 56), some (.int x1), none, none] (r.toList ++ []) M1 Q)) : px_T 0 326 0 [some (.ref 56), some (.int x1), none, none] [] M Q := by
  obtain ⟨n, h⟩ := px_T_cl (k := 326) (pc := 6) (y := 175) (st := [.long 4, .long 0, .long x1.toInt64]) rfl (h1)
  exact ⟨n + 5, h⟩
theorem sg_326_9 {x1 : Int32} {d2 : Option Value} {d3 : Option Value} {s0 : Int32} {M : px_Mem} {Q : px_Po} (h1 : (s0 = 0) → (x1 = 5) → Q (some (.int (M.1 56 5))) M) (h2 : (s0 = 0) → (¬ (x1 = 5)) → (x1 = 6) → px_T 0 326 41 [some (.ref 56), some (.int x1), some (.int 0), some (.int 0)] [] M Q) (h3 : (s0 = 0) → (¬ (x1 = 5)) → (¬ (x1 = 6)) → Q (some (.int (-1))) M) (h4 : (¬ (s0 = 0)) → vp_in x1 285) (h5 : (¬ (s0 = 0)) → Q (some (.int (M.1 57 x1.toNatClampNeg))) M) : px_T 0 326 9 [some (.ref 56), some (.int x1), d2, d3] [.int s0] M Q := by
  by_cases c1 : s0 = 0
  · by_cases c2 : x1 = 5
    · exact ⟨7, ⟨fun _ => ⟨fun q => absurd c2 q, fun _ => ⟨rfl, ⟨trivial, h1 c1 c2⟩⟩⟩, fun q => absurd c1 q⟩⟩
    · by_cases c3 : x1 = 6
      · obtain ⟨n, h⟩ := h2 c1 c2 c3
        exact ⟨n + 11, ⟨fun _ => ⟨fun _ => ⟨fun _ => h, fun q => absurd c3 q⟩, fun q => absurd q c2⟩, fun q => absurd c1 q⟩⟩
      · exact ⟨9, ⟨fun _ => ⟨fun _ => ⟨fun q => absurd q c3, fun _ => ⟨trivial, h3 c1 c2 c3⟩⟩, fun q => absurd q c2⟩, fun q => absurd c1 q⟩⟩
  · exact ⟨6, ⟨fun q => absurd q c1, fun _ => ⟨rfl, ⟨Or.inl ⟨0, 285, Or.inl rfl, rfl, (h4 c1)⟩, ⟨trivial, h5 c1⟩⟩⟩⟩⟩
theorem sg_326_41 {d1 : Option Value} {x2 : Int32} {x3 : Int32} {M : px_Mem} {Q : px_Po} (h1 : ((4 : Int32) ≤ x3) → Q (some (.int x2)) M) (h2 : (¬ ((4 : Int32) ≤ x3)) → vp_in x3 4) (h3 : (¬ ((4 : Int32) ≤ x3)) → ((M.1 88 x3.toNatClampNeg) = (-1)) → px_T 0 326 41 [some (.ref 56), d1, some (.int (x2 + 0)), some (.int (x3 + 1))] [] M Q) (h4 : (¬ ((4 : Int32) ≤ x3)) → (¬ ((M.1 88 x3.toNatClampNeg) = (-1))) → px_T 0 326 41 [some (.ref 56), d1, some (.int (x2 + 1)), some (.int (x3 + 1))] [] M Q) : px_T 0 326 41 [some (.ref 56), d1, some (.int x2), some (.int x3)] [] M Q := by
  by_cases c1 : (4 : Int32) ≤ x3
  · exact ⟨5, ⟨fun _ => ⟨trivial, h1 c1⟩, fun q => absurd c1 q⟩⟩
  · by_cases c2 : (M.1 88 x3.toNatClampNeg) = (-1)
    · obtain ⟨n, h⟩ := h3 c1 c2
      exact ⟨n + 16, ⟨fun q => absurd q c1, fun _ => ⟨rfl, ⟨Or.inl ⟨0, 4, Or.inl rfl, rfl, (h2 c1)⟩, ⟨fun q => absurd c2 q, fun _ => h⟩⟩⟩⟩⟩
    · obtain ⟨n, h⟩ := h4 c1 c2
      exact ⟨n + 15, ⟨fun q => absurd q c1, fun _ => ⟨rfl, ⟨Or.inl ⟨0, 4, Or.inl rfl, rfl, (h2 c1)⟩, ⟨fun _ => h, fun q => absurd q c2⟩⟩⟩⟩⟩
theorem sg_327_0 {x0 : Int32} {M : px_Mem} {Q : px_Po} (h1 : px_T 0 175 0 [some (.long x0.toInt64), none, some (.long 0), none, some (.long 3), none] [] M (fun r M1 => px_T 0 327 9 [some (.int x0)] (r.toList ++ []) M1 Q)) : px_T 0 327 0 [some (.int x0)] [] M Q := by
  obtain ⟨n, h⟩ := px_T_cl (k := 327) (pc := 6) (y := 175) (st := [.long 3, .long 0, .long x0.toInt64]) rfl (h1)
  exact ⟨n + 5, h⟩
theorem sg_327_9 {d0 : Option Value} {s0 : Int32} {M : px_Mem} {Q : px_Po} (h1 : (s0 = 0 ∨ s0 = 1)) (h2 : Q (some (.int s0)) M) : px_T 0 327 9 [d0] [.int s0] M Q := by
  exact ⟨1, ⟨h1, h2⟩⟩
theorem sg_328_0 {x0 : Int64} {x2 : Int32} {M : px_Mem} {Q : px_Po} (h1 : Q (some (.long ((x0 <<< (((64 : Int32) - (8 <<< (x2 &&& 31))).toInt64 &&& 63)) >>> (((64 : Int32) - (8 <<< (x2 &&& 31))).toInt64 &&& 63)))) M) : px_T 0 328 0 [some (.long x0), none, some (.int x2), none] [] M Q := by
  exact ⟨12, ⟨rfl, h1⟩⟩
theorem sg_329_0 {x1 : Int32} {x2 : Int32} {x3 : Int32} {M : px_Mem} {Q : px_Po} (h1 : px_T 0 327 0 [some (.int x1)] [] M (fun r M1 => px_T 0 329 4 [some (.ref 56), some (.int x1), some (.int x2), some (.int x3), none] (r.toList ++ []) M1 Q)) : px_T 0 329 0 [some (.ref 56), some (.int x1), some (.int x2), some (.int x3), none] [] M Q := by
  obtain ⟨n, h⟩ := px_T_cl (k := 329) (pc := 1) (y := 327) (st := [.int x1]) rfl (h1)
  exact ⟨n + 2, h⟩
theorem sg_329_4 {x1 : Int32} {x2 : Int32} {x3 : Int32} {d4 : Option Value} {s0 : Int32} {M : px_Mem} {Q : px_Po} (h1 : (s0 = 0) → Q (some (.int (-2))) M) (h2 : (¬ (s0 = 0)) → px_T 0 175 0 [some (.long x2.toInt64), none, some (.long 0), none, some (.long 3), none] [] M (fun r M1 => px_T 0 329 16 [some (.ref 56), some (.int x1), some (.int x2), some (.int x3), d4] (r.toList ++ []) M1 Q)) : px_T 0 329 4 [some (.ref 56), some (.int x1), some (.int x2), some (.int x3), d4] [.int s0] M Q := by
  by_cases c1 : s0 = 0
  · exact ⟨3, ⟨fun _ => ⟨trivial, h1 c1⟩, fun q => absurd c1 q⟩⟩
  · obtain ⟨n, h⟩ := px_T_cl (k := 329) (pc := 13) (y := 175) (st := [.long 3, .long 0, .long x2.toInt64]) rfl (h2 c1)
    exact ⟨n + 6, ⟨fun q => absurd q c1, fun _ => h⟩⟩
theorem sg_329_16 {x1 : Int32} {x2 : Int32} {x3 : Int32} {d4 : Option Value} {s0 : Int32} {M : px_Mem} {Q : px_Po} (h1 : (s0 = 0) → Q (some (.int (-2))) M) (h2 : (¬ (s0 = 0)) → (x3 ≤ 60) → ((0 : Int32) ≤ x3) → vp_in x1 4) (h3 : (¬ (s0 = 0)) → (x3 ≤ 60) → ((0 : Int32) ≤ x3) → px_T 0 329 52 [some (.ref 56), some (.int x1), some (.int x2), some (.int x3), some (.int 0)] [] (px_wI (px_wI M 88 x1.toNatClampNeg x3) 89 x1.toNatClampNeg x2) Q) (h4 : (¬ (s0 = 0)) → (x3 ≤ 60) → (¬ ((0 : Int32) ≤ x3)) → Q (some (.int (-3))) M) (h5 : (¬ (s0 = 0)) → (¬ (x3 ≤ 60)) → Q (some (.int (-2))) M) : px_T 0 329 16 [some (.ref 56), some (.int x1), some (.int x2), some (.int x3), d4] [.int s0] M Q := by
  by_cases c1 : s0 = 0
  · exact ⟨3, ⟨fun _ => ⟨trivial, h1 c1⟩, fun q => absurd c1 q⟩⟩
  · by_cases c2 : x3 ≤ 60
    · by_cases c3 : (0 : Int32) ≤ x3
      · obtain ⟨n, h⟩ := h3 c1 c2 c3
        exact ⟨n + 18, ⟨fun q => absurd q c1, fun _ => ⟨fun _ => ⟨fun _ => ⟨rfl, ⟨⟨4, rfl, (h2 c1 c2 c3)⟩, ⟨rfl, ⟨⟨4, rfl, (h2 c1 c2 c3)⟩, h⟩⟩⟩⟩, fun q => absurd c3 q⟩, fun q => absurd c2 q⟩⟩⟩
      · exact ⟨8, ⟨fun q => absurd q c1, fun _ => ⟨fun _ => ⟨fun q => absurd q c3, fun _ => ⟨trivial, h4 c1 c2 c3⟩⟩, fun q => absurd c2 q⟩⟩⟩
    · exact ⟨6, ⟨fun q => absurd q c1, fun _ => ⟨fun q => absurd q c2, fun _ => ⟨trivial, h5 c1 c2⟩⟩⟩⟩
theorem sg_329_52 {x1 : Int32} {d2 : Option Value} {d3 : Option Value} {x4 : Int32} {M : px_Mem} {Q : px_Po} (h1 : ((60 : Int32) ≤ x4) → Q (some (.int 0)) M) (h2 : (¬ ((60 : Int32) ≤ x4)) → vp_in ((60 * x1) + x4) 240) (h3 : (¬ ((60 : Int32) ≤ x4)) → px_T 0 329 52 [some (.ref 56), some (.int x1), d2, d3, some (.int (x4 + 1))] [] (px_wL M 90 (((60 * x1) + x4).toNatClampNeg) 0) Q) : px_T 0 329 52 [some (.ref 56), some (.int x1), d2, d3, some (.int x4)] [] M Q := by
  by_cases c1 : (60 : Int32) ≤ x4
  · exact ⟨5, ⟨fun _ => ⟨trivial, h1 c1⟩, fun q => absurd c1 q⟩⟩
  · obtain ⟨n, h⟩ := h3 c1
    exact ⟨n + 14, ⟨fun q => absurd q c1, fun _ => ⟨rfl, ⟨⟨240, rfl, (h2 c1)⟩, h⟩⟩⟩⟩
theorem sg_330_0 {x1 : Int32} {x2 : Int32} {x3 : Int64} {M : px_Mem} {Q : px_Po} (h1 : px_T 0 327 0 [some (.int x1)] [] M (fun r M1 => px_T 0 330 4 [some (.ref 56), some (.int x1), some (.int x2), some (.long x3), none] (r.toList ++ []) M1 Q)) : px_T 0 330 0 [some (.ref 56), some (.int x1), some (.int x2), some (.long x3), none] [] M Q := by
  obtain ⟨n, h⟩ := px_T_cl (k := 330) (pc := 1) (y := 327) (st := [.int x1]) rfl (h1)
  exact ⟨n + 2, h⟩
theorem sg_330_4 {x1 : Int32} {x2 : Int32} {x3 : Int64} {s0 : Int32} {M : px_Mem} {Q : px_Po} (h1 : (s0 = 0) → Q (some (.int (-2))) M) (h2 : (¬ (s0 = 0)) → vp_in x1 4) (h3 : (¬ (s0 = 0)) → ((M.1 88 x1.toNatClampNeg) = (-1)) → Q (some (.int (-6))) M) (h4 : (¬ (s0 = 0)) → (¬ ((M.1 88 x1.toNatClampNeg) = (-1))) → px_T 0 175 0 [some (.long x2.toInt64), none, some (.long 0), none, some (.long (((M.1 88 x1.toNatClampNeg) - 1).toInt64)), none] [] M (fun r M1 => px_T 0 330 38 [some (.ref 56), some (.int x1), some (.int x2), some (.long x3), none] (r.toList ++ []) M1 Q)) : px_T 0 330 4 [some (.ref 56), some (.int x1), some (.int x2), some (.long x3), none] [.int s0] M Q := by
  by_cases c1 : s0 = 0
  · exact ⟨3, ⟨fun q => absurd c1 q, fun _ => ⟨trivial, h1 c1⟩⟩⟩
  · by_cases c2 : (M.1 88 x1.toNatClampNeg) = (-1)
    · exact ⟨9, ⟨fun _ => ⟨rfl, ⟨Or.inl ⟨0, 4, Or.inl rfl, rfl, (h2 c1)⟩, ⟨fun q => absurd c2 q, fun _ => ⟨trivial, h3 c1 c2⟩⟩⟩⟩, fun q => absurd q c1⟩⟩
    · obtain ⟨n, h⟩ := px_T_cl (k := 330) (pc := 35) (y := 175) (st := [.long (((M.1 88 x1.toNatClampNeg) - 1).toInt64), .long 0, .long x2.toInt64]) rfl (h4 c1 c2)
      exact ⟨n + 18, ⟨fun _ => ⟨rfl, ⟨Or.inl ⟨0, 4, Or.inl rfl, rfl, (h2 c1)⟩, ⟨fun _ => ⟨rfl, ⟨Or.inl ⟨0, 4, Or.inl rfl, rfl, (h2 c1)⟩, h⟩⟩, fun q => absurd q c2⟩⟩⟩, fun q => absurd q c1⟩⟩
theorem sg_330_38 {x1 : Int32} {x2 : Int32} {x3 : Int64} {s0 : Int32} {M : px_Mem} {Q : px_Po} (h1 : (s0 = 0) → Q (some (.int (-7))) M) (h2 : (¬ (s0 = 0)) → vp_in x1 4) (h3 : (¬ (s0 = 0)) → px_T 0 328 0 [some (.long x3), none, some (.int (M.1 89 x1.toNatClampNeg)), none] [] M (fun r M1 => px_T 0 330 64 [some (.ref 56), some (.int x1), some (.int x2), some (.long x3), none] (r.toList ++ [.int ((60 * x1) + x2), .ref 90]) M1 Q)) : px_T 0 330 38 [some (.ref 56), some (.int x1), some (.int x2), some (.long x3), none] [.int s0] M Q := by
  by_cases c1 : s0 = 0
  · exact ⟨3, ⟨fun q => absurd c1 q, fun _ => ⟨trivial, h1 c1⟩⟩⟩
  · obtain ⟨n, h⟩ := px_T_cl (k := 330) (pc := 61) (y := 328) (st := [.int (M.1 89 x1.toNatClampNeg), .long x3, .int ((60 * x1) + x2), .ref 90]) rfl (h3 c1)
    exact ⟨n + 14, ⟨fun _ => ⟨rfl, ⟨rfl, ⟨Or.inl ⟨0, 4, Or.inl rfl, rfl, (h2 c1)⟩, h⟩⟩⟩, fun q => absurd q c1⟩⟩
theorem sg_330_64 {d0 : Option Value} {d1 : Option Value} {d2 : Option Value} {d3 : Option Value} {s0 : Int64} {s1 : Int32} {M : px_Mem} {Q : px_Po} (h1 : vp_in s1 240) (h2 : Q (some (.int 0)) (px_wL M 90 s1.toNatClampNeg s0)) : px_T 0 330 64 [d0, d1, d2, d3, none] [.long s0, .int s1, .ref 90] M Q := by
  exact ⟨3, ⟨⟨240, rfl, h1⟩, ⟨trivial, h2⟩⟩⟩
theorem sg_331_0 {x1 : Int32} {x2 : Int32} {x3 : Int32} {x4 : Int32} {x5 : Int32} {M : px_Mem} {Q : px_Po} (h1 : px_T 0 327 0 [some (.int x1)] [] M (fun r M1 => px_T 0 331 4 [some (.ref 56), some (.int x1), some (.int x2), some (.int x3), some (.int x4), some (.int x5), none] (r.toList ++ []) M1 Q)) : px_T 0 331 0 [some (.ref 56), some (.int x1), some (.int x2), some (.int x3), some (.int x4), some (.int x5), none] [] M Q := by
  obtain ⟨n, h⟩ := px_T_cl (k := 331) (pc := 1) (y := 327) (st := [.int x1]) rfl (h1)
  exact ⟨n + 2, h⟩
theorem sg_331_4 {x1 : Int32} {x2 : Int32} {x3 : Int32} {x4 : Int32} {x5 : Int32} {d6 : Option Value} {s0 : Int32} {M : px_Mem} {Q : px_Po} (h1 : (s0 = 0) → Q (some (.int (-2))) M) (h2 : (¬ (s0 = 0)) → px_T 0 327 0 [some (.int x3)] [] M (fun r M1 => px_T 0 331 11 [some (.ref 56), some (.int x1), some (.int x2), some (.int x3), some (.int x4), some (.int x5), d6] (r.toList ++ []) M1 Q)) : px_T 0 331 4 [some (.ref 56), some (.int x1), some (.int x2), some (.int x3), some (.int x4), some (.int x5), d6] [.int s0] M Q := by
  by_cases c1 : s0 = 0
  · exact ⟨3, ⟨fun _ => ⟨trivial, h1 c1⟩, fun q => absurd c1 q⟩⟩
  · obtain ⟨n, h⟩ := px_T_cl (k := 331) (pc := 8) (y := 327) (st := [.int x3]) rfl (h2 c1)
    exact ⟨n + 3, ⟨fun q => absurd q c1, fun _ => h⟩⟩
theorem sg_331_11 {x1 : Int32} {x2 : Int32} {x3 : Int32} {x4 : Int32} {x5 : Int32} {d6 : Option Value} {s0 : Int32} {M : px_Mem} {Q : px_Po} (h1 : (s0 = 0) → Q (some (.int (-2))) M) (h2 : (¬ (s0 = 0)) → vp_in x1 4) (h3 : (¬ (s0 = 0)) → ((M.1 88 x1.toNatClampNeg) = (-1)) → Q (some (.int (-6))) M) (h4 : (¬ (s0 = 0)) → (¬ ((M.1 88 x1.toNatClampNeg) = (-1))) → vp_in x3 4) (h5 : (¬ (s0 = 0)) → (¬ ((M.1 88 x1.toNatClampNeg) = (-1))) → ((M.1 88 x3.toNatClampNeg) = (-1)) → Q (some (.int (-6))) M) (h6 : (¬ (s0 = 0)) → (¬ ((M.1 88 x1.toNatClampNeg) = (-1))) → (¬ ((M.1 88 x3.toNatClampNeg) = (-1))) → ((M.1 89 x1.toNatClampNeg) = (M.1 89 x3.toNatClampNeg)) → (x2 < 0) → Q (some (.int (-7))) M) (h7 : (¬ (s0 = 0)) → (¬ ((M.1 88 x1.toNatClampNeg) = (-1))) → (¬ ((M.1 88 x3.toNatClampNeg) = (-1))) → ((M.1 89 x1.toNatClampNeg) = (M.1 89 x3.toNatClampNeg)) → (¬ (x2 < 0)) → (x4 < 0) → Q (some (.int (-7))) M) (h8 : (¬ (s0 = 0)) → (¬ ((M.1 88 x1.toNatClampNeg) = (-1))) → (¬ ((M.1 88 x3.toNatClampNeg) = (-1))) → ((M.1 89 x1.toNatClampNeg) = (M.1 89 x3.toNatClampNeg)) → (¬ (x2 < 0)) → (¬ (x4 < 0)) → (x5 < 0) → Q (some (.int (-7))) M) (h9 : (¬ (s0 = 0)) → (¬ ((M.1 88 x1.toNatClampNeg) = (-1))) → (¬ ((M.1 88 x3.toNatClampNeg) = (-1))) → ((M.1 89 x1.toNatClampNeg) = (M.1 89 x3.toNatClampNeg)) → (¬ (x2 < 0)) → (¬ (x4 < 0)) → (¬ (x5 < 0)) → ((0 : Int32) < (lg_cmp (x2.toInt64 + x5.toInt64) ((M.1 88 x1.toNatClampNeg).toInt64))) → px_T 0 331 107 [some (.ref 56), some (.int x1), some (.int x2), some (.int x3), some (.int x4), some (.int x5), d6] [] M Q) (h10 : (¬ (s0 = 0)) → (¬ ((M.1 88 x1.toNatClampNeg) = (-1))) → (¬ ((M.1 88 x3.toNatClampNeg) = (-1))) → ((M.1 89 x1.toNatClampNeg) = (M.1 89 x3.toNatClampNeg)) → (¬ (x2 < 0)) → (¬ (x4 < 0)) → (¬ (x5 < 0)) → (¬ ((0 : Int32) < (lg_cmp (x2.toInt64 + x5.toInt64) ((M.1 88 x1.toNatClampNeg).toInt64)))) → px_T 0 331 89 [some (.ref 56), some (.int x1), some (.int x2), some (.int x3), some (.int x4), some (.int x5), d6] [] M Q) (h11 : (¬ (s0 = 0)) → (¬ ((M.1 88 x1.toNatClampNeg) = (-1))) → (¬ ((M.1 88 x3.toNatClampNeg) = (-1))) → (¬ ((M.1 89 x1.toNatClampNeg) = (M.1 89 x3.toNatClampNeg))) → Q (some (.int (-8))) M) : px_T 0 331 11 [some (.ref 56), some (.int x1), some (.int x2), some (.int x3), some (.int x4), some (.int x5), d6] [.int s0] M Q := by
  by_cases c1 : s0 = 0
  · exact ⟨3, ⟨fun q => absurd c1 q, fun _ => ⟨trivial, h1 c1⟩⟩⟩
  · by_cases c2 : (M.1 88 x1.toNatClampNeg) = (-1)
    · exact ⟨9, ⟨fun _ => ⟨rfl, ⟨Or.inl ⟨0, 4, Or.inl rfl, rfl, (h2 c1)⟩, ⟨fun _ => ⟨trivial, h3 c1 c2⟩, fun q => absurd c2 q⟩⟩⟩, fun q => absurd q c1⟩⟩
    · by_cases c3 : (M.1 88 x3.toNatClampNeg) = (-1)
      · exact ⟨15, ⟨fun _ => ⟨rfl, ⟨Or.inl ⟨0, 4, Or.inl rfl, rfl, (h2 c1)⟩, ⟨fun q => absurd q c2, fun _ => ⟨rfl, ⟨Or.inl ⟨0, 4, Or.inl rfl, rfl, (h4 c1 c2)⟩, ⟨fun q => absurd c3 q, fun _ => ⟨trivial, h5 c1 c2 c3⟩⟩⟩⟩⟩⟩⟩, fun q => absurd q c1⟩⟩
      · by_cases c4 : (M.1 89 x1.toNatClampNeg) = (M.1 89 x3.toNatClampNeg)
        · by_cases c5 : x2 < 0
          · exact ⟨26, ⟨fun _ => ⟨rfl, ⟨Or.inl ⟨0, 4, Or.inl rfl, rfl, (h2 c1)⟩, ⟨fun q => absurd q c2, fun _ => ⟨rfl, ⟨Or.inl ⟨0, 4, Or.inl rfl, rfl, (h4 c1 c2)⟩, ⟨fun _ => ⟨rfl, ⟨Or.inl ⟨0, 4, Or.inl rfl, rfl, (h2 c1)⟩, ⟨rfl, ⟨Or.inl ⟨0, 4, Or.inl rfl, rfl, (h4 c1 c2)⟩, ⟨fun _ => ⟨fun _ => ⟨trivial, h6 c1 c2 c3 c4 c5⟩, fun q => absurd c5 q⟩, fun q => absurd c4 q⟩⟩⟩⟩⟩, fun q => absurd q c3⟩⟩⟩⟩⟩⟩, fun q => absurd q c1⟩⟩
          · by_cases c6 : x4 < 0
            · exact ⟨28, ⟨fun _ => ⟨rfl, ⟨Or.inl ⟨0, 4, Or.inl rfl, rfl, (h2 c1)⟩, ⟨fun q => absurd q c2, fun _ => ⟨rfl, ⟨Or.inl ⟨0, 4, Or.inl rfl, rfl, (h4 c1 c2)⟩, ⟨fun _ => ⟨rfl, ⟨Or.inl ⟨0, 4, Or.inl rfl, rfl, (h2 c1)⟩, ⟨rfl, ⟨Or.inl ⟨0, 4, Or.inl rfl, rfl, (h4 c1 c2)⟩, ⟨fun _ => ⟨fun q => absurd q c5, fun _ => ⟨fun _ => ⟨trivial, h7 c1 c2 c3 c4 c5 c6⟩, fun q => absurd c6 q⟩⟩, fun q => absurd c4 q⟩⟩⟩⟩⟩, fun q => absurd q c3⟩⟩⟩⟩⟩⟩, fun q => absurd q c1⟩⟩
            · by_cases c7 : x5 < 0
              · exact ⟨30, ⟨fun _ => ⟨rfl, ⟨Or.inl ⟨0, 4, Or.inl rfl, rfl, (h2 c1)⟩, ⟨fun q => absurd q c2, fun _ => ⟨rfl, ⟨Or.inl ⟨0, 4, Or.inl rfl, rfl, (h4 c1 c2)⟩, ⟨fun _ => ⟨rfl, ⟨Or.inl ⟨0, 4, Or.inl rfl, rfl, (h2 c1)⟩, ⟨rfl, ⟨Or.inl ⟨0, 4, Or.inl rfl, rfl, (h4 c1 c2)⟩, ⟨fun _ => ⟨fun q => absurd q c5, fun _ => ⟨fun q => absurd q c6, fun _ => ⟨fun _ => ⟨trivial, h8 c1 c2 c3 c4 c5 c6 c7⟩, fun q => absurd c7 q⟩⟩⟩, fun q => absurd c4 q⟩⟩⟩⟩⟩, fun q => absurd q c3⟩⟩⟩⟩⟩⟩, fun q => absurd q c1⟩⟩
              · by_cases c8 : (0 : Int32) < (lg_cmp (x2.toInt64 + x5.toInt64) ((M.1 88 x1.toNatClampNeg).toInt64))
                · obtain ⟨n, h⟩ := h9 c1 c2 c3 c4 c5 c6 c7 c8
                  exact ⟨n + 40, ⟨fun _ => ⟨rfl, ⟨Or.inl ⟨0, 4, Or.inl rfl, rfl, (h2 c1)⟩, ⟨fun q => absurd q c2, fun _ => ⟨rfl, ⟨Or.inl ⟨0, 4, Or.inl rfl, rfl, (h4 c1 c2)⟩, ⟨fun _ => ⟨rfl, ⟨Or.inl ⟨0, 4, Or.inl rfl, rfl, (h2 c1)⟩, ⟨rfl, ⟨Or.inl ⟨0, 4, Or.inl rfl, rfl, (h4 c1 c2)⟩, ⟨fun _ => ⟨fun q => absurd q c5, fun _ => ⟨fun q => absurd q c6, fun _ => ⟨fun q => absurd q c7, fun _ => ⟨rfl, ⟨Or.inl ⟨0, 4, Or.inl rfl, rfl, (h2 c1)⟩, ⟨fun _ => h, fun q => absurd c8 q⟩⟩⟩⟩⟩⟩, fun q => absurd c4 q⟩⟩⟩⟩⟩, fun q => absurd q c3⟩⟩⟩⟩⟩⟩, fun q => absurd q c1⟩⟩
                · obtain ⟨n, h⟩ := h10 c1 c2 c3 c4 c5 c6 c7 c8
                  exact ⟨n + 40, ⟨fun _ => ⟨rfl, ⟨Or.inl ⟨0, 4, Or.inl rfl, rfl, (h2 c1)⟩, ⟨fun q => absurd q c2, fun _ => ⟨rfl, ⟨Or.inl ⟨0, 4, Or.inl rfl, rfl, (h4 c1 c2)⟩, ⟨fun _ => ⟨rfl, ⟨Or.inl ⟨0, 4, Or.inl rfl, rfl, (h2 c1)⟩, ⟨rfl, ⟨Or.inl ⟨0, 4, Or.inl rfl, rfl, (h4 c1 c2)⟩, ⟨fun _ => ⟨fun q => absurd q c5, fun _ => ⟨fun q => absurd q c6, fun _ => ⟨fun q => absurd q c7, fun _ => ⟨rfl, ⟨Or.inl ⟨0, 4, Or.inl rfl, rfl, (h2 c1)⟩, ⟨fun q => absurd q c8, fun _ => h⟩⟩⟩⟩⟩⟩, fun q => absurd c4 q⟩⟩⟩⟩⟩, fun q => absurd q c3⟩⟩⟩⟩⟩⟩, fun q => absurd q c1⟩⟩
        · exact ⟨24, ⟨fun _ => ⟨rfl, ⟨Or.inl ⟨0, 4, Or.inl rfl, rfl, (h2 c1)⟩, ⟨fun q => absurd q c2, fun _ => ⟨rfl, ⟨Or.inl ⟨0, 4, Or.inl rfl, rfl, (h4 c1 c2)⟩, ⟨fun _ => ⟨rfl, ⟨Or.inl ⟨0, 4, Or.inl rfl, rfl, (h2 c1)⟩, ⟨rfl, ⟨Or.inl ⟨0, 4, Or.inl rfl, rfl, (h4 c1 c2)⟩, ⟨fun q => absurd q c4, fun _ => ⟨trivial, h11 c1 c2 c3 c4⟩⟩⟩⟩⟩⟩, fun q => absurd q c3⟩⟩⟩⟩⟩⟩, fun q => absurd q c1⟩⟩
