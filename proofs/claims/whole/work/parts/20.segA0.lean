theorem sg_0_0 {x0 : Int32} {x1 : Int32} {x2 : Int32} {x3 : Int32} {M : px_Mem} {Q : px_Po} (h1 : px_T 0 1 0 [some (.int x1), some (.int 1)] [] M (fun r M1 => px_T 0 0 6 [some (.int x0), some (.int x1), some (.int x2), some (.int x3)] (r.toList ++ [.int x0]) M1 Q)) : px_T 0 0 0 [some (.int x0), some (.int x1), some (.int x2), some (.int x3)] [] M Q := by
  obtain ⟨n, h⟩ := px_T_cl (k := 0) (pc := 3) (y := 1) (st := [.int 1, .int x1, .int x0]) rfl (h1)
  exact ⟨n + 4, h⟩
theorem sg_0_6 {d0 : Option Value} {d1 : Option Value} {x2 : Int32} {x3 : Int32} {s0 : Int32} {s1 : Int32} {M : px_Mem} {Q : px_Po} (h1 : px_T 0 1 0 [some (.int x2), some (.int 2)] [] M (fun r M1 => px_T 0 0 12 [d0, d1, some (.int x2), some (.int x3)] (r.toList ++ [.int (s1 ||| s0)]) M1 Q)) : px_T 0 0 6 [d0, d1, some (.int x2), some (.int x3)] [.int s0, .int s1] M Q := by
  obtain ⟨n, h⟩ := px_T_cl (k := 0) (pc := 9) (y := 1) (st := [.int 2, .int x2, .int (s1 ||| s0)]) rfl (h1)
  exact ⟨n + 4, h⟩
theorem sg_0_12 {d0 : Option Value} {d1 : Option Value} {d2 : Option Value} {x3 : Int32} {s0 : Int32} {s1 : Int32} {M : px_Mem} {Q : px_Po} (h1 : px_T 0 1 0 [some (.int x3), some (.int 3)] [] M (fun r M1 => px_T 0 0 18 [d0, d1, d2, some (.int x3)] (r.toList ++ [.int (s1 ||| s0)]) M1 Q)) : px_T 0 0 12 [d0, d1, d2, some (.int x3)] [.int s0, .int s1] M Q := by
  obtain ⟨n, h⟩ := px_T_cl (k := 0) (pc := 15) (y := 1) (st := [.int 3, .int x3, .int (s1 ||| s0)]) rfl (h1)
  exact ⟨n + 4, h⟩
theorem sg_0_18 {d0 : Option Value} {d1 : Option Value} {d2 : Option Value} {d3 : Option Value} {s0 : Int32} {s1 : Int32} {M : px_Mem} {Q : px_Po} (h1 : Q (some (.int (s1 ||| s0))) M) : px_T 0 0 18 [d0, d1, d2, d3] [.int s0, .int s1] M Q := by
  exact ⟨2, ⟨trivial, h1⟩⟩
theorem sg_1_0 {x0 : Int32} {x1 : Int32} {M : px_Mem} {Q : px_Po} (h1 : Q (some (.int (x0 <<< ((4 * x1) &&& 31)))) M) : px_T 0 1 0 [some (.int x0), some (.int x1)] [] M Q := by
  exact ⟨6, ⟨trivial, h1⟩⟩
theorem sg_2_0 {x0 : Int32} {M : px_Mem} {Q : px_Po} (h1 : Q (some (.int (x0 &&& 15))) M) : px_T 0 2 0 [some (.int x0)] [] M Q := by
  exact ⟨4, ⟨trivial, h1⟩⟩
theorem sg_3_0 {x0 : Int32} {x1 : Int32} {M : px_Mem} {Q : px_Po} (h1 : (x1 = 3) → Q (some (.int ((x0 >>> ((4 * x1) &&& 31)) &&& 31))) M) (h2 : (¬ (x1 = 3)) → Q (some (.int ((x0 >>> ((4 * x1) &&& 31)) &&& 15))) M) : px_T 0 3 0 [some (.int x0), some (.int x1)] [] M Q := by
  by_cases c1 : x1 = 3
  · exact ⟨12, ⟨fun q => absurd c1 q, fun _ => ⟨trivial, h1 c1⟩⟩⟩
  · exact ⟨11, ⟨fun _ => ⟨trivial, h2 c1⟩, fun q => absurd q c1⟩⟩
theorem sg_4_0 {x0 : Int32} {M : px_Mem} {Q : px_Po} (h1 : (x0 < 0) → Q (some (.int 0)) M) (h2 : (¬ (x0 < 0)) → ((10 : Int32) ≤ x0) → Q (some (.int 0)) M) (h3 : (¬ (x0 < 0)) → (¬ ((10 : Int32) ≤ x0)) → vp_in x0 10) (h4 : (¬ (x0 < 0)) → (¬ ((10 : Int32) ≤ x0)) → Q (some (.int (M.1 1001 x0.toNatClampNeg))) M) : px_T 0 4 0 [some (.int x0)] [] M Q := by
  by_cases c1 : x0 < 0
  · exact ⟨4, ⟨fun _ => ⟨trivial, h1 c1⟩, fun q => absurd c1 q⟩⟩
  · by_cases c2 : (10 : Int32) ≤ x0
    · exact ⟨7, ⟨fun q => absurd q c1, fun _ => ⟨fun _ => ⟨trivial, h2 c1 c2⟩, fun q => absurd c2 q⟩⟩⟩
    · exact ⟨10, ⟨fun q => absurd q c1, fun _ => ⟨fun q => absurd q c2, fun _ => ⟨rfl, ⟨Or.inl ⟨10, 10, Or.inr rfl, rfl, (h3 c1 c2)⟩, ⟨trivial, h4 c1 c2⟩⟩⟩⟩⟩⟩
theorem sg_5_0 {x0 : Int32} {x1 : Int32} {M : px_Mem} {Q : px_Po} (h1 : px_T 0 4 0 [some (.int x0)] [] M (fun r M1 => px_T 0 5 5 [some (.int x0), some (.int x1)] (r.toList ++ [.int x1]) M1 Q)) : px_T 0 5 0 [some (.int x0), some (.int x1)] [] M Q := by
  obtain ⟨n, h⟩ := px_T_cl (k := 5) (pc := 2) (y := 4) (st := [.int x0, .int x1]) rfl (h1)
  exact ⟨n + 3, h⟩
theorem sg_5_5 {x0 : Int32} {x1 : Int32} {s0 : Int32} {s1 : Int32} {M : px_Mem} {Q : px_Po} (h1 : (s1 ≤ s0) → (x1 = 1) → Q (some (.int 1)) M) (h2 : (s1 ≤ s0) → (¬ (x1 = 1)) → (x0 = 0) → Q (some (.int 1)) M) (h3 : (s1 ≤ s0) → (¬ (x1 = 1)) → (¬ (x0 = 0)) → px_T 0 7 0 [some (.int x0), some (.int x1)] [] M (fun r M1 => px_T 0 5 24 [some (.int x0), some (.int x1)] (r.toList ++ []) M1 Q)) (h4 : (¬ (s1 ≤ s0)) → Q (some (.int 0)) M) : px_T 0 5 5 [some (.int x0), some (.int x1)] [.int s0, .int s1] M Q := by
  by_cases c1 : s1 ≤ s0
  · by_cases c2 : x1 = 1
    · exact ⟨7, ⟨fun _ => ⟨fun _ => ⟨trivial, h1 c1 c2⟩, fun q => absurd c2 q⟩, fun q => absurd c1 q⟩⟩
    · by_cases c3 : x0 = 0
      · exact ⟨9, ⟨fun _ => ⟨fun q => absurd q c2, fun _ => ⟨fun _ => ⟨trivial, h2 c1 c2 c3⟩, fun q => absurd c3 q⟩⟩, fun q => absurd c1 q⟩⟩
      · obtain ⟨n, h⟩ := px_T_cl (k := 5) (pc := 21) (y := 7) (st := [.int x1, .int x0]) rfl (h3 c1 c2 c3)
        exact ⟨n + 9, ⟨fun _ => ⟨fun q => absurd q c2, fun _ => ⟨fun q => absurd q c3, fun _ => h⟩⟩, fun q => absurd c1 q⟩⟩
  · exact ⟨3, ⟨fun q => absurd q c1, fun _ => ⟨trivial, h4 c1⟩⟩⟩
theorem sg_5_24 {d0 : Option Value} {d1 : Option Value} {s0 : Int32} {M : px_Mem} {Q : px_Po} (h1 : (s0 = 0) → Q (some (.int 0)) M) (h2 : (¬ (s0 = 0)) → Q (some (.int 1)) M) : px_T 0 5 24 [d0, d1] [.int s0] M Q := by
  by_cases c1 : s0 = 0
  · exact ⟨3, ⟨fun _ => ⟨trivial, h1 c1⟩, fun q => absurd c1 q⟩⟩
  · exact ⟨4, ⟨fun q => absurd q c1, fun _ => ⟨trivial, h2 c1⟩⟩⟩
theorem sg_6_0 {x0 : Int32} {x1 : Int32} {M : px_Mem} {Q : px_Po} (h1 : px_T 0 4 0 [some (.int x0)] [] M (fun r M1 => px_T 0 6 5 [some (.int x0), some (.int x1)] (r.toList ++ [.int x1]) M1 Q)) : px_T 0 6 0 [some (.int x0), some (.int x1)] [] M Q := by
  obtain ⟨n, h⟩ := px_T_cl (k := 6) (pc := 2) (y := 4) (st := [.int x0, .int x1]) rfl (h1)
  exact ⟨n + 3, h⟩
theorem sg_6_5 {x0 : Int32} {x1 : Int32} {s0 : Int32} {s1 : Int32} {M : px_Mem} {Q : px_Po} (h1 : (s1 ≤ s0) → (x1 = 1) → Q (some (.int 15)) M) (h2 : (s1 ≤ s0) → (¬ (x1 = 1)) → (x0 = 0) → Q (some (.int 15)) M) (h3 : (s1 ≤ s0) → (¬ (x1 = 1)) → (¬ (x0 = 0)) → px_T 0 7 0 [some (.int x0), some (.int x1)] [] M (fun r M1 => px_T 0 6 27 [some (.int x0), some (.int x1)] (r.toList ++ []) M1 Q)) (h4 : (¬ (s1 ≤ s0)) → Q (some (.int 0)) M) : px_T 0 6 5 [some (.int x0), some (.int x1)] [.int s0, .int s1] M Q := by
  by_cases c1 : s1 ≤ s0
  · by_cases c2 : x1 = 1
    · exact ⟨6, ⟨fun _ => ⟨fun _ => ⟨trivial, h1 c1 c2⟩, fun q => absurd c2 q⟩, fun q => absurd c1 q⟩⟩
    · by_cases c3 : x0 = 0
      · exact ⟨8, ⟨fun _ => ⟨fun q => absurd q c2, fun _ => ⟨fun q => absurd c3 q, fun _ => ⟨trivial, h2 c1 c2 c3⟩⟩⟩, fun q => absurd c1 q⟩⟩
      · obtain ⟨n, h⟩ := px_T_cl (k := 6) (pc := 24) (y := 7) (st := [.int x1, .int x0]) rfl (h3 c1 c2 c3)
        exact ⟨n + 9, ⟨fun _ => ⟨fun q => absurd q c2, fun _ => ⟨fun _ => h, fun q => absurd q c3⟩⟩, fun q => absurd c1 q⟩⟩
  · exact ⟨3, ⟨fun q => absurd q c1, fun _ => ⟨trivial, h4 c1⟩⟩⟩
theorem sg_6_27 {d0 : Option Value} {d1 : Option Value} {s0 : Int32} {M : px_Mem} {Q : px_Po} (h1 : (s0 = 0) → Q (some (.int 7)) M) (h2 : (¬ (s0 = 0)) → Q (some (.int 30)) M) : px_T 0 6 27 [d0, d1] [.int s0] M Q := by
  by_cases c1 : s0 = 0
  · exact ⟨3, ⟨fun _ => ⟨trivial, h1 c1⟩, fun q => absurd c1 q⟩⟩
  · exact ⟨4, ⟨fun q => absurd q c1, fun _ => ⟨trivial, h2 c1⟩⟩⟩
theorem sg_7_0 {x0 : Int32} {x1 : Int32} {M : px_Mem} {Q : px_Po} (h1 : (x1 = 3) → (x0 = 7) → Q (some (.int 1)) M) (h2 : (x1 = 3) → (¬ (x0 = 7)) → (x0 = 8) → Q (some (.int 1)) M) (h3 : (x1 = 3) → (¬ (x0 = 7)) → (¬ (x0 = 8)) → Q (some (.int 0)) M) (h4 : (¬ (x1 = 3)) → Q (some (.int 0)) M) : px_T 0 7 0 [some (.int x0), some (.int x1)] [] M Q := by
  by_cases c1 : x1 = 3
  · by_cases c2 : x0 = 7
    · exact ⟨9, ⟨fun q => absurd c1 q, fun _ => ⟨fun _ => ⟨Or.inr rfl, h1 c1 c2⟩, fun q => absurd c2 q⟩⟩⟩
    · by_cases c3 : x0 = 8
      · exact ⟨12, ⟨fun q => absurd c1 q, fun _ => ⟨fun q => absurd q c2, fun _ => ⟨fun q => absurd c3 q, fun _ => ⟨Or.inr rfl, h2 c1 c2 c3⟩⟩⟩⟩⟩
      · exact ⟨11, ⟨fun q => absurd c1 q, fun _ => ⟨fun q => absurd q c2, fun _ => ⟨fun _ => ⟨Or.inl rfl, h3 c1 c2 c3⟩, fun q => absurd q c3⟩⟩⟩⟩
  · exact ⟨5, ⟨fun _ => ⟨Or.inl rfl, h4 c1⟩, fun q => absurd q c1⟩⟩
theorem sg_8_0 {x0 : Int32} {x1 : Int32} {x2 : Int32} {M : px_Mem} {Q : px_Po} (h1 : px_T 0 5 0 [some (.int x0), some (.int x1)] [] M (fun r M1 => px_T 0 8 6 [some (.int x0), some (.int x1), some (.int x2)] (r.toList ++ [.int x2]) M1 Q)) : px_T 0 8 0 [some (.int x0), some (.int x1), some (.int x2)] [] M Q := by
  obtain ⟨n, h⟩ := px_T_cl (k := 8) (pc := 3) (y := 5) (st := [.int x1, .int x0, .int x2]) rfl (h1)
  exact ⟨n + 4, h⟩
theorem sg_8_6 {x0 : Int32} {x1 : Int32} {x2 : Int32} {s0 : Int32} {s1 : Int32} {M : px_Mem} {Q : px_Po} (h1 : (s1 < s0) → Q (some (.int 0)) M) (h2 : (¬ (s1 < s0)) → px_T 0 6 0 [some (.int x0), some (.int x1)] [] M (fun r M1 => px_T 0 8 15 [some (.int x0), some (.int x1), some (.int x2)] (r.toList ++ [.int x2]) M1 Q)) : px_T 0 8 6 [some (.int x0), some (.int x1), some (.int x2)] [.int s0, .int s1] M Q := by
  by_cases c1 : s1 < s0
  · exact ⟨3, ⟨fun _ => ⟨Or.inl rfl, h1 c1⟩, fun q => absurd c1 q⟩⟩
  · obtain ⟨n, h⟩ := px_T_cl (k := 8) (pc := 12) (y := 6) (st := [.int x1, .int x0, .int x2]) rfl (h2 c1)
    exact ⟨n + 5, ⟨fun q => absurd q c1, fun _ => h⟩⟩
theorem sg_8_15 {d0 : Option Value} {d1 : Option Value} {d2 : Option Value} {s0 : Int32} {s1 : Int32} {M : px_Mem} {Q : px_Po} (h1 : (s0 < s1) → Q (some (.int 0)) M) (h2 : (¬ (s0 < s1)) → Q (some (.int 1)) M) : px_T 0 8 15 [d0, d1, d2] [.int s0, .int s1] M Q := by
  by_cases c1 : s0 < s1
  · exact ⟨3, ⟨fun _ => ⟨Or.inl rfl, h1 c1⟩, fun q => absurd c1 q⟩⟩
  · exact ⟨4, ⟨fun q => absurd q c1, fun _ => ⟨Or.inr rfl, h2 c1⟩⟩⟩
theorem sg_9_0 {x0 : Int32} {M : px_Mem} {Q : px_Po} (h1 : px_T 0 9 1 [some (.int x0)] [.int x0] M Q) : px_T 0 9 0 [some (.int x0)] [] M Q := by
  obtain ⟨n, h⟩ := h1
  exact ⟨n + 1, h⟩
theorem sg_9_1 {d0 : Option Value} {s0 : Int32} {M : px_Mem} {Q : px_Po} (h1 : (s0 = 0) → px_T 0 9 56 [d0] [] M Q) (h2 : (s0 = 1) → px_T 0 9 59 [d0] [] M Q) (h3 : (s0 = 2) → px_T 0 9 62 [d0] [] M Q) (h4 : (s0 = 3) → px_T 0 9 65 [d0] [] M Q) (h5 : (s0 = 4) → px_T 0 9 68 [d0] [] M Q) (h6 : (s0 = 5) → px_T 0 9 71 [d0] [] M Q) (h7 : (s0 = 6) → px_T 0 9 74 [d0] [] M Q) (h8 : (s0 = 7) → px_T 0 9 77 [d0] [] M Q) (h9 : (s0 = 8) → px_T 0 9 80 [d0] [] M Q) (h10 : (s0 = 9) → px_T 0 9 83 [d0] [] M Q) (h11 : (¬ s0 = 0) → (¬ s0 = 1) → (¬ s0 = 2) → (¬ s0 = 3) → (¬ s0 = 4) → (¬ s0 = 5) → (¬ s0 = 6) → (¬ s0 = 7) → (¬ s0 = 8) → (¬ s0 = 9) → px_T 0 9 86 [d0] [] M Q) : px_T 0 9 1 [d0] [.int s0] M Q := by
  by_cases c1 : s0 = 0
  · exact px_T_sw rfl (by rw [c1]; rfl) (h1 c1)
  by_cases c2 : s0 = 1
  · exact px_T_sw rfl (by rw [c2]; rfl) (h2 c2)
  by_cases c3 : s0 = 2
  · exact px_T_sw rfl (by rw [c3]; rfl) (h3 c3)
  by_cases c4 : s0 = 3
  · exact px_T_sw rfl (by rw [c4]; rfl) (h4 c4)
  by_cases c5 : s0 = 4
  · exact px_T_sw rfl (by rw [c5]; rfl) (h5 c5)
  by_cases c6 : s0 = 5
  · exact px_T_sw rfl (by rw [c6]; rfl) (h6 c6)
  by_cases c7 : s0 = 6
  · exact px_T_sw rfl (by rw [c7]; rfl) (h7 c7)
  by_cases c8 : s0 = 7
  · exact px_T_sw rfl (by rw [c8]; rfl) (h8 c8)
  by_cases c9 : s0 = 8
  · exact px_T_sw rfl (by rw [c9]; rfl) (h9 c9)
  by_cases c10 : s0 = 9
  · exact px_T_sw rfl (by rw [c10]; rfl) (h10 c10)
  exact px_T_sw rfl (px_sw_o (N := 10) (by decide) (fun v hv => match v, hv with | 0, _ => c1 | 1, _ => c2 | 2, _ => c3 | 3, _ => c4 | 4, _ => c5 | 5, _ => c6 | 6, _ => c7 | 7, _ => c8 | 8, _ => c9 | 9, _ => c10 | n + 10, h => absurd h (by omega))) (h11 c1 c2 c3 c4 c5 c6 c7 c8 c9 c10)
theorem sg_9_56 {d0 : Option Value} {M : px_Mem} {Q : px_Po} (h1 : Q (some (.ref 1100)) M) : px_T 0 9 56 [d0] [] M Q := by
  exact ⟨2, ⟨rfl, ⟨Or.inr rfl, (by decide), h1⟩⟩⟩
theorem sg_9_59 {d0 : Option Value} {M : px_Mem} {Q : px_Po} (h1 : Q (some (.ref 1101)) M) : px_T 0 9 59 [d0] [] M Q := by
  exact ⟨2, ⟨rfl, ⟨Or.inr rfl, (by decide), h1⟩⟩⟩
theorem sg_9_62 {d0 : Option Value} {M : px_Mem} {Q : px_Po} (h1 : Q (some (.ref 1102)) M) : px_T 0 9 62 [d0] [] M Q := by
  exact ⟨2, ⟨rfl, ⟨Or.inr rfl, (by decide), h1⟩⟩⟩
theorem sg_9_65 {d0 : Option Value} {M : px_Mem} {Q : px_Po} (h1 : Q (some (.ref 1103)) M) : px_T 0 9 65 [d0] [] M Q := by
  exact ⟨2, ⟨rfl, ⟨Or.inr rfl, (by decide), h1⟩⟩⟩
theorem sg_9_68 {d0 : Option Value} {M : px_Mem} {Q : px_Po} (h1 : Q (some (.ref 1104)) M) : px_T 0 9 68 [d0] [] M Q := by
  exact ⟨2, ⟨rfl, ⟨Or.inr rfl, (by decide), h1⟩⟩⟩
theorem sg_9_71 {d0 : Option Value} {M : px_Mem} {Q : px_Po} (h1 : Q (some (.ref 1105)) M) : px_T 0 9 71 [d0] [] M Q := by
  exact ⟨2, ⟨rfl, ⟨Or.inr rfl, (by decide), h1⟩⟩⟩
theorem sg_9_74 {d0 : Option Value} {M : px_Mem} {Q : px_Po} (h1 : Q (some (.ref 1106)) M) : px_T 0 9 74 [d0] [] M Q := by
  exact ⟨2, ⟨rfl, ⟨Or.inr rfl, (by decide), h1⟩⟩⟩
theorem sg_9_77 {d0 : Option Value} {M : px_Mem} {Q : px_Po} (h1 : Q (some (.ref 1107)) M) : px_T 0 9 77 [d0] [] M Q := by
  exact ⟨2, ⟨rfl, ⟨Or.inr rfl, (by decide), h1⟩⟩⟩
theorem sg_9_80 {d0 : Option Value} {M : px_Mem} {Q : px_Po} (h1 : Q (some (.ref 1108)) M) : px_T 0 9 80 [d0] [] M Q := by
  exact ⟨2, ⟨rfl, ⟨Or.inr rfl, (by decide), h1⟩⟩⟩
theorem sg_9_83 {d0 : Option Value} {M : px_Mem} {Q : px_Po} (h1 : Q (some (.ref 1109)) M) : px_T 0 9 83 [d0] [] M Q := by
  exact ⟨2, ⟨rfl, ⟨Or.inr rfl, (by decide), h1⟩⟩⟩
theorem sg_9_86 {d0 : Option Value} {M : px_Mem} {Q : px_Po} (h1 : Q (some (.ref 1110)) M) : px_T 0 9 86 [d0] [] M Q := by
  exact ⟨2, ⟨rfl, ⟨Or.inr rfl, (by decide), h1⟩⟩⟩
theorem sg_10_0 {M : px_Mem} {Q : px_Po} (h1 : px_T 0 60 0 [some (.ref 29)] [] M (fun r M1 => px_T 0 10 7 [some (.ref 28)] (r.toList ++ []) M1 Q)) : px_T 0 10 0 [some (.ref 28)] [] M Q := by
  obtain ⟨n, h⟩ := px_T_cl (k := 10) (pc := 4) (y := 60) (st := [.ref 29]) rfl (h1)
  exact ⟨n + 3, ⟨rfl, ⟨rfl, h⟩⟩⟩
theorem sg_10_7 {M : px_Mem} {Q : px_Po} (h1 : Q none (px_wI M 28 3 0)) : px_T 0 10 7 [some (.ref 28)] [] M Q := by
  exact ⟨4, ⟨rfl, ⟨rfl, h1⟩⟩⟩
theorem sg_11_0 {x1 : Int32} {M : px_Mem} {Q : px_Po} (h1 : ((M.1 28 3) ≤ x1) → px_T 0 11 12 [some (.ref 28), some (.int x1)] [] M Q) (h2 : (¬ ((M.1 28 3) ≤ x1)) → px_T 0 10 0 [some (.ref 28)] [] M (fun r M1 => px_T 0 11 12 [some (.ref 28), some (.int x1)] (r.toList ++ []) M1 Q)) : px_T 0 11 0 [some (.ref 28), some (.int x1)] [] M Q := by
  by_cases c1 : (M.1 28 3) ≤ x1
  · obtain ⟨n, h⟩ := h1 c1
    exact ⟨n + 4, ⟨rfl, ⟨fun _ => h, fun q => absurd c1 q⟩⟩⟩
  · obtain ⟨n, h⟩ := px_T_cl (k := 11) (pc := 9) (y := 10) (st := [.ref 28]) rfl (h2 c1)
    exact ⟨n + 6, ⟨rfl, ⟨fun q => absurd q c1, fun _ => ⟨rfl, h⟩⟩⟩⟩
theorem sg_11_12 {x1 : Int32} {M : px_Mem} {Q : px_Po} (h1 : (x1 ≤ (M.1 28 3)) → Q (some (.ref 29)) M) (h2 : (¬ (x1 ≤ (M.1 28 3))) → ((70 : Int32) ≤ (M.1 28 3)) → Q (some (.ref 29)) M) (h3 : (¬ (x1 ≤ (M.1 28 3))) → (¬ ((70 : Int32) ≤ (M.1 28 3))) → px_T 0 54 0 [some (.ref 4), some (.int (M.1 28 3))] [] M (fun r M1 => px_T 0 11 52 [some (.ref 28), some (.int x1)] (r.toList ++ [.ref 29, .int (M.1 28 3), .ref 37]) M1 Q)) : px_T 0 11 12 [some (.ref 28), some (.int x1)] [] M Q := by
  by_cases c1 : x1 ≤ (M.1 28 3)
  · exact ⟨7, ⟨rfl, ⟨fun _ => ⟨rfl, ⟨Or.inl rfl, (by decide), h1 c1⟩⟩, fun q => absurd c1 q⟩⟩⟩
  · by_cases c2 : (70 : Int32) ≤ (M.1 28 3)
    · exact ⟨11, ⟨rfl, ⟨fun q => absurd q c1, fun _ => ⟨rfl, ⟨fun _ => ⟨rfl, ⟨Or.inl rfl, (by decide), h2 c1 c2⟩⟩, fun q => absurd c2 q⟩⟩⟩⟩⟩
    · obtain ⟨n, h⟩ := px_T_cl (k := 11) (pc := 49) (y := 54) (st := [.int (M.1 28 3), .ref 4, .ref 29, .int (M.1 28 3), .ref 37]) rfl (h3 c1 c2)
      exact ⟨n + 19, ⟨rfl, ⟨fun q => absurd q c1, fun _ => ⟨rfl, ⟨fun q => absurd q c2, fun _ => ⟨rfl, ⟨rfl, ⟨rfl, ⟨rfl, ⟨rfl, ⟨rfl, h⟩⟩⟩⟩⟩⟩⟩⟩⟩⟩⟩
theorem sg_11_52 {x1 : Int32} {s0 : Int32} {s2 : Int32} {M : px_Mem} {Q : px_Po} (h1 : px_T 0 73 0 [some (.ref 29), some (.int s0), some (.int (M.1 4 2)), none, none, none, none] [] M (fun r M1 => px_T 0 11 62 [some (.ref 28), some (.int x1)] (r.toList ++ [.int s2, .ref 37]) M1 Q)) : px_T 0 11 52 [some (.ref 28), some (.int x1)] [.int s0, .ref 29, .int s2, .ref 37] M Q := by
  obtain ⟨n, h⟩ := px_T_cl (k := 11) (pc := 59) (y := 73) (st := [.int (M.1 4 2), .int s0, .ref 29, .int s2, .ref 37]) rfl (h1)
  exact ⟨n + 4, ⟨rfl, ⟨rfl, ⟨rfl, h⟩⟩⟩⟩
theorem sg_11_62 {x1 : Int32} {s0 : Int32} {s1 : Int32} {M : px_Mem} {Q : px_Po} (h1 : vp_in s1 70) (h2 : px_T 0 11 12 [some (.ref 28), some (.int x1)] [] (px_wI (px_wI M 37 s1.toNatClampNeg s0) 28 3 ((M.1 28 3) + 1)) Q) : px_T 0 11 62 [some (.ref 28), some (.int x1)] [.int s0, .int s1, .ref 37] M Q := by
  obtain ⟨n, h⟩ := h2
  exact ⟨n + 8, ⟨⟨70, rfl, h1⟩, ⟨rfl, ⟨rfl, h⟩⟩⟩⟩
theorem sg_12_0 {x1 : Int32} {M : px_Mem} {Q : px_Po} (h1 : (x1 < 0) → Q (some (.int 0)) M) (h2 : (¬ (x1 < 0)) → (x1 < 70) → px_T 0 11 0 [some (.ref 28), some (.int (if (M.1 28 3) < (x1 + 1) then x1 + 1 else M.1 28 3))] [] M (fun r M1 => px_T 0 12 26 [some (.ref 28), some (.int x1)] (r.toList ++ []) M1 Q)) (h3 : (¬ (x1 < 0)) → (¬ (x1 < 70)) → Q (some (.int 0)) M) : px_T 0 12 0 [some (.ref 28), some (.int x1)] [] M Q := by
  by_cases c1 : x1 < 0
  · exact ⟨4, ⟨fun _ => ⟨trivial, h1 c1⟩, fun q => absurd c1 q⟩⟩
  · by_cases c2 : x1 < 70
    · obtain ⟨n, h⟩ := px_T_cl (k := 12) (pc := 23) (y := 11) (st := [.int (if (M.1 28 3) < (x1 + 1) then x1 + 1 else M.1 28 3), .ref 28]) rfl (h2 c1 c2)
      exact ⟨n + 13, ⟨fun q => absurd q c1, fun _ => ⟨fun _ => ⟨rfl, ⟨(by decide), (by decide), (by decide), ⟨rfl, h⟩⟩⟩, fun q => absurd c2 q⟩⟩⟩
    · exact ⟨7, ⟨fun q => absurd q c1, fun _ => ⟨fun q => absurd q c2, fun _ => ⟨trivial, h3 c1 c2⟩⟩⟩⟩
theorem sg_12_26 {x1 : Int32} {s0 : Nat} {M : px_Mem} {Q : px_Po} (h_s0 : px_isW s0) (h1 : vp_in x1 70) (h2 : Q (some (.int (M.1 37 x1.toNatClampNeg))) M) : px_T 0 12 26 [some (.ref 28), some (.int x1)] [.ref s0] M Q := by
  rcases h_s0 with rfl | rfl
  all_goals
    exact ⟨6, ⟨rfl, ⟨Or.inl ⟨0, 70, Or.inl rfl, rfl, h1⟩, ⟨trivial, h2⟩⟩⟩⟩
theorem sg_13_0 {x1 : Int32} {M : px_Mem} {Q : px_Po} (h1 : px_T 0 11 0 [some (.ref 28), some (.int (if (M.1 28 3) < x1 then x1 else M.1 28 3))] [] M (fun r M1 => px_T 0 13 12 [some (.ref 28), some (.int x1), none, none] (r.toList ++ []) M1 Q)) : px_T 0 13 0 [some (.ref 28), some (.int x1), none, none] [] M Q := by
  obtain ⟨n, h⟩ := px_T_cl (k := 13) (pc := 9) (y := 11) (st := [.int (if (M.1 28 3) < x1 then x1 else M.1 28 3), .ref 28]) rfl (h1)
  exact ⟨n + 6, ⟨rfl, ⟨(by decide), (by decide), (by decide), ⟨rfl, h⟩⟩⟩⟩
theorem sg_13_12 {x1 : Int32} {d2 : Option Value} {d3 : Option Value} {s0 : Nat} {M : px_Mem} {Q : px_Po} (h_s0 : px_isW s0) (h1 : px_T 0 13 17 [some (.ref 28), some (.int x1), some (.int 0), some (.int 0)] [] M Q) : px_T 0 13 12 [some (.ref 28), some (.int x1), d2, d3] [.ref s0] M Q := by
  rcases h_s0 with rfl | rfl
  all_goals
    obtain ⟨n, h⟩ := h1
    exact ⟨n + 5, h⟩
theorem sg_13_17 {x1 : Int32} {x2 : Int32} {x3 : Int32} {M : px_Mem} {Q : px_Po} (h1 : (x1 ≤ x3) → Q (some (.int x2)) M) (h2 : (¬ (x1 ≤ x3)) → ((70 : Int32) ≤ x3) → Q (some (.int x2)) M) (h3 : (¬ (x1 ≤ x3)) → (¬ ((70 : Int32) ≤ x3)) → vp_in x3 70) (h4 : (¬ (x1 ≤ x3)) → (¬ ((70 : Int32) ≤ x3)) → ((M.1 37 x3.toNatClampNeg) = 0) → px_T 0 13 17 [some (.ref 28), some (.int x1), some (.int x2), some (.int (x3 + 1))] [] M Q) (h5 : (¬ (x1 ≤ x3)) → (¬ ((70 : Int32) ≤ x3)) → (¬ ((M.1 37 x3.toNatClampNeg) = 0)) → px_T 0 13 17 [some (.ref 28), some (.int x1), some (.int (x2 + 1)), some (.int (x3 + 1))] [] M Q) : px_T 0 13 17 [some (.ref 28), some (.int x1), some (.int x2), some (.int x3)] [] M Q := by
  by_cases c1 : x1 ≤ x3
  · exact ⟨5, ⟨fun _ => ⟨trivial, h1 c1⟩, fun q => absurd c1 q⟩⟩
  · by_cases c2 : (70 : Int32) ≤ x3
    · exact ⟨8, ⟨fun q => absurd q c1, fun _ => ⟨fun _ => ⟨trivial, h2 c1 c2⟩, fun q => absurd c2 q⟩⟩⟩
    · by_cases c3 : (M.1 37 x3.toNatClampNeg) = 0
      · obtain ⟨n, h⟩ := h4 c1 c2 c3
        exact ⟨n + 13, ⟨fun q => absurd q c1, fun _ => ⟨fun q => absurd q c2, fun _ => ⟨rfl, ⟨Or.inl ⟨0, 70, Or.inl rfl, rfl, (h3 c1 c2)⟩, ⟨fun _ => h, fun q => absurd c3 q⟩⟩⟩⟩⟩⟩
      · obtain ⟨n, h⟩ := h5 c1 c2 c3
        exact ⟨n + 14, ⟨fun q => absurd q c1, fun _ => ⟨fun q => absurd q c2, fun _ => ⟨rfl, ⟨Or.inl ⟨0, 70, Or.inl rfl, rfl, (h3 c1 c2)⟩, ⟨fun q => absurd q c3, fun _ => h⟩⟩⟩⟩⟩⟩
theorem sg_14_0 {x1 : Int32} {x2 : Int32} {x3 : Int32} {x4 : Int32} {M : px_Mem} {Q : px_Po} (h1 : px_T 0 11 0 [some (.ref 28), some (.int x1)] [] M (fun r M1 => px_T 0 14 5 [some (.ref 28), some (.int x1), some (.int x2), some (.int x3), some (.int x4), none, none] (r.toList ++ []) M1 Q)) : px_T 0 14 0 [some (.ref 28), some (.int x1), some (.int x2), some (.int x3), some (.int x4), none, none] [] M Q := by
  obtain ⟨n, h⟩ := px_T_cl (k := 14) (pc := 2) (y := 11) (st := [.int x1, .ref 28]) rfl (h1)
  exact ⟨n + 3, ⟨rfl, h⟩⟩
theorem sg_14_5 {x1 : Int32} {x2 : Int32} {x3 : Int32} {x4 : Int32} {d5 : Option Value} {d6 : Option Value} {s0 : Nat} {M : px_Mem} {Q : px_Po} (h_s0 : px_isW s0) (h1 : px_T 0 62 0 [some (.ref s0)] [] M (fun r M1 => px_T 0 14 8 [some (.ref 28), some (.int x1), some (.int x2), some (.int x3), some (.int x4), d5, d6] (r.toList ++ []) M1 Q)) : px_T 0 14 5 [some (.ref 28), some (.int x1), some (.int x2), some (.int x3), some (.int x4), d5, d6] [.ref s0] M Q := by
  rcases h_s0 with rfl | rfl
  all_goals
    obtain ⟨n, h⟩ := px_T_cl (k := 14) (pc := 5) (y := 62) (st := [.ref s0]) rfl (h1)
    exact ⟨n + 1, ⟨rfl, h⟩⟩
theorem sg_14_8 {x1 : Int32} {x2 : Int32} {x3 : Int32} {x4 : Int32} {d5 : Option Value} {d6 : Option Value} {M : px_Mem} {Q : px_Po} (h1 : px_T 0 332 0 [some (.int (M.1 29 0))] [] M (fun r M1 => px_T 0 14 24 [some (.ref 28), some (.int x1), some (.int x2), some (.int x3), some (.int x4), some (.int x1), d6] (r.toList ++ [.int 8, .ref 28]) M1 Q)) : px_T 0 14 8 [some (.ref 28), some (.int x1), some (.int x2), some (.int x3), some (.int x4), d5, d6] [] M Q := by
  obtain ⟨n, h⟩ := px_T_cl (k := 14) (pc := 21) (y := 332) (st := [.int (M.1 29 0), .int 8, .ref 28]) rfl (h1)
  exact ⟨n + 8, ⟨rfl, ⟨rfl, h⟩⟩⟩
theorem sg_14_24 {d1 : Option Value} {x2 : Int32} {x3 : Int32} {x4 : Int32} {x5 : Int32} {d6 : Option Value} {s0 : Int32} {s1 : Int32} {M : px_Mem} {Q : px_Po} (h1 : (x4 = 0) → px_T 0 14 56 [some (.ref 28), d1, some (.int x2), some (.int x3), some (.int x4), some (.int x5), some (.int 1)] [] (px_wI (px_wI (px_wI M 28 6 (s1 * s0)) 28 5 (s1 * s0)) 28 4 (s1 * s0)) Q) (h2 : (¬ (x4 = 0)) → px_T 0 14 56 [some (.ref 28), d1, some (.int x2), some (.int x3), some (.int x4), some (.int x5), some (.int 1)] [] (px_wI (px_wI (px_wI M 28 6 (s1 * s0)) 28 5 (s1 * s0)) 28 4 (-1)) Q) : px_T 0 14 24 [some (.ref 28), d1, some (.int x2), some (.int x3), some (.int x4), some (.int x5), d6] [.int s0, .int s1, .ref 28] M Q := by
  by_cases c1 : x4 = 0
  · obtain ⟨n, h⟩ := h1 c1
    exact ⟨n + 15, ⟨rfl, ⟨rfl, ⟨rfl, ⟨fun q => absurd c1 q, fun _ => ⟨rfl, ⟨rfl, h⟩⟩⟩⟩⟩⟩⟩
  · obtain ⟨n, h⟩ := h2 c1
    exact ⟨n + 13, ⟨rfl, ⟨rfl, ⟨rfl, ⟨fun _ => ⟨rfl, h⟩, fun q => absurd q c1⟩⟩⟩⟩⟩
theorem sg_14_56 {d1 : Option Value} {x2 : Int32} {x3 : Int32} {x4 : Int32} {x5 : Int32} {x6 : Int32} {M : px_Mem} {Q : px_Po} (h1 : ((70 : Int32) < x6) → Q none M) (h2 : (¬ ((70 : Int32) < x6)) → (x3 ≤ x5) → Q none M) (h3 : (¬ ((70 : Int32) < x6)) → (¬ (x3 ≤ x5)) → px_T 0 11 0 [some (.ref 28), some (.int (if x3 < (x5 + x2) then x3 else x5 + x2))] [] M (fun r M1 => px_T 0 14 85 [some (.ref 28), d1, some (.int x2), some (.int x3), some (.int x4), some (.int (if x3 < (x5 + x2) then x3 else x5 + x2)), some (.int x6)] (r.toList ++ []) M1 Q)) : px_T 0 14 56 [some (.ref 28), d1, some (.int x2), some (.int x3), some (.int x4), some (.int x5), some (.int x6)] [] M Q := by
  by_cases c1 : (70 : Int32) < x6
  · exact ⟨4, ⟨fun _ => ⟨rfl, h1 c1⟩, fun q => absurd c1 q⟩⟩
  · by_cases c2 : x3 ≤ x5
    · exact ⟨7, ⟨fun q => absurd q c1, fun _ => ⟨fun _ => ⟨rfl, h2 c1 c2⟩, fun q => absurd c2 q⟩⟩⟩
    · obtain ⟨n, h⟩ := px_T_cl (k := 14) (pc := 82) (y := 11) (st := [.int (if x3 < (x5 + x2) then x3 else x5 + x2), .ref 28]) rfl (h3 c1 c2)
      exact ⟨n + 15, ⟨fun q => absurd q c1, fun _ => ⟨fun q => absurd q c2, fun _ => ⟨(by decide), (by decide), (by decide), ⟨rfl, h⟩⟩⟩⟩⟩
theorem sg_14_85 {d1 : Option Value} {x2 : Int32} {x3 : Int32} {x4 : Int32} {x5 : Int32} {x6 : Int32} {s0 : Nat} {M : px_Mem} {Q : px_Po} (h_s0 : px_isW s0) (h1 : px_T 0 15 0 [some (.ref 28), none, none] [] M (fun r M1 => px_T 0 14 91 [some (.ref 28), d1, some (.int x2), some (.int x3), some (.int x4), some (.int x5), some (.int x6)] (r.toList ++ [.ref 28]) M1 Q)) : px_T 0 14 85 [some (.ref 28), d1, some (.int x2), some (.int x3), some (.int x4), some (.int x5), some (.int x6)] [.ref s0] M Q := by
  rcases h_s0 with rfl | rfl
  all_goals
    obtain ⟨n, h⟩ := px_T_cl (k := 14) (pc := 88) (y := 15) (st := [.ref 28, .ref 28]) rfl (h1)
    exact ⟨n + 4, ⟨rfl, h⟩⟩
theorem sg_14_91 {d1 : Option Value} {x2 : Int32} {x3 : Int32} {x4 : Int32} {x5 : Int32} {x6 : Int32} {s0 : Int32} {M : px_Mem} {Q : px_Po} (h1 : px_T 0 62 0 [some (.ref 29)] [] (px_wI M 28 6 s0) (fun r M1 => px_T 0 14 101 [some (.ref 28), d1, some (.int x2), some (.int x3), some (.int x4), some (.int x5), some (.int x6)] (r.toList ++ []) M1 Q)) : px_T 0 14 91 [some (.ref 28), d1, some (.int x2), some (.int x3), some (.int x4), some (.int x5), some (.int x6)] [.int s0, .ref 28] M Q := by
  obtain ⟨n, h⟩ := px_T_cl (k := 14) (pc := 98) (y := 62) (st := [.ref 29]) rfl (h1)
  exact ⟨n + 4, ⟨rfl, ⟨rfl, ⟨rfl, h⟩⟩⟩⟩
theorem sg_14_101 {d1 : Option Value} {x2 : Int32} {x3 : Int32} {x4 : Int32} {x5 : Int32} {x6 : Int32} {M : px_Mem} {Q : px_Po} (h1 : (x6 = x4) → px_T 0 14 56 [some (.ref 28), d1, some (.int x2), some (.int x3), some (.int x4), some (.int x5), some (.int (x6 + 1))] [] (px_wI (px_wI M 28 5 ((M.1 28 5) + (M.1 28 6))) 28 4 (M.1 28 6)) Q) (h2 : (¬ (x6 = x4)) → px_T 0 14 56 [some (.ref 28), d1, some (.int x2), some (.int x3), some (.int x4), some (.int x5), some (.int (x6 + 1))] [] (px_wI M 28 5 ((M.1 28 5) + (M.1 28 6))) Q) : px_T 0 14 101 [some (.ref 28), d1, some (.int x2), some (.int x3), some (.int x4), some (.int x5), some (.int x6)] [] M Q := by
  by_cases c1 : x6 = x4
  · obtain ⟨n, h⟩ := h1 c1
    exact ⟨n + 16, ⟨rfl, ⟨rfl, ⟨rfl, ⟨fun q => absurd c1 q, fun _ => ⟨rfl, ⟨rfl, h⟩⟩⟩⟩⟩⟩⟩
  · obtain ⟨n, h⟩ := h2 c1
    exact ⟨n + 12, ⟨rfl, ⟨rfl, ⟨rfl, ⟨fun _ => h, fun q => absurd q c1⟩⟩⟩⟩⟩
theorem sg_15_0 {M : px_Mem} {Q : px_Po} (h1 : px_T 0 15 4 [some (.ref 28), some (.int 0), some (.int 1)] [] M Q) : px_T 0 15 0 [some (.ref 28), none, none] [] M Q := by
  obtain ⟨n, h⟩ := h1
  exact ⟨n + 4, h⟩
theorem sg_15_4 {x1 : Int32} {x2 : Int32} {M : px_Mem} {Q : px_Po} (h1 : ((15 : Int32) < x2) → Q (some (.int x1)) M) (h2 : (¬ ((15 : Int32) < x2)) → px_T 0 63 0 [some (.ref 29), some (.int x2)] [] M (fun r M1 => px_T 0 15 18 [some (.ref 28), some (.int x1), some (.int x2)] (r.toList ++ []) M1 Q)) : px_T 0 15 4 [some (.ref 28), some (.int x1), some (.int x2)] [] M Q := by
  by_cases c1 : (15 : Int32) < x2
  · exact ⟨5, ⟨fun _ => ⟨trivial, h1 c1⟩, fun q => absurd c1 q⟩⟩
  · obtain ⟨n, h⟩ := px_T_cl (k := 15) (pc := 15) (y := 63) (st := [.int x2, .ref 29]) rfl (h2 c1)
    exact ⟨n + 7, ⟨fun q => absurd q c1, fun _ => ⟨rfl, ⟨rfl, h⟩⟩⟩⟩
theorem sg_15_18 {x1 : Int32} {x2 : Int32} {s0 : Int32} {M : px_Mem} {Q : px_Po} (h1 : (s0 = 0) → px_T 0 15 4 [some (.ref 28), some (.int x1), some (.int (x2 + 1))] [] M Q) (h2 : (¬ (s0 = 0)) → vp_in x2 16) (h3 : (¬ (s0 = 0)) → px_T 0 332 0 [some (.int (M.1 32 x2.toNatClampNeg))] [] M (fun r M1 => px_T 0 15 34 [some (.ref 28), some (.int x1), some (.int x2)] (r.toList ++ [.int x1]) M1 Q)) : px_T 0 15 18 [some (.ref 28), some (.int x1), some (.int x2)] [.int s0] M Q := by
  by_cases c1 : s0 = 0
  · obtain ⟨n, h⟩ := h1 c1
    exact ⟨n + 3, ⟨fun _ => h, fun q => absurd c1 q⟩⟩
  · obtain ⟨n, h⟩ := px_T_cl (k := 15) (pc := 31) (y := 332) (st := [.int (M.1 32 x2.toNatClampNeg), .int x1]) rfl (h3 c1)
    exact ⟨n + 8, ⟨fun q => absurd q c1, fun _ => ⟨rfl, ⟨rfl, ⟨Or.inl ⟨0, 16, Or.inl rfl, rfl, (h2 c1)⟩, h⟩⟩⟩⟩⟩
theorem sg_15_34 {d1 : Option Value} {x2 : Int32} {s0 : Int32} {s1 : Int32} {M : px_Mem} {Q : px_Po} (h1 : px_T 0 15 4 [some (.ref 28), some (.int (s1 + s0)), some (.int (x2 + 1))] [] M Q) : px_T 0 15 34 [some (.ref 28), d1, some (.int x2)] [.int s0, .int s1] M Q := by
  obtain ⟨n, h⟩ := h1
  exact ⟨n + 4, h⟩
theorem sg_16_0 {x1 : Nat} {M : px_Mem} {Q : px_Po} (h_x1 : px_isW x1) (h1 : px_T 0 340 0 [some (.ref 45), some (.int 0), none, none] [] M (fun r M1 => px_T 0 16 8 [some (.ref 44), some (.ref x1), none] (r.toList ++ []) M1 Q)) : px_T 0 16 0 [some (.ref 44), some (.ref x1), none] [] M Q := by
  rcases h_x1 with rfl | rfl
  all_goals
    obtain ⟨n, h⟩ := px_T_cl (k := 16) (pc := 5) (y := 340) (st := [.int 0, .ref 45]) rfl (h1)
    exact ⟨n + 4, ⟨rfl, h⟩⟩
theorem sg_16_8 {x1 : Nat} {d2 : Option Value} {M : px_Mem} {Q : px_Po} (h_x1 : px_isW x1) (h1 : px_T 0 18 0 [some (.ref 44), some (.int 1), some (.int 1)] [] (px_wI (px_wI M 44 2 0) 44 3 (M.1 x1 0)) (fun r M1 => px_T 0 16 27 [some (.ref 44), some (.ref x1), d2] (r.toList ++ []) M1 Q)) : px_T 0 16 8 [some (.ref 44), some (.ref x1), d2] [] M Q := by
  rcases h_x1 with rfl | rfl
  all_goals
    obtain ⟨n, h⟩ := px_T_cl (k := 16) (pc := 24) (y := 18) (st := [.int 1, .int 1, .ref 44]) rfl (h1)
    exact ⟨n + 11, ⟨rfl, ⟨rfl, ⟨rfl, ⟨rfl, h⟩⟩⟩⟩⟩
theorem sg_16_27 {x1 : Nat} {d2 : Option Value} {M : px_Mem} {Q : px_Po} (h_x1 : px_isW x1) (h1 : px_T 0 16 29 [some (.ref 44), some (.ref x1), some (.int 1)] [] M Q) : px_T 0 16 27 [some (.ref 44), some (.ref x1), d2] [] M Q := by
  rcases h_x1 with rfl | rfl
  all_goals
    obtain ⟨n, h⟩ := h1
    exact ⟨n + 2, h⟩
theorem sg_16_29 {x1 : Nat} {x2 : Int32} {M : px_Mem} {Q : px_Po} (h_x1 : px_isW x1) (h1 : ((15 : Int32) ≤ x2) → Q none M) (h2 : (¬ ((15 : Int32) ≤ x2)) → px_T 0 19 0 [some (.ref 44), some (.ref x1), none, none] [] M (fun r M1 => px_T 0 16 40 [some (.ref 44), some (.ref x1), some (.int x2)] (r.toList ++ []) M1 Q)) : px_T 0 16 29 [some (.ref 44), some (.ref x1), some (.int x2)] [] M Q := by
  rcases h_x1 with rfl | rfl
  all_goals
    by_cases c1 : (15 : Int32) ≤ x2
    · exact ⟨4, ⟨fun _ => ⟨rfl, h1 c1⟩, fun q => absurd c1 q⟩⟩
    · obtain ⟨n, h⟩ := px_T_cl (k := 16) (pc := 37) (y := 19) (st := [.ref x1, .ref 44]) rfl (h2 c1)
      exact ⟨n + 6, ⟨fun q => absurd q c1, fun _ => ⟨rfl, h⟩⟩⟩
theorem sg_16_40 {x1 : Nat} {x2 : Int32} {M : px_Mem} {Q : px_Po} (h_x1 : px_isW x1) (h1 : px_T 0 16 29 [some (.ref 44), some (.ref x1), some (.int (x2 + 1))] [] M Q) : px_T 0 16 40 [some (.ref 44), some (.ref x1), some (.int x2)] [] M Q := by
  rcases h_x1 with rfl | rfl
  all_goals
    obtain ⟨n, h⟩ := h1
    exact ⟨n + 2, h⟩
theorem sg_17_0 {x1 : Int32} {M : px_Mem} {Q : px_Po} (h1 : px_T 0 17 4 [some (.ref 44), some (.int x1), some (.int 0), some (.int 1)] [] M Q) : px_T 0 17 0 [some (.ref 44), some (.int x1), none, none] [] M Q := by
  obtain ⟨n, h⟩ := h1
  exact ⟨n + 4, h⟩
theorem sg_17_4 {x1 : Int32} {x2 : Int32} {x3 : Int32} {M : px_Mem} {Q : px_Po} (h1 : ((15 : Int32) < x3) → Q (some (.int x2)) M) (h2 : (¬ ((15 : Int32) < x3)) → vp_in x3 16) (h3 : (¬ ((15 : Int32) < x3)) → ((M.1 45 x3.toNatClampNeg) = x1) → px_T 0 17 4 [some (.ref 44), some (.int x1), some (.int (x2 + 1)), some (.int (x3 + 1))] [] M Q) (h4 : (¬ ((15 : Int32) < x3)) → (¬ ((M.1 45 x3.toNatClampNeg) = x1)) → px_T 0 17 4 [some (.ref 44), some (.int x1), some (.int x2), some (.int (x3 + 1))] [] M Q) : px_T 0 17 4 [some (.ref 44), some (.int x1), some (.int x2), some (.int x3)] [] M Q := by
  by_cases c1 : (15 : Int32) < x3
  · exact ⟨5, ⟨fun _ => ⟨trivial, h1 c1⟩, fun q => absurd c1 q⟩⟩
  · by_cases c2 : (M.1 45 x3.toNatClampNeg) = x1
    · obtain ⟨n, h⟩ := h3 c1 c2
      exact ⟨n + 12, ⟨fun q => absurd q c1, fun _ => ⟨rfl, ⟨Or.inl ⟨0, 16, Or.inl rfl, rfl, (h2 c1)⟩, ⟨fun q => absurd c2 q, fun _ => h⟩⟩⟩⟩⟩
    · obtain ⟨n, h⟩ := h4 c1 c2
      exact ⟨n + 11, ⟨fun q => absurd q c1, fun _ => ⟨rfl, ⟨Or.inl ⟨0, 16, Or.inl rfl, rfl, (h2 c1)⟩, ⟨fun _ => h, fun q => absurd q c2⟩⟩⟩⟩⟩
theorem sg_18_0 {x1 : Int32} {x2 : Int32} {M : px_Mem} {Q : px_Po} (h1 : ((15 : Int32) ≤ (M.1 44 2)) → Q none M) (h2 : (¬ ((15 : Int32) ≤ (M.1 44 2))) → vp_in x1 16) (h3 : (¬ ((15 : Int32) ≤ (M.1 44 2))) → vp_in (M.1 44 2) 15) (h4 : (¬ ((15 : Int32) ≤ (M.1 44 2))) → px_T 0 161 0 [some (.int x1)] [] (px_wI (px_wI (px_wI M 45 x1.toNatClampNeg x2) 46 ((M.1 44 2).toNatClampNeg) x1) 44 2 ((M.1 44 2) + 1)) (fun r M1 => px_T 0 18 48 [some (.ref 44), some (.int x1), some (.int x2)] (r.toList ++ [.int (M.1 44 3), .ref 44]) M1 Q)) : px_T 0 18 0 [some (.ref 44), some (.int x1), some (.int x2)] [] M Q := by
  by_cases c1 : (15 : Int32) ≤ (M.1 44 2)
  · exact ⟨7, ⟨rfl, ⟨rfl, (Or.inl ⟨0, 15, rfl, (by decide), ⟨fun _ => ⟨rfl, h1 c1⟩, fun q => absurd c1 q⟩⟩)⟩⟩⟩
  · obtain ⟨n, h⟩ := px_T_cl (k := 18) (pc := 45) (y := 161) (st := [.int x1, .int (M.1 44 3), .ref 44]) rfl (h4 c1)
    exact ⟨n + 28, ⟨rfl, ⟨rfl, (Or.inl ⟨0, 15, rfl, (by decide), ⟨fun q => absurd q c1, fun _ => ⟨rfl, ⟨⟨16, rfl, (h2 c1)⟩, ⟨rfl, ⟨rfl, ⟨⟨15, rfl, (h3 c1)⟩, ⟨rfl, ⟨rfl, ⟨rfl, ⟨rfl, h⟩⟩⟩⟩⟩⟩⟩⟩⟩⟩⟩)⟩⟩⟩
theorem sg_18_48 {d0 : Option Value} {d1 : Option Value} {d2 : Option Value} {s0 : Int32} {s1 : Int32} {M : px_Mem} {Q : px_Po} (h1 : Q none (px_wI M 44 3 (s1 &&& (s0 ^^^ (-1))))) : px_T 0 18 48 [d0, d1, d2] [.int s0, .int s1, .ref 44] M Q := by
  exact ⟨5, ⟨rfl, ⟨rfl, h1⟩⟩⟩
theorem sg_19_0 {x1 : Nat} {M : px_Mem} {Q : px_Po} (h_x1 : px_isW x1) (h1 : px_T 0 19 2 [some (.ref 44), some (.ref x1), some (.int 2), none] [] M Q) : px_T 0 19 0 [some (.ref 44), some (.ref x1), none, none] [] M Q := by
  rcases h_x1 with rfl | rfl
  all_goals
    obtain ⟨n, h⟩ := h1
    exact ⟨n + 2, h⟩
theorem sg_19_2 {x1 : Nat} {x2 : Int32} {d3 : Option Value} {M : px_Mem} {Q : px_Po} (h_x1 : px_isW x1) (h1 : ((15 : Int32) < x2) → Q none M) (h2 : (¬ ((15 : Int32) < x2)) → px_T 0 161 0 [some (.int x2)] [] M (fun r M1 => px_T 0 19 16 [some (.ref 44), some (.ref x1), some (.int x2), d3] (r.toList ++ [.int (M.1 44 3)]) M1 Q)) : px_T 0 19 2 [some (.ref 44), some (.ref x1), some (.int x2), d3] [] M Q := by
  rcases h_x1 with rfl | rfl
  all_goals
    by_cases c1 : (15 : Int32) < x2
    · exact ⟨4, ⟨fun _ => ⟨rfl, h1 c1⟩, fun q => absurd c1 q⟩⟩
    · obtain ⟨n, h⟩ := px_T_cl (k := 19) (pc := 13) (y := 161) (st := [.int x2, .int (M.1 44 3)]) rfl (h2 c1)
      exact ⟨n + 7, ⟨fun q => absurd q c1, fun _ => ⟨rfl, ⟨rfl, h⟩⟩⟩⟩
theorem sg_19_16 {x1 : Nat} {x2 : Int32} {d3 : Option Value} {s0 : Int32} {s1 : Int32} {M : px_Mem} {Q : px_Po} (h_x1 : px_isW x1) (h1 : ((s1 &&& s0) = 0) → px_T 0 19 2 [some (.ref 44), some (.ref x1), some (.int (x2 + 1)), some (.int 0)] [] M Q) (h2 : (¬ ((s1 &&& s0) = 0)) → px_T 0 20 0 [some (.ref 44), some (.ref x1), some (.int x2), none, none] [] M (fun r M1 => px_T 0 19 26 [some (.ref 44), some (.ref x1), some (.int x2), d3] (r.toList ++ []) M1 Q)) : px_T 0 19 16 [some (.ref 44), some (.ref x1), some (.int x2), d3] [.int s0, .int s1] M Q := by
  rcases h_x1 with rfl | rfl
  all_goals
    by_cases c1 : (s1 &&& s0) = 0
    · obtain ⟨n, h⟩ := h1 c1
      exact ⟨n + 8, ⟨fun _ => ⟨fun _ => h, fun q => absurd (by decide) q⟩, fun q => absurd c1 q⟩⟩
    · obtain ⟨n, h⟩ := px_T_cl (k := 19) (pc := 23) (y := 20) (st := [.int x2, .ref x1, .ref 44]) rfl (h2 c1)
      exact ⟨n + 6, ⟨fun q => absurd q c1, fun _ => ⟨rfl, h⟩⟩⟩
theorem sg_19_26 {x1 : Nat} {x2 : Int32} {d3 : Option Value} {s0 : Int32} {M : px_Mem} {Q : px_Po} (h_x1 : px_isW x1) (h1 : (s0 = 0) → px_T 0 19 2 [some (.ref 44), some (.ref x1), some (.int (x2 + 1)), some (.int s0)] [] M Q) (h2 : (¬ (s0 = 0)) → px_T 0 18 0 [some (.ref 44), some (.int x2), some (.int s0)] [] M (fun r M1 => px_T 0 19 41 [some (.ref 44), some (.ref x1), some (.int x2), some (.int s0)] (r.toList ++ []) M1 Q)) : px_T 0 19 26 [some (.ref 44), some (.ref x1), some (.int x2), d3] [.int s0] M Q := by
  rcases h_x1 with rfl | rfl
  all_goals
    by_cases c1 : s0 = 0
    · obtain ⟨n, h⟩ := h1 c1
      exact ⟨n + 6, ⟨fun _ => h, fun q => absurd c1 q⟩⟩
    · obtain ⟨n, h⟩ := px_T_cl (k := 19) (pc := 38) (y := 18) (st := [.int s0, .int x2, .ref 44]) rfl (h2 c1)
      exact ⟨n + 8, ⟨fun q => absurd q c1, fun _ => ⟨rfl, h⟩⟩⟩
theorem sg_19_41 {d0 : Option Value} {d1 : Option Value} {d2 : Option Value} {d3 : Option Value} {M : px_Mem} {Q : px_Po} (h1 : Q none M) : px_T 0 19 41 [d0, d1, d2, d3] [] M Q := by
  exact ⟨1, ⟨rfl, h1⟩⟩
theorem sg_20_0 {x1 : Nat} {x2 : Int32} {M : px_Mem} {Q : px_Po} (h_x1 : px_isW x1) (h1 : vp_in x2 16) (h2 : vp_in x2 16) (h3 : vp_in (M.1 (x1 + 1) x2.toNatClampNeg) 16) (h4 : ((M.1 45 ((M.1 (x1 + 1) x2.toNatClampNeg).toNatClampNeg)) = 0) → Q (some (.int 0)) M) (h5 : (¬ ((M.1 45 ((M.1 (x1 + 1) x2.toNatClampNeg).toNatClampNeg)) = 0)) → ((M.1 (x1 + 2) x2.toNatClampNeg) = x2) → Q (some (.int 1)) M) (h6 : (¬ ((M.1 45 ((M.1 (x1 + 1) x2.toNatClampNeg).toNatClampNeg)) = 0)) → (¬ ((M.1 (x1 + 2) x2.toNatClampNeg) = x2)) → vp_in (M.1 (x1 + 1) x2.toNatClampNeg) 16) (h7 : (¬ ((M.1 45 ((M.1 (x1 + 1) x2.toNatClampNeg).toNatClampNeg)) = 0)) → (¬ ((M.1 (x1 + 2) x2.toNatClampNeg) = x2)) → ((M.1 (x1 + 2) x2.toNatClampNeg) = (M.1 (x1 + 2) ((M.1 (x1 + 1) x2.toNatClampNeg).toNatClampNeg))) → Q (some (.int 2)) M) (h8 : (¬ ((M.1 45 ((M.1 (x1 + 1) x2.toNatClampNeg).toNatClampNeg)) = 0)) → (¬ ((M.1 (x1 + 2) x2.toNatClampNeg) = x2)) → (¬ ((M.1 (x1 + 2) x2.toNatClampNeg) = (M.1 (x1 + 2) ((M.1 (x1 + 1) x2.toNatClampNeg).toNatClampNeg)))) → ((M.1 (x1 + 1) x2.toNatClampNeg) = 1) → vp_in (M.1 (x1 + 2) x2.toNatClampNeg) 16) (h9 : (¬ ((M.1 45 ((M.1 (x1 + 1) x2.toNatClampNeg).toNatClampNeg)) = 0)) → (¬ ((M.1 (x1 + 2) x2.toNatClampNeg) = x2)) → (¬ ((M.1 (x1 + 2) x2.toNatClampNeg) = (M.1 (x1 + 2) ((M.1 (x1 + 1) x2.toNatClampNeg).toNatClampNeg)))) → ((M.1 (x1 + 1) x2.toNatClampNeg) = 1) → ((M.1 45 ((M.1 (x1 + 2) x2.toNatClampNeg).toNatClampNeg)) = 0) → Q (some (.int 0)) M) (h10 : (¬ ((M.1 45 ((M.1 (x1 + 1) x2.toNatClampNeg).toNatClampNeg)) = 0)) → (¬ ((M.1 (x1 + 2) x2.toNatClampNeg) = x2)) → (¬ ((M.1 (x1 + 2) x2.toNatClampNeg) = (M.1 (x1 + 2) ((M.1 (x1 + 1) x2.toNatClampNeg).toNatClampNeg)))) → ((M.1 (x1 + 1) x2.toNatClampNeg) = 1) → (¬ ((M.1 45 ((M.1 (x1 + 2) x2.toNatClampNeg).toNatClampNeg)) = 0)) → Q (some (.int 4)) M) (h11 : (¬ ((M.1 45 ((M.1 (x1 + 1) x2.toNatClampNeg).toNatClampNeg)) = 0)) → (¬ ((M.1 (x1 + 2) x2.toNatClampNeg) = x2)) → (¬ ((M.1 (x1 + 2) x2.toNatClampNeg) = (M.1 (x1 + 2) ((M.1 (x1 + 1) x2.toNatClampNeg).toNatClampNeg)))) → (¬ ((M.1 (x1 + 1) x2.toNatClampNeg) = 1)) → vp_in (M.1 (x1 + 1) x2.toNatClampNeg) 16) (h12 : (¬ ((M.1 45 ((M.1 (x1 + 1) x2.toNatClampNeg).toNatClampNeg)) = 0)) → (¬ ((M.1 (x1 + 2) x2.toNatClampNeg) = x2)) → (¬ ((M.1 (x1 + 2) x2.toNatClampNeg) = (M.1 (x1 + 2) ((M.1 (x1 + 1) x2.toNatClampNeg).toNatClampNeg)))) → (¬ ((M.1 (x1 + 1) x2.toNatClampNeg) = 1)) → ((M.1 45 ((M.1 (x1 + 1) x2.toNatClampNeg).toNatClampNeg)) = 1) → vp_in (M.1 (x1 + 1) x2.toNatClampNeg) 16) (h13 : (¬ ((M.1 45 ((M.1 (x1 + 1) x2.toNatClampNeg).toNatClampNeg)) = 0)) → (¬ ((M.1 (x1 + 2) x2.toNatClampNeg) = x2)) → (¬ ((M.1 (x1 + 2) x2.toNatClampNeg) = (M.1 (x1 + 2) ((M.1 (x1 + 1) x2.toNatClampNeg).toNatClampNeg)))) → (¬ ((M.1 (x1 + 1) x2.toNatClampNeg) = 1)) → ((M.1 45 ((M.1 (x1 + 1) x2.toNatClampNeg).toNatClampNeg)) = 1) → vp_in (M.1 (x1 + 1) ((M.1 (x1 + 1) x2.toNatClampNeg).toNatClampNeg)) 16) (h14 : (¬ ((M.1 45 ((M.1 (x1 + 1) x2.toNatClampNeg).toNatClampNeg)) = 0)) → (¬ ((M.1 (x1 + 2) x2.toNatClampNeg) = x2)) → (¬ ((M.1 (x1 + 2) x2.toNatClampNeg) = (M.1 (x1 + 2) ((M.1 (x1 + 1) x2.toNatClampNeg).toNatClampNeg)))) → (¬ ((M.1 (x1 + 1) x2.toNatClampNeg) = 1)) → ((M.1 45 ((M.1 (x1 + 1) x2.toNatClampNeg).toNatClampNeg)) = 1) → ((M.1 (x1 + 2) x2.toNatClampNeg) = (M.1 (x1 + 2) ((M.1 (x1 + 1) ((M.1 (x1 + 1) x2.toNatClampNeg).toNatClampNeg)).toNatClampNeg))) → Q (some (.int 3)) M) (h15 : (¬ ((M.1 45 ((M.1 (x1 + 1) x2.toNatClampNeg).toNatClampNeg)) = 0)) → (¬ ((M.1 (x1 + 2) x2.toNatClampNeg) = x2)) → (¬ ((M.1 (x1 + 2) x2.toNatClampNeg) = (M.1 (x1 + 2) ((M.1 (x1 + 1) x2.toNatClampNeg).toNatClampNeg)))) → (¬ ((M.1 (x1 + 1) x2.toNatClampNeg) = 1)) → ((M.1 45 ((M.1 (x1 + 1) x2.toNatClampNeg).toNatClampNeg)) = 1) → (¬ ((M.1 (x1 + 2) x2.toNatClampNeg) = (M.1 (x1 + 2) ((M.1 (x1 + 1) ((M.1 (x1 + 1) x2.toNatClampNeg).toNatClampNeg)).toNatClampNeg)))) → Q (some (.int 0)) M) (h16 : (¬ ((M.1 45 ((M.1 (x1 + 1) x2.toNatClampNeg).toNatClampNeg)) = 0)) → (¬ ((M.1 (x1 + 2) x2.toNatClampNeg) = x2)) → (¬ ((M.1 (x1 + 2) x2.toNatClampNeg) = (M.1 (x1 + 2) ((M.1 (x1 + 1) x2.toNatClampNeg).toNatClampNeg)))) → (¬ ((M.1 (x1 + 1) x2.toNatClampNeg) = 1)) → (¬ ((M.1 45 ((M.1 (x1 + 1) x2.toNatClampNeg).toNatClampNeg)) = 1)) → Q (some (.int 0)) M) : px_T 0 20 0 [some (.ref 44), some (.ref x1), some (.int x2), none, none] [] M Q := by
  rcases h_x1 with rfl | rfl
  all_goals
    by_cases c1 : (M.1 45 ((M.1 (x1 + 1) x2.toNatClampNeg).toNatClampNeg)) = 0
    · exact ⟨17, ⟨rfl, ⟨Or.inl ⟨0, 16, Or.inl rfl, rfl, h1⟩, ⟨rfl, ⟨Or.inl ⟨0, 16, Or.inl rfl, rfl, h2⟩, ⟨rfl, ⟨Or.inl ⟨0, 16, Or.inl rfl, rfl, h3⟩, ⟨fun q => absurd c1 q, fun _ => ⟨trivial, h4 c1⟩⟩⟩⟩⟩⟩⟩⟩⟩
    · by_cases c2 : (M.1 (x1 + 2) x2.toNatClampNeg) = x2
      · exact ⟨20, ⟨rfl, ⟨Or.inl ⟨0, 16, Or.inl rfl, rfl, h1⟩, ⟨rfl, ⟨Or.inl ⟨0, 16, Or.inl rfl, rfl, h2⟩, ⟨rfl, ⟨Or.inl ⟨0, 16, Or.inl rfl, rfl, h3⟩, ⟨fun _ => ⟨fun q => absurd c2 q, fun _ => ⟨trivial, h5 c1 c2⟩⟩, fun q => absurd q c1⟩⟩⟩⟩⟩⟩⟩⟩
      · by_cases c3 : (M.1 (x1 + 2) x2.toNatClampNeg) = (M.1 (x1 + 2) ((M.1 (x1 + 1) x2.toNatClampNeg).toNatClampNeg))
        · exact ⟨26, ⟨rfl, ⟨Or.inl ⟨0, 16, Or.inl rfl, rfl, h1⟩, ⟨rfl, ⟨Or.inl ⟨0, 16, Or.inl rfl, rfl, h2⟩, ⟨rfl, ⟨Or.inl ⟨0, 16, Or.inl rfl, rfl, h3⟩, ⟨fun _ => ⟨fun _ => ⟨rfl, ⟨Or.inl ⟨0, 16, Or.inl rfl, rfl, (h6 c1 c2)⟩, ⟨fun q => absurd c3 q, fun _ => ⟨trivial, h7 c1 c2 c3⟩⟩⟩⟩, fun q => absurd q c2⟩, fun q => absurd q c1⟩⟩⟩⟩⟩⟩⟩⟩
        · by_cases c4 : (M.1 (x1 + 1) x2.toNatClampNeg) = 1
          · by_cases c5 : (M.1 45 ((M.1 (x1 + 2) x2.toNatClampNeg).toNatClampNeg)) = 0
            · exact ⟨34, ⟨rfl, ⟨Or.inl ⟨0, 16, Or.inl rfl, rfl, h1⟩, ⟨rfl, ⟨Or.inl ⟨0, 16, Or.inl rfl, rfl, h2⟩, ⟨rfl, ⟨Or.inl ⟨0, 16, Or.inl rfl, rfl, h3⟩, ⟨fun _ => ⟨fun _ => ⟨rfl, ⟨Or.inl ⟨0, 16, Or.inl rfl, rfl, (h6 c1 c2)⟩, ⟨fun _ => ⟨fun q => absurd c4 q, fun _ => ⟨rfl, ⟨Or.inl ⟨0, 16, Or.inl rfl, rfl, (h8 c1 c2 c3 c4)⟩, ⟨fun _ => ⟨trivial, h9 c1 c2 c3 c4 c5⟩, fun q => absurd c5 q⟩⟩⟩⟩, fun q => absurd q c3⟩⟩⟩, fun q => absurd q c2⟩, fun q => absurd q c1⟩⟩⟩⟩⟩⟩⟩⟩
            · exact ⟨35, ⟨rfl, ⟨Or.inl ⟨0, 16, Or.inl rfl, rfl, h1⟩, ⟨rfl, ⟨Or.inl ⟨0, 16, Or.inl rfl, rfl, h2⟩, ⟨rfl, ⟨Or.inl ⟨0, 16, Or.inl rfl, rfl, h3⟩, ⟨fun _ => ⟨fun _ => ⟨rfl, ⟨Or.inl ⟨0, 16, Or.inl rfl, rfl, (h6 c1 c2)⟩, ⟨fun _ => ⟨fun q => absurd c4 q, fun _ => ⟨rfl, ⟨Or.inl ⟨0, 16, Or.inl rfl, rfl, (h8 c1 c2 c3 c4)⟩, ⟨fun q => absurd q c5, fun _ => ⟨trivial, h10 c1 c2 c3 c4 c5⟩⟩⟩⟩⟩, fun q => absurd q c3⟩⟩⟩, fun q => absurd q c2⟩, fun q => absurd q c1⟩⟩⟩⟩⟩⟩⟩⟩
          · by_cases c6 : (M.1 45 ((M.1 (x1 + 1) x2.toNatClampNeg).toNatClampNeg)) = 1
            · by_cases c7 : (M.1 (x1 + 2) x2.toNatClampNeg) = (M.1 (x1 + 2) ((M.1 (x1 + 1) ((M.1 (x1 + 1) x2.toNatClampNeg).toNatClampNeg)).toNatClampNeg))
              · exact ⟨45, ⟨rfl, ⟨Or.inl ⟨0, 16, Or.inl rfl, rfl, h1⟩, ⟨rfl, ⟨Or.inl ⟨0, 16, Or.inl rfl, rfl, h2⟩, ⟨rfl, ⟨Or.inl ⟨0, 16, Or.inl rfl, rfl, h3⟩, ⟨fun _ => ⟨fun _ => ⟨rfl, ⟨Or.inl ⟨0, 16, Or.inl rfl, rfl, (h6 c1 c2)⟩, ⟨fun _ => ⟨fun _ => ⟨rfl, ⟨Or.inl ⟨0, 16, Or.inl rfl, rfl, (h11 c1 c2 c3 c4)⟩, ⟨fun q => absurd c6 q, fun _ => ⟨rfl, ⟨rfl, ⟨Or.inl ⟨0, 16, Or.inl rfl, rfl, (h12 c1 c2 c3 c4 c6)⟩, ⟨Or.inl ⟨0, 16, Or.inl rfl, rfl, (h13 c1 c2 c3 c4 c6)⟩, ⟨fun q => absurd c7 q, fun _ => ⟨trivial, h14 c1 c2 c3 c4 c6 c7⟩⟩⟩⟩⟩⟩⟩⟩⟩, fun q => absurd q c4⟩, fun q => absurd q c3⟩⟩⟩, fun q => absurd q c2⟩, fun q => absurd q c1⟩⟩⟩⟩⟩⟩⟩⟩
              · exact ⟨44, ⟨rfl, ⟨Or.inl ⟨0, 16, Or.inl rfl, rfl, h1⟩, ⟨rfl, ⟨Or.inl ⟨0, 16, Or.inl rfl, rfl, h2⟩, ⟨rfl, ⟨Or.inl ⟨0, 16, Or.inl rfl, rfl, h3⟩, ⟨fun _ => ⟨fun _ => ⟨rfl, ⟨Or.inl ⟨0, 16, Or.inl rfl, rfl, (h6 c1 c2)⟩, ⟨fun _ => ⟨fun _ => ⟨rfl, ⟨Or.inl ⟨0, 16, Or.inl rfl, rfl, (h11 c1 c2 c3 c4)⟩, ⟨fun q => absurd c6 q, fun _ => ⟨rfl, ⟨rfl, ⟨Or.inl ⟨0, 16, Or.inl rfl, rfl, (h12 c1 c2 c3 c4 c6)⟩, ⟨Or.inl ⟨0, 16, Or.inl rfl, rfl, (h13 c1 c2 c3 c4 c6)⟩, ⟨fun _ => ⟨trivial, h15 c1 c2 c3 c4 c6 c7⟩, fun q => absurd q c7⟩⟩⟩⟩⟩⟩⟩⟩, fun q => absurd q c4⟩, fun q => absurd q c3⟩⟩⟩, fun q => absurd q c2⟩, fun q => absurd q c1⟩⟩⟩⟩⟩⟩⟩⟩
            · exact ⟨35, ⟨rfl, ⟨Or.inl ⟨0, 16, Or.inl rfl, rfl, h1⟩, ⟨rfl, ⟨Or.inl ⟨0, 16, Or.inl rfl, rfl, h2⟩, ⟨rfl, ⟨Or.inl ⟨0, 16, Or.inl rfl, rfl, h3⟩, ⟨fun _ => ⟨fun _ => ⟨rfl, ⟨Or.inl ⟨0, 16, Or.inl rfl, rfl, (h6 c1 c2)⟩, ⟨fun _ => ⟨fun _ => ⟨rfl, ⟨Or.inl ⟨0, 16, Or.inl rfl, rfl, (h11 c1 c2 c3 c4)⟩, ⟨fun _ => ⟨trivial, h16 c1 c2 c3 c4 c6⟩, fun q => absurd q c6⟩⟩⟩, fun q => absurd q c4⟩, fun q => absurd q c3⟩⟩⟩, fun q => absurd q c2⟩, fun q => absurd q c1⟩⟩⟩⟩⟩⟩⟩⟩
theorem sg_21_0 {x1 : Nat} {M : px_Mem} {Q : px_Po} (h_x1 : px_isS x1) (h1 : px_T 0 56 0 [some (.ref x1)] [] M (fun r M1 => px_T 0 21 4 [some (.ref 3), some (.ref x1), none] (r.toList ++ []) M1 Q)) : px_T 0 21 0 [some (.ref 3), some (.ref x1), none] [] M Q := by
  rcases h_x1 with rfl | rfl | rfl | rfl | rfl
  all_goals
    obtain ⟨n, h⟩ := px_T_cl (k := 21) (pc := 1) (y := 56) (st := [.ref x1]) rfl (h1)
    exact ⟨n + 2, ⟨rfl, h⟩⟩
theorem sg_21_4 {x1 : Nat} {d2 : Option Value} {M : px_Mem} {Q : px_Po} (h_x1 : px_isS x1) (h1 : px_T 0 30 0 [some (.ref 3)] [] (px_wI (px_wI (px_wI M 3 1 0) 3 2 (-1)) 3 5 0) (fun r M1 => px_T 0 21 23 [some (.ref 3), some (.ref x1), d2] (r.toList ++ []) M1 Q)) : px_T 0 21 4 [some (.ref 3), some (.ref x1), d2] [] M Q := by
  rcases h_x1 with rfl | rfl | rfl | rfl | rfl
  all_goals
    obtain ⟨n, h⟩ := px_T_cl (k := 21) (pc := 20) (y := 30) (st := [.ref 3]) rfl (h1)
    exact ⟨n + 11, ⟨rfl, ⟨rfl, ⟨rfl, ⟨rfl, h⟩⟩⟩⟩⟩
theorem sg_21_23 {x1 : Nat} {d2 : Option Value} {M : px_Mem} {Q : px_Po} (h_x1 : px_isS x1) (h1 : px_T 0 21 25 [some (.ref 3), some (.ref x1), some (.int 0)] [] M Q) : px_T 0 21 23 [some (.ref 3), some (.ref x1), d2] [] M Q := by
  rcases h_x1 with rfl | rfl | rfl | rfl | rfl
  all_goals
    obtain ⟨n, h⟩ := h1
    exact ⟨n + 2, h⟩
theorem sg_21_25 {x1 : Nat} {x2 : Int32} {M : px_Mem} {Q : px_Po} (h_x1 : px_isS x1) (h1 : ((900 : Int32) < x2) → Q none M) (h2 : (¬ ((900 : Int32) < x2)) → ((M.1 3 1) = 0) → ((M.1 3 3) = 0) → Q none M) (h3 : (¬ ((900 : Int32) < x2)) → ((M.1 3 1) = 0) → (¬ ((M.1 3 3) = 0)) → ((M.1 x1 1) = 0) → px_T 0 22 0 [some (.ref 3), some (.ref x1)] [] M (fun r M1 => px_T 0 21 58 [some (.ref 3), some (.ref x1), some (.int x2)] (r.toList ++ []) M1 Q)) (h4 : (¬ ((900 : Int32) < x2)) → ((M.1 3 1) = 0) → (¬ ((M.1 3 3) = 0)) → (¬ ((M.1 x1 1) = 0)) → px_T 0 23 0 [some (.ref 3), some (.ref x1), none, none, none] [] M (fun r M1 => px_T 0 21 66 [some (.ref 3), some (.ref x1), some (.int x2)] (r.toList ++ []) M1 Q)) (h5 : (¬ ((900 : Int32) < x2)) → (¬ ((M.1 3 1) = 0)) → Q none M) : px_T 0 21 25 [some (.ref 3), some (.ref x1), some (.int x2)] [] M Q := by
  rcases h_x1 with rfl | rfl | rfl | rfl | rfl
  all_goals
    by_cases c1 : (900 : Int32) < x2
    · exact ⟨4, ⟨fun _ => ⟨rfl, h1 c1⟩, fun q => absurd c1 q⟩⟩
    · by_cases c2 : (M.1 3 1) = 0
      · by_cases c3 : (M.1 3 3) = 0
        · exact ⟨10, ⟨fun q => absurd q c1, fun _ => ⟨rfl, ⟨fun q => absurd c2 q, fun _ => ⟨rfl, ⟨fun _ => ⟨rfl, h2 c1 c2 c3⟩, fun q => absurd c3 q⟩⟩⟩⟩⟩⟩
        · by_cases c4 : (M.1 x1 1) = 0
          · obtain ⟨n, h⟩ := px_T_cl (k := 21) (pc := 55) (y := 22) (st := [.ref x1, .ref 3]) rfl (h3 c1 c2 c3 c4)
            exact ⟨n + 15, ⟨fun q => absurd q c1, fun _ => ⟨rfl, ⟨fun q => absurd c2 q, fun _ => ⟨rfl, ⟨fun q => absurd q c3, fun _ => ⟨rfl, ⟨fun q => absurd c4 q, fun _ => ⟨rfl, h⟩⟩⟩⟩⟩⟩⟩⟩⟩
          · obtain ⟨n, h⟩ := px_T_cl (k := 21) (pc := 63) (y := 23) (st := [.ref x1, .ref 3]) rfl (h4 c1 c2 c3 c4)
            exact ⟨n + 15, ⟨fun q => absurd q c1, fun _ => ⟨rfl, ⟨fun q => absurd c2 q, fun _ => ⟨rfl, ⟨fun q => absurd q c3, fun _ => ⟨rfl, ⟨fun _ => ⟨rfl, h⟩, fun q => absurd q c4⟩⟩⟩⟩⟩⟩⟩⟩
      · exact ⟨7, ⟨fun q => absurd q c1, fun _ => ⟨rfl, ⟨fun _ => ⟨rfl, h5 c1 c2⟩, fun q => absurd q c2⟩⟩⟩⟩
theorem sg_21_58 {x1 : Nat} {x2 : Int32} {M : px_Mem} {Q : px_Po} (h_x1 : px_isS x1) (h1 : px_T 0 21 25 [some (.ref 3), some (.ref x1), some (.int (x2 + 1))] [] (px_wI M x1 1 ((M.1 x1 1) + 1)) Q) : px_T 0 21 58 [some (.ref 3), some (.ref x1), some (.int x2)] [] M Q := by
  rcases h_x1 with rfl | rfl | rfl | rfl | rfl
  all_goals
    obtain ⟨n, h⟩ := h1
    exact ⟨n + 9, ⟨rfl, ⟨rfl, h⟩⟩⟩
theorem sg_21_66 {x1 : Nat} {x2 : Int32} {M : px_Mem} {Q : px_Po} (h_x1 : px_isS x1) (h1 : px_T 0 21 25 [some (.ref 3), some (.ref x1), some (.int (x2 + 1))] [] (px_wI M x1 1 ((M.1 x1 1) + 1)) Q) : px_T 0 21 66 [some (.ref 3), some (.ref x1), some (.int x2)] [] M Q := by
  rcases h_x1 with rfl | rfl | rfl | rfl | rfl
  all_goals
    obtain ⟨n, h⟩ := h1
    exact ⟨n + 8, ⟨rfl, ⟨rfl, h⟩⟩⟩
theorem sg_22_0 {x1 : Nat} {M : px_Mem} {Q : px_Po} (h_x1 : px_isS x1) (h1 : px_T 0 26 0 [some (.ref 3), some (.ref 1111)] [] M (fun r M1 => px_T 0 22 6 [some (.ref 3), some (.ref x1)] (r.toList ++ []) M1 Q)) : px_T 0 22 0 [some (.ref 3), some (.ref x1)] [] M Q := by
  rcases h_x1 with rfl | rfl | rfl | rfl | rfl
  all_goals
    obtain ⟨n, h⟩ := px_T_cl (k := 22) (pc := 3) (y := 26) (st := [.ref 1111, .ref 3]) rfl (h1)
    exact ⟨n + 3, ⟨rfl, ⟨rfl, h⟩⟩⟩
theorem sg_22_6 {x1 : Nat} {M : px_Mem} {Q : px_Po} (h_x1 : px_isS x1) (h1 : px_T 0 26 0 [some (.ref 3), some (.ref 1112)] [] M (fun r M1 => px_T 0 22 12 [some (.ref 3), some (.ref x1)] (r.toList ++ []) M1 Q)) : px_T 0 22 6 [some (.ref 3), some (.ref x1)] [] M Q := by
  rcases h_x1 with rfl | rfl | rfl | rfl | rfl
  all_goals
    obtain ⟨n, h⟩ := px_T_cl (k := 22) (pc := 9) (y := 26) (st := [.ref 1112, .ref 3]) rfl (h1)
    exact ⟨n + 3, ⟨rfl, ⟨rfl, h⟩⟩⟩
theorem sg_22_12 {x1 : Nat} {M : px_Mem} {Q : px_Po} (h_x1 : px_isS x1) (h1 : px_T 0 25 0 [some (.ref 3), some (.int 0), some (.int 3), none] [] M (fun r M1 => px_T 0 22 19 [some (.ref 3), some (.ref x1)] (r.toList ++ [.ref x1]) M1 Q)) : px_T 0 22 12 [some (.ref 3), some (.ref x1)] [] M Q := by
  rcases h_x1 with rfl | rfl | rfl | rfl | rfl
  all_goals
    obtain ⟨n, h⟩ := px_T_cl (k := 22) (pc := 16) (y := 25) (st := [.int 3, .int 0, .ref 3, .ref x1]) rfl (h1)
    exact ⟨n + 5, ⟨rfl, h⟩⟩
theorem sg_22_19 {x1 : Nat} {s0 : Int32} {s1 : Nat} {M : px_Mem} {Q : px_Po} (h_x1 : px_isS x1) (h_s1 : px_isS s1) (h1 : px_T 0 26 0 [some (.ref 3), some (.ref 1113)] [] (px_wI M s1 2 s0) (fun r M1 => px_T 0 22 28 [some (.ref 3), some (.ref x1)] (r.toList ++ []) M1 Q)) : px_T 0 22 19 [some (.ref 3), some (.ref x1)] [.int s0, .ref s1] M Q := by
  rcases h_x1 with rfl | rfl | rfl | rfl | rfl
  rcases h_s1 with rfl | rfl | rfl | rfl | rfl
  all_goals
    obtain ⟨n, h⟩ := px_T_cl (k := 22) (pc := 25) (y := 26) (st := [.ref 1113, .ref 3]) rfl (h1)
    exact ⟨n + 4, ⟨rfl, ⟨rfl, ⟨rfl, h⟩⟩⟩⟩
theorem sg_22_28 {x1 : Nat} {M : px_Mem} {Q : px_Po} (h_x1 : px_isS x1) (h1 : px_T 0 25 0 [some (.ref 3), some (.int 0), some (.int 10), none] [] M (fun r M1 => px_T 0 22 36 [some (.ref 3), some (.ref x1)] (r.toList ++ [.ref x1]) M1 Q)) : px_T 0 22 28 [some (.ref 3), some (.ref x1)] [] M Q := by
  rcases h_x1 with rfl | rfl | rfl | rfl | rfl
  all_goals
    obtain ⟨n, h⟩ := px_T_cl (k := 22) (pc := 33) (y := 25) (st := [.int 10, .int 0, .ref 3, .ref x1]) rfl (h1)
    exact ⟨n + 5, ⟨rfl, h⟩⟩
theorem sg_22_36 {d1 : Option Value} {s0 : Int32} {s1 : Nat} {M : px_Mem} {Q : px_Po} (h_s1 : px_isS s1) (h1 : px_T 0 27 0 [some (.ref 3)] [] (px_wI M s1 3 s0) (fun r M1 => px_T 0 22 43 [some (.ref 3), d1] (r.toList ++ []) M1 Q)) : px_T 0 22 36 [some (.ref 3), d1] [.int s0, .ref s1] M Q := by
  rcases h_s1 with rfl | rfl | rfl | rfl | rfl
  all_goals
    obtain ⟨n, h⟩ := px_T_cl (k := 22) (pc := 40) (y := 27) (st := [.ref 3]) rfl (h1)
    exact ⟨n + 3, ⟨rfl, ⟨rfl, h⟩⟩⟩
theorem sg_22_43 {d0 : Option Value} {d1 : Option Value} {M : px_Mem} {Q : px_Po} (h1 : Q none M) : px_T 0 22 43 [d0, d1] [] M Q := by
  exact ⟨1, ⟨rfl, h1⟩⟩
theorem sg_23_0 {x1 : Nat} {M : px_Mem} {Q : px_Po} (h_x1 : px_isS x1) (h1 : px_T 0 24 0 [some (.ref 3), none] [] M (fun r M1 => px_T 0 23 4 [some (.ref 3), some (.ref x1), none, none, none] (r.toList ++ []) M1 Q)) : px_T 0 23 0 [some (.ref 3), some (.ref x1), none, none, none] [] M Q := by
  rcases h_x1 with rfl | rfl | rfl | rfl | rfl
  all_goals
    obtain ⟨n, h⟩ := px_T_cl (k := 23) (pc := 1) (y := 24) (st := [.ref 3]) rfl (h1)
    exact ⟨n + 2, ⟨rfl, h⟩⟩
theorem sg_23_4 {x1 : Nat} {d2 : Option Value} {d3 : Option Value} {d4 : Option Value} {s0 : Int32} {M : px_Mem} {Q : px_Po} (h_x1 : px_isS x1) (h1 : ((0 : Int32) ≤ s0) → ((M.1 x1 4) < 40) → px_T 0 30 0 [some (.ref 3)] [] M (fun r M1 => px_T 0 23 36 [some (.ref 3), some (.ref x1), some (.int s0), some (.int s0), d4] (r.toList ++ []) M1 Q)) (h2 : ((0 : Int32) ≤ s0) → (¬ ((M.1 x1 4) < 40)) → px_T 0 28 0 [some (.ref 3), some (.int 3)] [] M (fun r M1 => px_T 0 23 29 [some (.ref 3), some (.ref x1), some (.int s0), d3, d4] (r.toList ++ []) M1 Q)) (h3 : (¬ ((0 : Int32) ≤ s0)) → px_T 0 28 0 [some (.ref 3), some (.int 1)] [] M (fun r M1 => px_T 0 23 14 [some (.ref 3), some (.ref x1), some (.int s0), d3, d4] (r.toList ++ []) M1 Q)) : px_T 0 23 4 [some (.ref 3), some (.ref x1), d2, d3, d4] [.int s0] M Q := by
  rcases h_x1 with rfl | rfl | rfl | rfl | rfl
  all_goals
    by_cases c1 : (0 : Int32) ≤ s0
    · by_cases c2 : (M.1 x1 4) < 40
      · obtain ⟨n, h⟩ := px_T_cl (k := 23) (pc := 33) (y := 30) (st := [.ref 3]) rfl (h1 c1 c2)
        exact ⟨n + 11, ⟨fun _ => ⟨rfl, ⟨fun _ => ⟨rfl, h⟩, fun q => absurd c2 q⟩⟩, fun q => absurd c1 q⟩⟩
      · obtain ⟨n, h⟩ := px_T_cl (k := 23) (pc := 26) (y := 28) (st := [.int 3, .ref 3]) rfl (h2 c1 c2)
        exact ⟨n + 10, ⟨fun _ => ⟨rfl, ⟨fun q => absurd q c2, fun _ => ⟨rfl, h⟩⟩⟩, fun q => absurd c1 q⟩⟩
    · obtain ⟨n, h⟩ := px_T_cl (k := 23) (pc := 11) (y := 28) (st := [.int 1, .ref 3]) rfl (h3 c1)
      exact ⟨n + 6, ⟨fun q => absurd q c1, fun _ => ⟨rfl, h⟩⟩⟩
theorem sg_23_36 {x1 : Nat} {x2 : Int32} {x3 : Int32} {d4 : Option Value} {M : px_Mem} {Q : px_Po} (h_x1 : px_isS x1) (h1 : px_T 0 23 39 [some (.ref 3), some (.ref x1), some (.int x2), some (.int x3), some (.int 1)] [] M Q) : px_T 0 23 36 [some (.ref 3), some (.ref x1), some (.int x2), some (.int x3), d4] [] M Q := by
  rcases h_x1 with rfl | rfl | rfl | rfl | rfl
  all_goals
    obtain ⟨n, h⟩ := h1
    exact ⟨n + 2, h⟩
theorem sg_23_29 {d0 : Option Value} {d1 : Option Value} {d2 : Option Value} {d3 : Option Value} {d4 : Option Value} {M : px_Mem} {Q : px_Po} (h1 : Q none M) : px_T 0 23 29 [d0, d1, d2, d3, d4] [] M Q := by
  exact ⟨1, ⟨rfl, h1⟩⟩
theorem sg_23_14 {d0 : Option Value} {d1 : Option Value} {d2 : Option Value} {d3 : Option Value} {d4 : Option Value} {M : px_Mem} {Q : px_Po} (h1 : Q none M) : px_T 0 23 14 [d0, d1, d2, d3, d4] [] M Q := by
  exact ⟨1, ⟨rfl, h1⟩⟩
theorem sg_23_39 {x1 : Nat} {x2 : Int32} {x3 : Int32} {x4 : Int32} {M : px_Mem} {Q : px_Po} (h_x1 : px_isS x1) (h1 : px_T 0 4 0 [some (.int x3)] [] M (fun r M1 => px_T 0 23 45 [some (.ref 3), some (.ref x1), some (.int x2), some (.int x3), some (.int x4)] (r.toList ++ [.int x4]) M1 Q)) : px_T 0 23 39 [some (.ref 3), some (.ref x1), some (.int x2), some (.int x3), some (.int x4)] [] M Q := by
  rcases h_x1 with rfl | rfl | rfl | rfl | rfl
  all_goals
    obtain ⟨n, h⟩ := px_T_cl (k := 23) (pc := 42) (y := 4) (st := [.int x3, .int x4]) rfl (h1)
    exact ⟨n + 3, h⟩
theorem sg_23_45 {x1 : Nat} {x2 : Int32} {x3 : Int32} {x4 : Int32} {s0 : Int32} {s1 : Int32} {M : px_Mem} {Q : px_Po} (h_x1 : px_isS x1) (h1 : (s0 < s1) → px_T 0 27 0 [some (.ref 3)] [] M (fun r M1 => px_T 0 23 82 [some (.ref 3), some (.ref x1), some (.int x2), some (.int x3), some (.int x4)] (r.toList ++ []) M1 Q)) (h2 : (¬ (s0 < s1)) → px_T 0 5 0 [some (.int x3), some (.int x4)] [] M (fun r M1 => px_T 0 23 56 [some (.ref 3), some (.ref x1), some (.int x2), some (.int x3), some (.int x4)] (r.toList ++ [.ref 3, .int x2]) M1 Q)) : px_T 0 23 45 [some (.ref 3), some (.ref x1), some (.int x2), some (.int x3), some (.int x4)] [.int s0, .int s1] M Q := by
  rcases h_x1 with rfl | rfl | rfl | rfl | rfl
  all_goals
    by_cases c1 : s0 < s1
    · obtain ⟨n, h⟩ := px_T_cl (k := 23) (pc := 79) (y := 27) (st := [.ref 3]) rfl (h1 c1)
      exact ⟨n + 3, ⟨fun _ => ⟨rfl, h⟩, fun q => absurd c1 q⟩⟩
    · obtain ⟨n, h⟩ := px_T_cl (k := 23) (pc := 53) (y := 5) (st := [.int x4, .int x3, .ref 3, .int x2]) rfl (h2 c1)
      exact ⟨n + 6, ⟨fun q => absurd q c1, fun _ => h⟩⟩
theorem sg_23_82 {d0 : Option Value} {x1 : Nat} {x2 : Int32} {d3 : Option Value} {d4 : Option Value} {M : px_Mem} {Q : px_Po} (h_x1 : px_isS x1) (h1 : px_T 0 55 0 [some (.ref x1), some (.int x2)] [] M (fun r M1 => px_T 0 23 87 [d0, some (.ref x1), some (.int x2), d3, d4] (r.toList ++ []) M1 Q)) : px_T 0 23 82 [d0, some (.ref x1), some (.int x2), d3, d4] [] M Q := by
  rcases h_x1 with rfl | rfl | rfl | rfl | rfl
  all_goals
    obtain ⟨n, h⟩ := px_T_cl (k := 23) (pc := 84) (y := 55) (st := [.int x2, .ref x1]) rfl (h1)
    exact ⟨n + 3, ⟨rfl, h⟩⟩
theorem sg_23_56 {x1 : Nat} {d2 : Option Value} {x3 : Int32} {x4 : Int32} {s0 : Int32} {s2 : Int32} {M : px_Mem} {Q : px_Po} (h_x1 : px_isS x1) (h1 : px_T 0 6 0 [some (.int x3), some (.int x4)] [] M (fun r M1 => px_T 0 23 62 [some (.ref 3), some (.ref x1), d2, some (.int x3), some (.int x4)] (r.toList ++ [.int s0, .ref 3, .int s2]) M1 Q)) : px_T 0 23 56 [some (.ref 3), some (.ref x1), d2, some (.int x3), some (.int x4)] [.int s0, .ref 3, .int s2] M Q := by
  rcases h_x1 with rfl | rfl | rfl | rfl | rfl
  all_goals
    obtain ⟨n, h⟩ := px_T_cl (k := 23) (pc := 59) (y := 6) (st := [.int x4, .int x3, .int s0, .ref 3, .int s2]) rfl (h1)
    exact ⟨n + 3, h⟩
theorem sg_23_87 {d0 : Option Value} {x1 : Nat} {d2 : Option Value} {d3 : Option Value} {d4 : Option Value} {M : px_Mem} {Q : px_Po} (h_x1 : px_isS x1) (h1 : Q none (px_wI M x1 4 ((M.1 x1 4) + 1))) : px_T 0 23 87 [d0, some (.ref x1), d2, d3, d4] [] M Q := by
  rcases h_x1 with rfl | rfl | rfl | rfl | rfl
  all_goals
    exact ⟨7, ⟨rfl, ⟨rfl, ⟨rfl, h1⟩⟩⟩⟩
theorem sg_23_62 {x1 : Nat} {d2 : Option Value} {x3 : Int32} {x4 : Int32} {s0 : Int32} {s1 : Int32} {s3 : Int32} {M : px_Mem} {Q : px_Po} (h_x1 : px_isS x1) (h1 : px_T 0 25 0 [some (.ref 3), some (.int s1), some (.int s0), none] [] M (fun r M1 => px_T 0 23 65 [some (.ref 3), some (.ref x1), d2, some (.int x3), some (.int x4)] (r.toList ++ [.int s3]) M1 Q)) : px_T 0 23 62 [some (.ref 3), some (.ref x1), d2, some (.int x3), some (.int x4)] [.int s0, .int s1, .ref 3, .int s3] M Q := by
  rcases h_x1 with rfl | rfl | rfl | rfl | rfl
  all_goals
    obtain ⟨n, h⟩ := px_T_cl (k := 23) (pc := 62) (y := 25) (st := [.int s0, .int s1, .ref 3, .int s3]) rfl (h1)
    exact ⟨n + 1, ⟨rfl, h⟩⟩
theorem sg_23_65 {x1 : Nat} {d2 : Option Value} {x3 : Int32} {x4 : Int32} {s0 : Int32} {s1 : Int32} {M : px_Mem} {Q : px_Po} (h_x1 : px_isS x1) (h1 : px_T 0 1 0 [some (.int s0), some (.int x4)] [] M (fun r M1 => px_T 0 23 70 [some (.ref 3), some (.ref x1), d2, some (.int x3), some (.int x4)] (r.toList ++ [.int s1]) M1 Q)) : px_T 0 23 65 [some (.ref 3), some (.ref x1), d2, some (.int x3), some (.int x4)] [.int s0, .int s1] M Q := by
  rcases h_x1 with rfl | rfl | rfl | rfl | rfl
  all_goals
    obtain ⟨n, h⟩ := px_T_cl (k := 23) (pc := 67) (y := 1) (st := [.int x4, .int s0, .int s1]) rfl (h1)
    exact ⟨n + 2, h⟩
theorem sg_23_70 {x1 : Nat} {d2 : Option Value} {x3 : Int32} {x4 : Int32} {s0 : Int32} {s1 : Int32} {M : px_Mem} {Q : px_Po} (h_x1 : px_isS x1) (h1 : px_T 0 23 39 [some (.ref 3), some (.ref x1), some (.int (s1 ||| s0)), some (.int x3), some (.int (x4 + 1))] [] M Q) : px_T 0 23 70 [some (.ref 3), some (.ref x1), d2, some (.int x3), some (.int x4)] [.int s0, .int s1] M Q := by
  rcases h_x1 with rfl | rfl | rfl | rfl | rfl
  all_goals
    obtain ⟨n, h⟩ := h1
    exact ⟨n + 4, h⟩
theorem sg_24_0 {M : px_Mem} {Q : px_Po} (h1 : px_T 0 24 2 [some (.ref 3), some (.int 0)] [] M Q) : px_T 0 24 0 [some (.ref 3), none] [] M Q := by
  obtain ⟨n, h⟩ := h1
  exact ⟨n + 2, h⟩
theorem sg_24_2 {x1 : Int32} {M : px_Mem} {Q : px_Po} (h1 : ((10 : Int32) ≤ x1) → Q (some (.int (-1))) M) (h2 : (¬ ((10 : Int32) ≤ x1)) → px_T 0 9 0 [some (.int x1)] [] M (fun r M1 => px_T 0 24 13 [some (.ref 3), some (.int x1)] (r.toList ++ [.ref 3]) M1 Q)) : px_T 0 24 2 [some (.ref 3), some (.int x1)] [] M Q := by
  by_cases c1 : (10 : Int32) ≤ x1
  · exact ⟨5, ⟨fun _ => ⟨trivial, h1 c1⟩, fun q => absurd c1 q⟩⟩
  · obtain ⟨n, h⟩ := px_T_cl (k := 24) (pc := 10) (y := 9) (st := [.int x1, .ref 3]) rfl (h2 c1)
    exact ⟨n + 6, ⟨fun q => absurd q c1, fun _ => h⟩⟩
theorem sg_24_13 {x1 : Int32} {s0 : Nat} {M : px_Mem} {Q : px_Po} (h1 : px_T 0 29 0 [some (.ref 3), some (.ref s0), none] [] M (fun r M1 => px_T 0 24 16 [some (.ref 3), some (.int x1)] (r.toList ++ []) M1 Q)) : px_T 0 24 13 [some (.ref 3), some (.int x1)] [.ref s0, .ref 3] M Q := by
  obtain ⟨n, h⟩ := px_T_cl (k := 24) (pc := 13) (y := 29) (st := [.ref s0, .ref 3]) rfl (h1)
  exact ⟨n + 1, ⟨rfl, h⟩⟩
theorem sg_24_16 {x1 : Int32} {s0 : Int32} {M : px_Mem} {Q : px_Po} (h1 : (s0 = 0) → px_T 0 24 2 [some (.ref 3), some (.int (x1 + 1))] [] M Q) (h2 : (¬ (s0 = 0)) → Q (some (.int x1)) M) : px_T 0 24 16 [some (.ref 3), some (.int x1)] [.int s0] M Q := by
  by_cases c1 : s0 = 0
  · obtain ⟨n, h⟩ := h1 c1
    exact ⟨n + 3, ⟨fun _ => h, fun q => absurd c1 q⟩⟩
  · exact ⟨3, ⟨fun q => absurd q c1, fun _ => ⟨trivial, h2 c1⟩⟩⟩
theorem sg_25_0 {x1 : Int32} {x2 : Int32} {M : px_Mem} {Q : px_Po} (h1 : ((M.1 3 3) = 2) → ((M.1 3 6) < x1) → px_T 0 28 0 [some (.ref 3), some (.int 2)] [] M (fun r M1 => px_T 0 25 36 [some (.ref 3), some (.int x1), some (.int x2), some (.int (M.1 3 6))] (r.toList ++ []) M1 Q)) (h2 : ((M.1 3 3) = 2) → (¬ ((M.1 3 6) < x1)) → ((M.1 3 6) ≤ x2) → px_T 0 30 0 [some (.ref 3)] [] M (fun r M1 => px_T 0 25 40 [some (.ref 3), some (.int x1), some (.int x2), some (.int (M.1 3 6))] (r.toList ++ []) M1 Q)) (h3 : ((M.1 3 3) = 2) → (¬ ((M.1 3 6) < x1)) → (¬ ((M.1 3 6) ≤ x2)) → px_T 0 28 0 [some (.ref 3), some (.int 2)] [] M (fun r M1 => px_T 0 25 36 [some (.ref 3), some (.int x1), some (.int x2), some (.int (M.1 3 6))] (r.toList ++ []) M1 Q)) (h4 : (¬ ((M.1 3 3) = 2)) → px_T 0 28 0 [some (.ref 3), some (.int 1)] [] M (fun r M1 => px_T 0 25 18 [some (.ref 3), some (.int x1), some (.int x2), some (.int (M.1 3 6))] (r.toList ++ []) M1 Q)) : px_T 0 25 0 [some (.ref 3), some (.int x1), some (.int x2), none] [] M Q := by
  by_cases c1 : (M.1 3 3) = 2
  · by_cases c2 : (M.1 3 6) < x1
    · obtain ⟨n, h⟩ := px_T_cl (k := 25) (pc := 33) (y := 28) (st := [.int 2, .ref 3]) rfl (h1 c1 c2)
      exact ⟨n + 13, ⟨rfl, ⟨rfl, ⟨fun _ => ⟨fun _ => ⟨rfl, h⟩, fun q => absurd c2 q⟩, fun q => absurd c1 q⟩⟩⟩⟩
    · by_cases c3 : (M.1 3 6) ≤ x2
      · obtain ⟨n, h⟩ := px_T_cl (k := 25) (pc := 37) (y := 30) (st := [.ref 3]) rfl (h2 c1 c2 c3)
        exact ⟨n + 15, ⟨rfl, ⟨rfl, ⟨fun _ => ⟨fun q => absurd q c2, fun _ => ⟨fun _ => ⟨rfl, h⟩, fun q => absurd c3 q⟩⟩, fun q => absurd c1 q⟩⟩⟩⟩
      · obtain ⟨n, h⟩ := px_T_cl (k := 25) (pc := 33) (y := 28) (st := [.int 2, .ref 3]) rfl (h3 c1 c2 c3)
        exact ⟨n + 16, ⟨rfl, ⟨rfl, ⟨fun _ => ⟨fun q => absurd q c2, fun _ => ⟨fun q => absurd q c3, fun _ => ⟨rfl, h⟩⟩⟩, fun q => absurd c1 q⟩⟩⟩⟩
  · obtain ⟨n, h⟩ := px_T_cl (k := 25) (pc := 15) (y := 28) (st := [.int 1, .ref 3]) rfl (h4 c1)
    exact ⟨n + 10, ⟨rfl, ⟨rfl, ⟨fun q => absurd q c1, fun _ => ⟨rfl, h⟩⟩⟩⟩⟩
theorem sg_25_36 {d1 : Option Value} {d2 : Option Value} {x3 : Int32} {M : px_Mem} {Q : px_Po} (h1 : px_T 0 30 0 [some (.ref 3)] [] M (fun r M1 => px_T 0 25 40 [some (.ref 3), d1, d2, some (.int x3)] (r.toList ++ []) M1 Q)) : px_T 0 25 36 [some (.ref 3), d1, d2, some (.int x3)] [] M Q := by
  obtain ⟨n, h⟩ := px_T_cl (k := 25) (pc := 37) (y := 30) (st := [.ref 3]) rfl (h1)
  exact ⟨n + 2, ⟨rfl, h⟩⟩
theorem sg_25_40 {d0 : Option Value} {d1 : Option Value} {d2 : Option Value} {x3 : Int32} {M : px_Mem} {Q : px_Po} (h1 : Q (some (.int x3)) M) : px_T 0 25 40 [d0, d1, d2, some (.int x3)] [] M Q := by
  exact ⟨2, ⟨trivial, h1⟩⟩
theorem sg_25_18 {d1 : Option Value} {d2 : Option Value} {x3 : Int32} {M : px_Mem} {Q : px_Po} (h1 : px_T 0 30 0 [some (.ref 3)] [] M (fun r M1 => px_T 0 25 40 [some (.ref 3), d1, d2, some (.int x3)] (r.toList ++ []) M1 Q)) : px_T 0 25 18 [some (.ref 3), d1, d2, some (.int x3)] [] M Q := by
  obtain ⟨n, h⟩ := px_T_cl (k := 25) (pc := 37) (y := 30) (st := [.ref 3]) rfl (h1)
  exact ⟨n + 3, ⟨rfl, h⟩⟩
theorem sg_26_0 {x1 : Nat} {M : px_Mem} {Q : px_Po} (h1 : px_T 0 29 0 [some (.ref 3), some (.ref x1), none] [] M (fun r M1 => px_T 0 26 5 [some (.ref 3), some (.ref x1)] (r.toList ++ []) M1 Q)) : px_T 0 26 0 [some (.ref 3), some (.ref x1)] [] M Q := by
  obtain ⟨n, h⟩ := px_T_cl (k := 26) (pc := 2) (y := 29) (st := [.ref x1, .ref 3]) rfl (h1)
  exact ⟨n + 3, ⟨rfl, h⟩⟩
theorem sg_26_5 {d1 : Option Value} {s0 : Int32} {M : px_Mem} {Q : px_Po} (h1 : (s0 = 0) → px_T 0 28 0 [some (.ref 3), some (.int 1)] [] M (fun r M1 => px_T 0 26 13 [some (.ref 3), d1] (r.toList ++ []) M1 Q)) (h2 : (¬ (s0 = 0)) → px_T 0 30 0 [some (.ref 3)] [] M (fun r M1 => px_T 0 26 17 [some (.ref 3), d1] (r.toList ++ []) M1 Q)) : px_T 0 26 5 [some (.ref 3), d1] [.int s0] M Q := by
  by_cases c1 : s0 = 0
  · obtain ⟨n, h⟩ := px_T_cl (k := 26) (pc := 10) (y := 28) (st := [.int 1, .ref 3]) rfl (h1 c1)
    exact ⟨n + 4, ⟨fun q => absurd c1 q, fun _ => ⟨rfl, h⟩⟩⟩
  · obtain ⟨n, h⟩ := px_T_cl (k := 26) (pc := 14) (y := 30) (st := [.ref 3]) rfl (h2 c1)
    exact ⟨n + 3, ⟨fun _ => ⟨rfl, h⟩, fun q => absurd q c1⟩⟩
theorem sg_26_13 {d1 : Option Value} {M : px_Mem} {Q : px_Po} (h1 : px_T 0 30 0 [some (.ref 3)] [] M (fun r M1 => px_T 0 26 17 [some (.ref 3), d1] (r.toList ++ []) M1 Q)) : px_T 0 26 13 [some (.ref 3), d1] [] M Q := by
  obtain ⟨n, h⟩ := px_T_cl (k := 26) (pc := 14) (y := 30) (st := [.ref 3]) rfl (h1)
  exact ⟨n + 2, ⟨rfl, h⟩⟩
theorem sg_26_17 {d0 : Option Value} {d1 : Option Value} {M : px_Mem} {Q : px_Po} (h1 : Q none M) : px_T 0 26 17 [d0, d1] [] M Q := by
  exact ⟨1, ⟨rfl, h1⟩⟩
theorem sg_27_0 {M : px_Mem} {Q : px_Po} (h1 : ((M.1 3 3) = 3) → px_T 0 30 0 [some (.ref 3)] [] M (fun r M1 => px_T 0 27 17 [some (.ref 3)] (r.toList ++ []) M1 Q)) (h2 : (¬ ((M.1 3 3) = 3)) → px_T 0 28 0 [some (.ref 3), some (.int 1)] [] M (fun r M1 => px_T 0 27 13 [some (.ref 3)] (r.toList ++ []) M1 Q)) : px_T 0 27 0 [some (.ref 3)] [] M Q := by
  by_cases c1 : (M.1 3 3) = 3
  · obtain ⟨n, h⟩ := px_T_cl (k := 27) (pc := 14) (y := 30) (st := [.ref 3]) rfl (h1 c1)
    exact ⟨n + 6, ⟨rfl, ⟨fun _ => ⟨rfl, h⟩, fun q => absurd c1 q⟩⟩⟩
  · obtain ⟨n, h⟩ := px_T_cl (k := 27) (pc := 10) (y := 28) (st := [.int 1, .ref 3]) rfl (h2 c1)
    exact ⟨n + 7, ⟨rfl, ⟨fun q => absurd q c1, fun _ => ⟨rfl, h⟩⟩⟩⟩
theorem sg_27_17 {d0 : Option Value} {M : px_Mem} {Q : px_Po} (h1 : Q none M) : px_T 0 27 17 [d0] [] M Q := by
  exact ⟨1, ⟨rfl, h1⟩⟩
theorem sg_27_13 {M : px_Mem} {Q : px_Po} (h1 : px_T 0 30 0 [some (.ref 3)] [] M (fun r M1 => px_T 0 27 17 [some (.ref 3)] (r.toList ++ []) M1 Q)) : px_T 0 27 13 [some (.ref 3)] [] M Q := by
  obtain ⟨n, h⟩ := px_T_cl (k := 27) (pc := 14) (y := 30) (st := [.ref 3]) rfl (h1)
  exact ⟨n + 2, ⟨rfl, h⟩⟩
theorem sg_28_0 {x1 : Int32} {M : px_Mem} {Q : px_Po} (h1 : ((M.1 3 1) = 0) → Q none (px_wI (px_wI M 3 1 x1) 3 2 (M.1 3 4))) (h2 : (¬ ((M.1 3 1) = 0)) → Q none M) : px_T 0 28 0 [some (.ref 3), some (.int x1)] [] M Q := by
  by_cases c1 : (M.1 3 1) = 0
  · exact ⟨11, ⟨rfl, ⟨fun q => absurd c1 q, fun _ => ⟨rfl, ⟨rfl, ⟨rfl, ⟨rfl, h1 c1⟩⟩⟩⟩⟩⟩⟩
  · exact ⟨4, ⟨rfl, ⟨fun _ => ⟨rfl, h2 c1⟩, fun q => absurd q c1⟩⟩⟩
theorem sg_29_0 {x1 : Nat} {M : px_Mem} {Q : px_Po} (h1 : ((M.1 3 3) = 1) → px_T 0 333 0 [some (.ref x1)] [] M (fun r M1 => px_T 0 29 21 [some (.ref 3), some (.ref x1), none] (r.toList ++ [.int ((M.1 3 5) - (M.1 3 4))]) M1 Q)) (h2 : ((M.1 3 3) = 1) → px_sh 0 x1 = some (.inl 12)) (h3 : (¬ ((M.1 3 3) = 1)) → Q (some (.int 0)) M) : px_T 0 29 0 [some (.ref 3), some (.ref x1), none] [] M Q := by
  by_cases c1 : (M.1 3 3) = 1
  · obtain ⟨n, h⟩ := px_T_cl (k := 29) (pc := 18) (y := 333) (st := [.ref x1, .int ((M.1 3 5) - (M.1 3 4))]) rfl (h1 c1)
    exact ⟨n + 11, ⟨rfl, ⟨fun q => absurd c1 q, fun _ => ⟨rfl, ⟨rfl, ⟨(h2 c1), h⟩⟩⟩⟩⟩⟩
  · exact ⟨6, ⟨rfl, ⟨fun _ => ⟨Or.inl rfl, h3 c1⟩, fun q => absurd q c1⟩⟩⟩
theorem sg_29_21 {x1 : Nat} {d2 : Option Value} {s0 : Int32} {s1 : Int32} {M : px_Mem} {Q : px_Po} (h1 : (s1 = s0) → px_T 0 29 28 [some (.ref 3), some (.ref x1), some (.int 0)] [] M Q) (h2 : (¬ (s1 = s0)) → Q (some (.int 0)) M) : px_T 0 29 21 [some (.ref 3), some (.ref x1), d2] [.int s0, .int s1] M Q := by
  by_cases c1 : s1 = s0
  · obtain ⟨n, h⟩ := h1 c1
    exact ⟨n + 3, ⟨fun _ => h, fun q => absurd c1 q⟩⟩
  · exact ⟨3, ⟨fun q => absurd q c1, fun _ => ⟨Or.inl rfl, h2 c1⟩⟩⟩
theorem sg_29_28 {x1 : Nat} {x2 : Int32} {M : px_Mem} {Q : px_Po} (h1 : px_T 0 333 0 [some (.ref x1)] [] M (fun r M1 => px_T 0 29 33 [some (.ref 3), some (.ref x1), some (.int x2)] (r.toList ++ [.int x2]) M1 Q)) (h2 : px_sh 0 x1 = some (.inl 12)) : px_T 0 29 28 [some (.ref 3), some (.ref x1), some (.int x2)] [] M Q := by
  obtain ⟨n, h⟩ := px_T_cl (k := 29) (pc := 30) (y := 333) (st := [.ref x1, .int x2]) rfl (h1)
  exact ⟨n + 3, ⟨h2, h⟩⟩
theorem sg_29_33 {x1 : Nat} {x2 : Int32} {s0 : Int32} {s1 : Int32} {M : px_Mem} {Q : px_Po} (h1 : (s0 ≤ s1) → Q (some (.int 1)) M) (h2 : (¬ (s0 ≤ s1)) → px_T 0 59 0 [some (.ref 1), some (.int ((M.1 3 4) + x2))] [] M (fun r M1 => px_T 0 29 49 [some (.ref 3), some (.ref x1), some (.int x2)] (r.toList ++ []) M1 Q)) : px_T 0 29 33 [some (.ref 3), some (.ref x1), some (.int x2)] [.int s0, .int s1] M Q := by
  by_cases c1 : s0 ≤ s1
  · exact ⟨3, ⟨fun _ => ⟨Or.inr rfl, h1 c1⟩, fun q => absurd c1 q⟩⟩
  · obtain ⟨n, h⟩ := px_T_cl (k := 29) (pc := 46) (y := 59) (st := [.int ((M.1 3 4) + x2), .ref 1]) rfl (h2 c1)
    exact ⟨n + 8, ⟨fun q => absurd q c1, fun _ => ⟨rfl, ⟨rfl, ⟨rfl, h⟩⟩⟩⟩⟩
theorem sg_29_49 {x1 : Nat} {x2 : Int32} {s0 : Int32} {M : px_Mem} {Q : px_Po} (h1 : px_T 0 334 0 [some (.ref x1), some (.int x2)] [] M (fun r M1 => px_T 0 29 54 [some (.ref 3), some (.ref x1), some (.int x2)] (r.toList ++ [.int s0]) M1 Q)) (h2 : px_sh 0 x1 = some (.inl 12)) : px_T 0 29 49 [some (.ref 3), some (.ref x1), some (.int x2)] [.int s0] M Q := by
  obtain ⟨n, h⟩ := px_T_cl (k := 29) (pc := 51) (y := 334) (st := [.int x2, .ref x1, .int s0]) rfl (h1)
  exact ⟨n + 3, ⟨h2, h⟩⟩
theorem sg_29_54 {x1 : Nat} {x2 : Int32} {s0 : Int32} {s1 : Int32} {M : px_Mem} {Q : px_Po} (h1 : (s1 = s0) → px_T 0 29 28 [some (.ref 3), some (.ref x1), some (.int (x2 + 1))] [] M Q) (h2 : (¬ (s1 = s0)) → Q (some (.int 0)) M) : px_T 0 29 54 [some (.ref 3), some (.ref x1), some (.int x2)] [.int s0, .int s1] M Q := by
  by_cases c1 : s1 = s0
  · obtain ⟨n, h⟩ := h1 c1
    exact ⟨n + 3, ⟨fun _ => h, fun q => absurd c1 q⟩⟩
  · exact ⟨3, ⟨fun q => absurd q c1, fun _ => ⟨Or.inl rfl, h2 c1⟩⟩⟩
theorem sg_30_0 {M : px_Mem} {Q : px_Po} (h1 : px_T 0 30 8 [some (.ref 3)] [] (px_wI M 3 4 (M.1 3 5)) Q) : px_T 0 30 0 [some (.ref 3)] [] M Q := by
  obtain ⟨n, h⟩ := h1
  exact ⟨n + 4, ⟨rfl, ⟨rfl, h⟩⟩⟩
theorem sg_30_8 {M : px_Mem} {Q : px_Po} (h1 : ((M.1 1 1) ≤ (M.1 3 4)) → ((M.1 3 4) < (M.1 1 1)) → px_T 0 59 0 [some (.ref 1), some (.int (M.1 3 4))] [] (px_wI (px_wI M 3 5 (M.1 3 4)) 3 6 (-1)) (fun r M1 => px_T 0 30 98 [some (.ref 3)] (r.toList ++ []) M1 Q)) (h2 : ((M.1 1 1) ≤ (M.1 3 4)) → (¬ ((M.1 3 4) < (M.1 1 1))) → Q none (px_wI (px_wI (px_wI M 3 5 (M.1 3 4)) 3 6 (-1)) 3 3 0)) (h3 : (¬ ((M.1 1 1) ≤ (M.1 3 4))) → px_T 0 59 0 [some (.ref 1), some (.int (M.1 3 4))] [] M (fun r M1 => px_T 0 30 33 [some (.ref 3)] (r.toList ++ []) M1 Q)) : px_T 0 30 8 [some (.ref 3)] [] M Q := by
  by_cases c1 : (M.1 1 1) ≤ (M.1 3 4)
  · by_cases c2 : (M.1 3 4) < (M.1 1 1)
    · obtain ⟨n, h⟩ := px_T_cl (k := 30) (pc := 95) (y := 59) (st := [.int (M.1 3 4), .ref 1]) rfl (h1 c1 c2)
      exact ⟨n + 24, ⟨rfl, ⟨rfl, ⟨rfl, ⟨fun _ => ⟨rfl, ⟨rfl, ⟨rfl, ⟨rfl, ⟨rfl, ⟨rfl, ⟨fun _ => ⟨rfl, ⟨rfl, ⟨rfl, h⟩⟩⟩, fun q => absurd c2 q⟩⟩⟩⟩⟩⟩⟩, fun q => absurd c1 q⟩⟩⟩⟩⟩
    · exact ⟨24, ⟨rfl, ⟨rfl, ⟨rfl, ⟨fun _ => ⟨rfl, ⟨rfl, ⟨rfl, ⟨rfl, ⟨rfl, ⟨rfl, ⟨fun q => absurd q c2, fun _ => ⟨rfl, ⟨rfl, h2 c1 c2⟩⟩⟩⟩⟩⟩⟩⟩⟩, fun q => absurd c1 q⟩⟩⟩⟩⟩
  · obtain ⟨n, h⟩ := px_T_cl (k := 30) (pc := 30) (y := 59) (st := [.int (M.1 3 4), .ref 1]) rfl (h3 c1)
    exact ⟨n + 11, ⟨rfl, ⟨rfl, ⟨rfl, ⟨fun q => absurd q c1, fun _ => ⟨rfl, ⟨rfl, ⟨rfl, h⟩⟩⟩⟩⟩⟩⟩⟩
theorem sg_30_98 {s0 : Int32} {M : px_Mem} {Q : px_Po} (h1 : px_T 0 34 0 [some (.int s0)] [] M (fun r M1 => px_T 0 30 101 [some (.ref 3)] (r.toList ++ []) M1 Q)) : px_T 0 30 98 [some (.ref 3)] [.int s0] M Q := by
  obtain ⟨n, h⟩ := px_T_cl (k := 30) (pc := 98) (y := 34) (st := [.int s0]) rfl (h1)
  exact ⟨n + 1, h⟩
theorem sg_30_33 {s0 : Int32} {M : px_Mem} {Q : px_Po} (h1 : px_T 0 33 0 [some (.int s0)] [] M (fun r M1 => px_T 0 30 36 [some (.ref 3)] (r.toList ++ []) M1 Q)) : px_T 0 30 33 [some (.ref 3)] [.int s0] M Q := by
  obtain ⟨n, h⟩ := px_T_cl (k := 30) (pc := 33) (y := 33) (st := [.int s0]) rfl (h1)
  exact ⟨n + 1, h⟩
theorem sg_30_101 {s0 : Int32} {M : px_Mem} {Q : px_Po} (h1 : (s0 = 0) → px_T 0 59 0 [some (.ref 1), some (.int (M.1 3 4))] [] M (fun r M1 => px_T 0 30 122 [some (.ref 3)] (r.toList ++ []) M1 Q)) (h2 : (¬ (s0 = 0)) → px_T 0 31 0 [some (.ref 3)] [] M (fun r M1 => px_T 0 30 108 [some (.ref 3)] (r.toList ++ []) M1 Q)) : px_T 0 30 101 [some (.ref 3)] [.int s0] M Q := by
  by_cases c1 : s0 = 0
  · obtain ⟨n, h⟩ := px_T_cl (k := 30) (pc := 119) (y := 59) (st := [.int (M.1 3 4), .ref 1]) rfl (h1 c1)
    exact ⟨n + 6, ⟨fun _ => ⟨rfl, ⟨rfl, ⟨rfl, h⟩⟩⟩, fun q => absurd c1 q⟩⟩
  · obtain ⟨n, h⟩ := px_T_cl (k := 30) (pc := 105) (y := 31) (st := [.ref 3]) rfl (h2 c1)
    exact ⟨n + 3, ⟨fun q => absurd q c1, fun _ => ⟨rfl, h⟩⟩⟩
theorem sg_30_36 {s0 : Int32} {M : px_Mem} {Q : px_Po} (h1 : (s0 = 0) → ((M.1 3 4) < (M.1 1 1)) → px_T 0 59 0 [some (.ref 1), some (.int (M.1 3 4))] [] (px_wI (px_wI M 3 5 (M.1 3 4)) 3 6 (-1)) (fun r M1 => px_T 0 30 98 [some (.ref 3)] (r.toList ++ []) M1 Q)) (h2 : (s0 = 0) → (¬ ((M.1 3 4) < (M.1 1 1))) → Q none (px_wI (px_wI (px_wI M 3 5 (M.1 3 4)) 3 6 (-1)) 3 3 0)) (h3 : (¬ (s0 = 0)) → px_T 0 30 8 [some (.ref 3)] [] (px_wI M 3 4 ((M.1 3 4) + 1)) Q) : px_T 0 30 36 [some (.ref 3)] [.int s0] M Q := by
  by_cases c1 : s0 = 0
  · by_cases c2 : (M.1 3 4) < (M.1 1 1)
    · obtain ⟨n, h⟩ := px_T_cl (k := 30) (pc := 95) (y := 59) (st := [.int (M.1 3 4), .ref 1]) rfl (h1 c1 c2)
      exact ⟨n + 19, ⟨fun _ => ⟨rfl, ⟨rfl, ⟨rfl, ⟨rfl, ⟨rfl, ⟨rfl, ⟨fun _ => ⟨rfl, ⟨rfl, ⟨rfl, h⟩⟩⟩, fun q => absurd c2 q⟩⟩⟩⟩⟩⟩⟩, fun q => absurd c1 q⟩⟩
    · exact ⟨19, ⟨fun _ => ⟨rfl, ⟨rfl, ⟨rfl, ⟨rfl, ⟨rfl, ⟨rfl, ⟨fun q => absurd q c2, fun _ => ⟨rfl, ⟨rfl, h2 c1 c2⟩⟩⟩⟩⟩⟩⟩⟩⟩, fun q => absurd c1 q⟩⟩
  · obtain ⟨n, h⟩ := h3 c1
    exact ⟨n + 8, ⟨fun q => absurd q c1, fun _ => ⟨rfl, ⟨rfl, h⟩⟩⟩⟩
theorem sg_30_122 {s0 : Int32} {M : px_Mem} {Q : px_Po} (h1 : px_T 0 35 0 [some (.int s0)] [] M (fun r M1 => px_T 0 30 125 [some (.ref 3)] (r.toList ++ []) M1 Q)) : px_T 0 30 122 [some (.ref 3)] [.int s0] M Q := by
  obtain ⟨n, h⟩ := px_T_cl (k := 30) (pc := 122) (y := 35) (st := [.int s0]) rfl (h1)
  exact ⟨n + 1, h⟩
theorem sg_30_108 {d0 : Option Value} {M : px_Mem} {Q : px_Po} (h1 : Q none M) : px_T 0 30 108 [d0] [] M Q := by
  exact ⟨2, ⟨rfl, h1⟩⟩
theorem sg_30_125 {s0 : Int32} {M : px_Mem} {Q : px_Po} (h1 : (s0 = 0) → px_T 0 59 0 [some (.ref 1), some (.int (M.1 3 4))] [] M (fun r M1 => px_T 0 30 147 [some (.ref 3)] (r.toList ++ [.ref 3]) M1 Q)) (h2 : (¬ (s0 = 0)) → px_T 0 32 0 [some (.ref 3)] [] M (fun r M1 => px_T 0 30 132 [some (.ref 3)] (r.toList ++ []) M1 Q)) : px_T 0 30 125 [some (.ref 3)] [.int s0] M Q := by
  by_cases c1 : s0 = 0
  · obtain ⟨n, h⟩ := px_T_cl (k := 30) (pc := 144) (y := 59) (st := [.int (M.1 3 4), .ref 1, .ref 3]) rfl (h1 c1)
    exact ⟨n + 7, ⟨fun _ => ⟨rfl, ⟨rfl, ⟨rfl, h⟩⟩⟩, fun q => absurd c1 q⟩⟩
  · obtain ⟨n, h⟩ := px_T_cl (k := 30) (pc := 129) (y := 32) (st := [.ref 3]) rfl (h2 c1)
    exact ⟨n + 3, ⟨fun q => absurd q c1, fun _ => ⟨rfl, h⟩⟩⟩
theorem sg_30_147 {s0 : Int32} {M : px_Mem} {Q : px_Po} (h1 : (s0 = 59) → Q none (px_wI (px_wI M 3 3 3) 3 5 ((M.1 3 4) + 1))) (h2 : (¬ (s0 = 59)) → Q none (px_wI (px_wI M 3 3 4) 3 5 ((M.1 3 4) + 1))) : px_T 0 30 147 [some (.ref 3)] [.int s0, .ref 3] M Q := by
  by_cases c1 : s0 = 59
  · exact ⟨12, ⟨fun q => absurd c1 q, fun _ => ⟨rfl, ⟨rfl, ⟨rfl, ⟨rfl, h1 c1⟩⟩⟩⟩⟩⟩
  · exact ⟨11, ⟨fun _ => ⟨rfl, ⟨rfl, ⟨rfl, ⟨rfl, h2 c1⟩⟩⟩⟩, fun q => absurd q c1⟩⟩
theorem sg_30_132 {d0 : Option Value} {M : px_Mem} {Q : px_Po} (h1 : Q none M) : px_T 0 30 132 [d0] [] M Q := by
  exact ⟨2, ⟨rfl, h1⟩⟩
theorem sg_31_0 {M : px_Mem} {Q : px_Po} (h1 : px_T 0 31 5 [some (.ref 3)] [] (px_wI M 3 3 1) Q) : px_T 0 31 0 [some (.ref 3)] [] M Q := by
  obtain ⟨n, h⟩ := h1
  exact ⟨n + 3, ⟨rfl, h⟩⟩
theorem sg_31_5 {M : px_Mem} {Q : px_Po} (h1 : ((M.1 1 1) ≤ (M.1 3 5)) → Q none M) (h2 : (¬ ((M.1 1 1) ≤ (M.1 3 5))) → px_T 0 59 0 [some (.ref 1), some (.int (M.1 3 5))] [] M (fun r M1 => px_T 0 31 30 [some (.ref 3)] (r.toList ++ []) M1 Q)) : px_T 0 31 5 [some (.ref 3)] [] M Q := by
  by_cases c1 : (M.1 1 1) ≤ (M.1 3 5)
  · exact ⟨7, ⟨rfl, ⟨rfl, ⟨rfl, ⟨fun _ => ⟨rfl, h1 c1⟩, fun q => absurd c1 q⟩⟩⟩⟩⟩
  · obtain ⟨n, h⟩ := px_T_cl (k := 31) (pc := 27) (y := 59) (st := [.int (M.1 3 5), .ref 1]) rfl (h2 c1)
    exact ⟨n + 11, ⟨rfl, ⟨rfl, ⟨rfl, ⟨fun q => absurd q c1, fun _ => ⟨rfl, ⟨rfl, ⟨rfl, h⟩⟩⟩⟩⟩⟩⟩⟩
theorem sg_31_30 {s0 : Int32} {M : px_Mem} {Q : px_Po} (h1 : px_T 0 34 0 [some (.int s0)] [] M (fun r M1 => px_T 0 31 33 [some (.ref 3)] (r.toList ++ []) M1 Q)) : px_T 0 31 30 [some (.ref 3)] [.int s0] M Q := by
  obtain ⟨n, h⟩ := px_T_cl (k := 31) (pc := 30) (y := 34) (st := [.int s0]) rfl (h1)
  exact ⟨n + 1, h⟩
theorem sg_31_33 {s0 : Int32} {M : px_Mem} {Q : px_Po} (h1 : (s0 = 0) → Q none M) (h2 : (¬ (s0 = 0)) → px_T 0 31 5 [some (.ref 3)] [] (px_wI M 3 5 ((M.1 3 5) + 1)) Q) : px_T 0 31 33 [some (.ref 3)] [.int s0] M Q := by
  by_cases c1 : s0 = 0
  · exact ⟨2, ⟨fun _ => ⟨rfl, h1 c1⟩, fun q => absurd c1 q⟩⟩
  · obtain ⟨n, h⟩ := h2 c1
    exact ⟨n + 8, ⟨fun q => absurd q c1, fun _ => ⟨rfl, ⟨rfl, h⟩⟩⟩⟩
theorem sg_32_0 {M : px_Mem} {Q : px_Po} (h1 : px_T 0 32 10 [some (.ref 3)] [] (px_wI (px_wI M 3 3 2) 3 6 0) Q) : px_T 0 32 0 [some (.ref 3)] [] M Q := by
  obtain ⟨n, h⟩ := h1
  exact ⟨n + 6, ⟨rfl, ⟨rfl, h⟩⟩⟩
theorem sg_32_10 {M : px_Mem} {Q : px_Po} (h1 : ((M.1 1 1) ≤ (M.1 3 5)) → Q none M) (h2 : (¬ ((M.1 1 1) ≤ (M.1 3 5))) → px_T 0 59 0 [some (.ref 1), some (.int (M.1 3 5))] [] M (fun r M1 => px_T 0 32 35 [some (.ref 3)] (r.toList ++ []) M1 Q)) : px_T 0 32 10 [some (.ref 3)] [] M Q := by
  by_cases c1 : (M.1 1 1) ≤ (M.1 3 5)
  · exact ⟨7, ⟨rfl, ⟨rfl, ⟨rfl, ⟨fun _ => ⟨rfl, h1 c1⟩, fun q => absurd c1 q⟩⟩⟩⟩⟩
  · obtain ⟨n, h⟩ := px_T_cl (k := 32) (pc := 32) (y := 59) (st := [.int (M.1 3 5), .ref 1]) rfl (h2 c1)
    exact ⟨n + 11, ⟨rfl, ⟨rfl, ⟨rfl, ⟨fun q => absurd q c1, fun _ => ⟨rfl, ⟨rfl, ⟨rfl, h⟩⟩⟩⟩⟩⟩⟩⟩
theorem sg_32_35 {s0 : Int32} {M : px_Mem} {Q : px_Po} (h1 : px_T 0 35 0 [some (.int s0)] [] M (fun r M1 => px_T 0 32 38 [some (.ref 3)] (r.toList ++ []) M1 Q)) : px_T 0 32 35 [some (.ref 3)] [.int s0] M Q := by
  obtain ⟨n, h⟩ := px_T_cl (k := 32) (pc := 35) (y := 35) (st := [.int s0]) rfl (h1)
  exact ⟨n + 1, h⟩
theorem sg_32_38 {s0 : Int32} {M : px_Mem} {Q : px_Po} (h1 : (s0 = 0) → Q none M) (h2 : (¬ (s0 = 0)) → px_T 0 59 0 [some (.ref 1), some (.int (M.1 3 5))] [] M (fun r M1 => px_T 0 32 63 [some (.ref 3)] (r.toList ++ [.int (10 * (M.1 3 6)), .int 1000, .ref 3]) M1 Q)) : px_T 0 32 38 [some (.ref 3)] [.int s0] M Q := by
  by_cases c1 : s0 = 0
  · exact ⟨2, ⟨fun _ => ⟨rfl, h1 c1⟩, fun q => absurd c1 q⟩⟩
  · obtain ⟨n, h⟩ := px_T_cl (k := 32) (pc := 60) (y := 59) (st := [.int (M.1 3 5), .ref 1, .int (10 * (M.1 3 6)), .int 1000, .ref 3]) rfl (h2 c1)
    exact ⟨n + 12, ⟨fun q => absurd q c1, fun _ => ⟨rfl, ⟨rfl, ⟨rfl, ⟨rfl, h⟩⟩⟩⟩⟩⟩
theorem sg_32_63 {s0 : Int32} {s1 : Int32} {s2 : Int32} {M : px_Mem} {Q : px_Po} (h1 : px_T 0 32 10 [some (.ref 3)] [] (px_wI (px_wI M 3 6 (if ((s1 + s0) - 48) < s2 then (s1 + s0) - 48 else s2)) 3 5 ((M.1 3 5) + 1)) Q) : px_T 0 32 63 [some (.ref 3)] [.int s0, .int s1, .int s2, .ref 3] M Q := by
  obtain ⟨n, h⟩ := h1
  exact ⟨n + 12, ⟨(by decide), (by decide), (by decide), ⟨rfl, ⟨rfl, ⟨rfl, h⟩⟩⟩⟩⟩
theorem sg_33_0 {x0 : Int32} {M : px_Mem} {Q : px_Po} (h1 : (x0 = 32) → Q (some (.int 1)) M) (h2 : (¬ (x0 = 32)) → (x0 = 10) → Q (some (.int 1)) M) (h3 : (¬ (x0 = 32)) → (¬ (x0 = 10)) → Q (some (.int 0)) M) : px_T 0 33 0 [some (.int x0)] [] M Q := by
  by_cases c1 : x0 = 32
  · exact ⟨6, ⟨fun _ => ⟨Or.inr rfl, h1 c1⟩, fun q => absurd c1 q⟩⟩
  · by_cases c2 : x0 = 10
    · exact ⟨9, ⟨fun q => absurd q c1, fun _ => ⟨fun q => absurd c2 q, fun _ => ⟨Or.inr rfl, h2 c1 c2⟩⟩⟩⟩
    · exact ⟨8, ⟨fun q => absurd q c1, fun _ => ⟨fun _ => ⟨Or.inl rfl, h3 c1 c2⟩, fun q => absurd q c2⟩⟩⟩
theorem sg_34_0 {x0 : Int32} {M : px_Mem} {Q : px_Po} (h1 : (x0 < 97) → Q (some (.int 0)) M) (h2 : (¬ (x0 < 97)) → ((122 : Int32) < x0) → Q (some (.int 0)) M) (h3 : (¬ (x0 < 97)) → (¬ ((122 : Int32) < x0)) → Q (some (.int 1)) M) : px_T 0 34 0 [some (.int x0)] [] M Q := by
  by_cases c1 : x0 < 97
  · exact ⟨5, ⟨fun _ => ⟨Or.inl rfl, h1 c1⟩, fun q => absurd c1 q⟩⟩
  · by_cases c2 : (122 : Int32) < x0
    · exact ⟨8, ⟨fun q => absurd q c1, fun _ => ⟨fun _ => ⟨Or.inl rfl, h2 c1 c2⟩, fun q => absurd c2 q⟩⟩⟩
    · exact ⟨9, ⟨fun q => absurd q c1, fun _ => ⟨fun q => absurd q c2, fun _ => ⟨Or.inr rfl, h3 c1 c2⟩⟩⟩⟩
theorem sg_35_0 {x0 : Int32} {M : px_Mem} {Q : px_Po} (h1 : (x0 < 48) → Q (some (.int 0)) M) (h2 : (¬ (x0 < 48)) → ((57 : Int32) < x0) → Q (some (.int 0)) M) (h3 : (¬ (x0 < 48)) → (¬ ((57 : Int32) < x0)) → Q (some (.int 1)) M) : px_T 0 35 0 [some (.int x0)] [] M Q := by
  by_cases c1 : x0 < 48
  · exact ⟨5, ⟨fun _ => ⟨Or.inl rfl, h1 c1⟩, fun q => absurd c1 q⟩⟩
  · by_cases c2 : (57 : Int32) < x0
    · exact ⟨8, ⟨fun q => absurd q c1, fun _ => ⟨fun _ => ⟨Or.inl rfl, h2 c1 c2⟩, fun q => absurd c2 q⟩⟩⟩
    · exact ⟨9, ⟨fun q => absurd q c1, fun _ => ⟨fun q => absurd q c2, fun _ => ⟨Or.inr rfl, h3 c1 c2⟩⟩⟩⟩
theorem sg_36_0 {x0 : Nat} {x1 : Int32} {x2 : Int32} {M : px_Mem} {Q : px_Po} (h_x0 : px_isR x0) (h1 : px_T 0 339 0 [some (.ref (x0 + 1)), some (.long 0), none, none, none] [] M (fun r M1 => px_T 0 36 8 [some (.ref x0), some (.int x1), some (.int x2)] (r.toList ++ []) M1 Q)) : px_T 0 36 0 [some (.ref x0), some (.int x1), some (.int x2)] [] M Q := by
  rcases h_x0 with rfl | rfl | rfl | rfl
  all_goals
    obtain ⟨n, h⟩ := px_T_cl (k := 36) (pc := 5) (y := 339) (st := [.long 0, .ref (x0 + 1)]) rfl (h1)
    exact ⟨n + 4, ⟨rfl, h⟩⟩
theorem sg_36_8 {x0 : Nat} {x1 : Int32} {x2 : Int32} {M : px_Mem} {Q : px_Po} (h_x0 : px_isR x0) (h1 : Q none (px_wI (px_wI (px_wI M x0 1 1) x0 2 x1) x0 3 x2)) : px_T 0 36 8 [some (.ref x0), some (.int x1), some (.int x2)] [] M Q := by
  rcases h_x0 with rfl | rfl | rfl | rfl
  all_goals
    exact ⟨10, ⟨rfl, Or.inr rfl, ⟨rfl, ⟨rfl, ⟨rfl, h1⟩⟩⟩⟩⟩
theorem sg_37_0 {x0 : Nat} {x1 : Int32} {x2 : Int64} {M : px_Mem} {Q : px_Po} (h_x0 : px_isR x0) (h1 : (x1 < 0) → Q none M) (h2 : (¬ (x1 < 0)) → ((M.1 x0 3) ≤ x1) → Q none M) (h3 : (¬ (x1 < 0)) → (¬ ((M.1 x0 3) ≤ x1)) → px_T 0 38 0 [some (.ref x0), some (.long x2), none] [] M (fun r M1 => px_T 0 37 22 [some (.ref x0), some (.int x1), some (.long x2), none] (r.toList ++ [.int x1, .ref (x0 + 1)]) M1 Q)) : px_T 0 37 0 [some (.ref x0), some (.int x1), some (.long x2), none] [] M Q := by
  rcases h_x0 with rfl | rfl | rfl | rfl
  all_goals
    by_cases c1 : x1 < 0
    · exact ⟨3, ⟨fun _ => ⟨rfl, h1 c1⟩, fun q => absurd c1 q⟩⟩
    · by_cases c2 : (M.1 x0 3) ≤ x1
      · exact ⟨7, ⟨fun q => absurd q c1, fun _ => ⟨rfl, ⟨fun _ => ⟨rfl, h2 c1 c2⟩, fun q => absurd c2 q⟩⟩⟩⟩
      · obtain ⟨n, h⟩ := px_T_cl (k := 37) (pc := 19) (y := 38) (st := [.long x2, .ref x0, .int x1, .ref (x0 + 1)]) rfl (h3 c1 c2)
        exact ⟨n + 12, ⟨fun q => absurd q c1, fun _ => ⟨rfl, ⟨fun q => absurd q c2, fun _ => ⟨rfl, ⟨rfl, h⟩⟩⟩⟩⟩⟩
theorem sg_37_22 {d0 : Option Value} {d1 : Option Value} {d2 : Option Value} {s0 : Int64} {s1 : Int32} {s2 : Nat} {M : px_Mem} {Q : px_Po} (h1 : px_at 0 1 s2 s1) (h2 : Q none (px_wL M s2 s1.toNatClampNeg s0)) : px_T 0 37 22 [d0, d1, d2, none] [.long s0, .int s1, .ref s2] M Q := by
  exact ⟨2, ⟨h1, ⟨rfl, h2⟩⟩⟩
theorem sg_38_0 {x0 : Nat} {x1 : Int64} {M : px_Mem} {Q : px_Po} (h_x0 : px_isR x0) (h1 : px_T 0 38 4 [some (.ref x0), some (.long x1), none] [.int (M.1 x0 2)] M Q) : px_T 0 38 0 [some (.ref x0), some (.long x1), none] [] M Q := by
  rcases h_x0 with rfl | rfl | rfl | rfl
  all_goals
    obtain ⟨n, h⟩ := h1
    exact ⟨n + 2, ⟨rfl, h⟩⟩
theorem sg_38_4 {d0 : Option Value} {x1 : Int64} {s0 : Int32} {M : px_Mem} {Q : px_Po} (h1 : (s0 = 0) → px_T 0 38 32 [d0, some (.long x1), none] [] M Q) (h2 : (s0 = 1) → px_T 0 38 37 [d0, some (.long x1), none] [] M Q) (h3 : (s0 = 2) → px_T 0 38 42 [d0, some (.long x1), none] [] M Q) (h4 : (¬ s0 = 0) → (¬ s0 = 1) → (¬ s0 = 2) → px_T 0 38 46 [d0, some (.long x1), none] [] M Q) : px_T 0 38 4 [d0, some (.long x1), none] [.int s0] M Q := by
  by_cases c1 : s0 = 0
  · exact px_T_sw rfl (by rw [c1]; rfl) (h1 c1)
  by_cases c2 : s0 = 1
  · exact px_T_sw rfl (by rw [c2]; rfl) (h2 c2)
  by_cases c3 : s0 = 2
  · exact px_T_sw rfl (by rw [c3]; rfl) (h3 c3)
  exact px_T_sw rfl (px_sw_o (N := 3) (by decide) (fun v hv => match v, hv with | 0, _ => c1 | 1, _ => c2 | 2, _ => c3 | n + 3, h => absurd h (by omega))) (h4 c1 c2 c3)
theorem sg_38_32 {d0 : Option Value} {x1 : Int64} {M : px_Mem} {Q : px_Po} (h1 : Q (some (.long x1.toInt32.toInt8.toInt32.toInt64)) M) : px_T 0 38 32 [d0, some (.long x1), none] [] M Q := by
  exact ⟨5, ⟨rfl, h1⟩⟩
theorem sg_38_37 {d0 : Option Value} {x1 : Int64} {M : px_Mem} {Q : px_Po} (h1 : Q (some (.long x1.toInt32.toInt16.toInt32.toInt64)) M) : px_T 0 38 37 [d0, some (.long x1), none] [] M Q := by
  exact ⟨5, ⟨rfl, h1⟩⟩
theorem sg_38_42 {d0 : Option Value} {x1 : Int64} {M : px_Mem} {Q : px_Po} (h1 : Q (some (.long x1.toInt32.toInt64)) M) : px_T 0 38 42 [d0, some (.long x1), none] [] M Q := by
  exact ⟨4, ⟨rfl, h1⟩⟩
theorem sg_38_46 {d0 : Option Value} {x1 : Int64} {M : px_Mem} {Q : px_Po} (h1 : Q (some (.long x1)) M) : px_T 0 38 46 [d0, some (.long x1), none] [] M Q := by
  exact ⟨2, ⟨rfl, h1⟩⟩
theorem sg_39_0 {x0 : Nat} {x1 : Int32} {x2 : Int32} {M : px_Mem} {Q : px_Po} (h_x0 : px_isR x0) (h1 : (x1 < 0) → Q (some (.int 1)) M) (h2 : (¬ (x1 < 0)) → (x2 < 0) → Q (some (.int 1)) M) (h3 : (¬ (x1 < 0)) → (¬ (x2 < 0)) → ((lg_cmp (x1.toInt64 + x2.toInt64) ((M.1 x0 3).toInt64)) ≤ 0) → Q (some (.int 0)) M) (h4 : (¬ (x1 < 0)) → (¬ (x2 < 0)) → (¬ ((lg_cmp (x1.toInt64 + x2.toInt64) ((M.1 x0 3).toInt64)) ≤ 0)) → Q (some (.int 1)) M) : px_T 0 39 0 [some (.ref x0), some (.int x1), some (.int x2)] [] M Q := by
  rcases h_x0 with rfl | rfl | rfl | rfl
  all_goals
    by_cases c1 : x1 < 0
    · exact ⟨5, ⟨fun _ => ⟨Or.inr rfl, h1 c1⟩, fun q => absurd c1 q⟩⟩
    · by_cases c2 : x2 < 0
      · exact ⟨7, ⟨fun q => absurd q c1, fun _ => ⟨fun _ => ⟨Or.inr rfl, h2 c1 c2⟩, fun q => absurd c2 q⟩⟩⟩
      · by_cases c3 : (lg_cmp (x1.toInt64 + x2.toInt64) ((M.1 x0 3).toInt64)) ≤ 0
        · exact ⟨16, ⟨fun q => absurd q c1, fun _ => ⟨fun q => absurd q c2, fun _ => ⟨rfl, ⟨fun _ => ⟨Or.inl rfl, h3 c1 c2 c3⟩, fun q => absurd c3 q⟩⟩⟩⟩⟩
        · exact ⟨17, ⟨fun q => absurd q c1, fun _ => ⟨fun q => absurd q c2, fun _ => ⟨rfl, ⟨fun q => absurd q c3, fun _ => ⟨Or.inr rfl, h4 c1 c2 c3⟩⟩⟩⟩⟩⟩
theorem sg_40_0 {x1 : Nat} {x2 : Int32} {M : px_Mem} {Q : px_Po} (h_x1 : px_isR x1) (h1 : (((M.1 x1 3) - (M.1 x1 3) / 3 * 3) = 0) → px_T 0 40 18 [some (.ref 24), some (.ref x1), some (.int x2), some (.int 0), none, none, none, none, none, none] [] (px_wI M 24 3 0) Q) (h2 : (¬ (((M.1 x1 3) - (M.1 x1 3) / 3 * 3) = 0)) → Q (some (.int 0)) (px_wI M 24 3 0)) : px_T 0 40 0 [some (.ref 24), some (.ref x1), some (.int x2), none, none, none, none, none, none, none] [] M Q := by
  rcases h_x1 with rfl | rfl | rfl | rfl
  all_goals
    by_cases c1 : ((M.1 x1 3) - (M.1 x1 3) / 3 * 3) = 0
    · obtain ⟨n, h⟩ := h1 c1
      exact ⟨n + 10, ⟨rfl, ⟨rfl, ⟨(by decide), ⟨fun _ => h, fun q => absurd c1 q⟩⟩⟩⟩⟩
    · exact ⟨10, ⟨rfl, ⟨rfl, ⟨(by decide), ⟨fun q => absurd q c1, fun _ => ⟨Or.inl rfl, h2 c1⟩⟩⟩⟩⟩⟩
theorem sg_40_18 {x1 : Nat} {x2 : Int32} {x3 : Int32} {d4 : Option Value} {d5 : Option Value} {d6 : Option Value} {d7 : Option Value} {d8 : Option Value} {d9 : Option Value} {M : px_Mem} {Q : px_Po} (h_x1 : px_isR x1) (h1 : ((M.1 x1 3) ≤ (x3 + 2)) → Q (some (.int 1)) M) (h2 : (¬ ((M.1 x1 3) ≤ (x3 + 2))) → vp_in x3 60) (h3 : (¬ ((M.1 x1 3) ≤ (x3 + 2))) → vp_in (x3 + 1) 60) (h4 : (¬ ((M.1 x1 3) ≤ (x3 + 2))) → vp_in (x3 + 2) 60) (h5 : (¬ ((M.1 x1 3) ≤ (x3 + 2))) → ((lg_cmp (M.2 (x1 + 1) x3.toNatClampNeg) 0) < 0) → Q (some (.int 0)) M) (h6 : (¬ ((M.1 x1 3) ≤ (x3 + 2))) → (¬ ((lg_cmp (M.2 (x1 + 1) x3.toNatClampNeg) 0) < 0)) → ((0 : Int32) < (lg_cmp (M.2 (x1 + 1) x3.toNatClampNeg) x2.toInt64)) → Q (some (.int 0)) M) (h7 : (¬ ((M.1 x1 3) ≤ (x3 + 2))) → (¬ ((lg_cmp (M.2 (x1 + 1) x3.toNatClampNeg) 0) < 0)) → (¬ ((0 : Int32) < (lg_cmp (M.2 (x1 + 1) x3.toNatClampNeg) x2.toInt64))) → ((lg_cmp (M.2 (x1 + 1) ((x3 + 1).toNatClampNeg)) 1) < 0) → Q (some (.int 0)) M) (h8 : (¬ ((M.1 x1 3) ≤ (x3 + 2))) → (¬ ((lg_cmp (M.2 (x1 + 1) x3.toNatClampNeg) 0) < 0)) → (¬ ((0 : Int32) < (lg_cmp (M.2 (x1 + 1) x3.toNatClampNeg) x2.toInt64))) → (¬ ((lg_cmp (M.2 (x1 + 1) ((x3 + 1).toNatClampNeg)) 1) < 0)) → ((lg_cmp (M.2 (x1 + 1) ((x3 + 1).toNatClampNeg)) 15) ≤ 0) → ((lg_cmp (M.2 (x1 + 1) ((x3 + 2).toNatClampNeg)) (-1)) < 0) → Q (some (.int 0)) M) (h9 : (¬ ((M.1 x1 3) ≤ (x3 + 2))) → (¬ ((lg_cmp (M.2 (x1 + 1) x3.toNatClampNeg) 0) < 0)) → (¬ ((0 : Int32) < (lg_cmp (M.2 (x1 + 1) x3.toNatClampNeg) x2.toInt64))) → (¬ ((lg_cmp (M.2 (x1 + 1) ((x3 + 1).toNatClampNeg)) 1) < 0)) → ((lg_cmp (M.2 (x1 + 1) ((x3 + 1).toNatClampNeg)) 15) ≤ 0) → (¬ ((lg_cmp (M.2 (x1 + 1) ((x3 + 2).toNatClampNeg)) (-1)) < 0)) → ((lg_cmp (M.2 (x1 + 1) ((x3 + 2).toNatClampNeg)) 15) ≤ 0) → px_T 0 41 0 [some (.ref 24), some (.int ((M.2 (x1 + 1) x3.toNatClampNeg).toInt32)), some (.int ((M.2 (x1 + 1) ((x3 + 1).toNatClampNeg)).toInt32)), some (.int ((M.2 (x1 + 1) ((x3 + 2).toNatClampNeg)).toInt32)), none] [] M (fun r M1 => px_T 0 40 122 [some (.ref 24), some (.ref x1), some (.int x2), some (.int x3), some (.long (M.2 (x1 + 1) x3.toNatClampNeg)), none, some (.long (M.2 (x1 + 1) ((x3 + 1).toNatClampNeg))), none, some (.long (M.2 (x1 + 1) ((x3 + 2).toNatClampNeg))), none] (r.toList ++ []) M1 Q)) (h10 : (¬ ((M.1 x1 3) ≤ (x3 + 2))) → (¬ ((lg_cmp (M.2 (x1 + 1) x3.toNatClampNeg) 0) < 0)) → (¬ ((0 : Int32) < (lg_cmp (M.2 (x1 + 1) x3.toNatClampNeg) x2.toInt64))) → (¬ ((lg_cmp (M.2 (x1 + 1) ((x3 + 1).toNatClampNeg)) 1) < 0)) → ((lg_cmp (M.2 (x1 + 1) ((x3 + 1).toNatClampNeg)) 15) ≤ 0) → (¬ ((lg_cmp (M.2 (x1 + 1) ((x3 + 2).toNatClampNeg)) (-1)) < 0)) → (¬ ((lg_cmp (M.2 (x1 + 1) ((x3 + 2).toNatClampNeg)) 15) ≤ 0)) → Q (some (.int 0)) M) (h11 : (¬ ((M.1 x1 3) ≤ (x3 + 2))) → (¬ ((lg_cmp (M.2 (x1 + 1) x3.toNatClampNeg) 0) < 0)) → (¬ ((0 : Int32) < (lg_cmp (M.2 (x1 + 1) x3.toNatClampNeg) x2.toInt64))) → (¬ ((lg_cmp (M.2 (x1 + 1) ((x3 + 1).toNatClampNeg)) 1) < 0)) → (¬ ((lg_cmp (M.2 (x1 + 1) ((x3 + 1).toNatClampNeg)) 15) ≤ 0)) → Q (some (.int 0)) M) : px_T 0 40 18 [some (.ref 24), some (.ref x1), some (.int x2), some (.int x3), d4, d5, d6, d7, d8, d9] [] M Q := by
  rcases h_x1 with rfl | rfl | rfl | rfl
  all_goals
    by_cases c1 : (M.1 x1 3) ≤ (x3 + 2)
    · exact ⟨8, ⟨rfl, ⟨fun _ => ⟨Or.inr rfl, h1 c1⟩, fun q => absurd c1 q⟩⟩⟩
    · by_cases c2 : (lg_cmp (M.2 (x1 + 1) x3.toNatClampNeg) 0) < 0
      · exact ⟨31, ⟨rfl, ⟨fun q => absurd q c1, fun _ => ⟨rfl, ⟨⟨60, rfl, (h2 c1)⟩, ⟨rfl, ⟨⟨60, rfl, (h3 c1)⟩, ⟨rfl, ⟨⟨60, rfl, (h4 c1)⟩, ⟨fun _ => ⟨Or.inl rfl, h5 c1 c2⟩, fun q => absurd c2 q⟩⟩⟩⟩⟩⟩⟩⟩⟩⟩
      · by_cases c3 : (0 : Int32) < (lg_cmp (M.2 (x1 + 1) x3.toNatClampNeg) x2.toInt64)
        · exact ⟨36, ⟨rfl, ⟨fun q => absurd q c1, fun _ => ⟨rfl, ⟨⟨60, rfl, (h2 c1)⟩, ⟨rfl, ⟨⟨60, rfl, (h3 c1)⟩, ⟨rfl, ⟨⟨60, rfl, (h4 c1)⟩, ⟨fun q => absurd q c2, fun _ => ⟨fun _ => ⟨Or.inl rfl, h6 c1 c2 c3⟩, fun q => absurd c3 q⟩⟩⟩⟩⟩⟩⟩⟩⟩⟩⟩
        · by_cases c4 : (lg_cmp (M.2 (x1 + 1) ((x3 + 1).toNatClampNeg)) 1) < 0
          · exact ⟨40, ⟨rfl, ⟨fun q => absurd q c1, fun _ => ⟨rfl, ⟨⟨60, rfl, (h2 c1)⟩, ⟨rfl, ⟨⟨60, rfl, (h3 c1)⟩, ⟨rfl, ⟨⟨60, rfl, (h4 c1)⟩, ⟨fun q => absurd q c2, fun _ => ⟨fun q => absurd q c3, fun _ => ⟨fun _ => ⟨Or.inl rfl, h7 c1 c2 c3 c4⟩, fun q => absurd c4 q⟩⟩⟩⟩⟩⟩⟩⟩⟩⟩⟩⟩
          · by_cases c5 : (lg_cmp (M.2 (x1 + 1) ((x3 + 1).toNatClampNeg)) 15) ≤ 0
            · by_cases c6 : (lg_cmp (M.2 (x1 + 1) ((x3 + 2).toNatClampNeg)) (-1)) < 0
              · exact ⟨48, ⟨rfl, ⟨fun q => absurd q c1, fun _ => ⟨rfl, ⟨⟨60, rfl, (h2 c1)⟩, ⟨rfl, ⟨⟨60, rfl, (h3 c1)⟩, ⟨rfl, ⟨⟨60, rfl, (h4 c1)⟩, ⟨fun q => absurd q c2, fun _ => ⟨fun q => absurd q c3, fun _ => ⟨fun q => absurd q c4, fun _ => ⟨fun _ => ⟨fun _ => ⟨Or.inl rfl, h8 c1 c2 c3 c4 c5 c6⟩, fun q => absurd c6 q⟩, fun q => absurd c5 q⟩⟩⟩⟩⟩⟩⟩⟩⟩⟩⟩⟩⟩
              · by_cases c7 : (lg_cmp (M.2 (x1 + 1) ((x3 + 2).toNatClampNeg)) 15) ≤ 0
                · obtain ⟨n, h⟩ := px_T_cl (k := 40) (pc := 119) (y := 41) (st := [.int ((M.2 (x1 + 1) ((x3 + 2).toNatClampNeg)).toInt32), .int ((M.2 (x1 + 1) ((x3 + 1).toNatClampNeg)).toInt32), .int ((M.2 (x1 + 1) x3.toNatClampNeg).toInt32), .ref 24]) rfl (h9 c1 c2 c3 c4 c5 c6 c7)
                  exact ⟨n + 58, ⟨rfl, ⟨fun q => absurd q c1, fun _ => ⟨rfl, ⟨⟨60, rfl, (h2 c1)⟩, ⟨rfl, ⟨⟨60, rfl, (h3 c1)⟩, ⟨rfl, ⟨⟨60, rfl, (h4 c1)⟩, ⟨fun q => absurd q c2, fun _ => ⟨fun q => absurd q c3, fun _ => ⟨fun q => absurd q c4, fun _ => ⟨fun _ => ⟨fun q => absurd q c6, fun _ => ⟨fun _ => ⟨rfl, h⟩, fun q => absurd c7 q⟩⟩, fun q => absurd c5 q⟩⟩⟩⟩⟩⟩⟩⟩⟩⟩⟩⟩⟩
                · exact ⟨52, ⟨rfl, ⟨fun q => absurd q c1, fun _ => ⟨rfl, ⟨⟨60, rfl, (h2 c1)⟩, ⟨rfl, ⟨⟨60, rfl, (h3 c1)⟩, ⟨rfl, ⟨⟨60, rfl, (h4 c1)⟩, ⟨fun q => absurd q c2, fun _ => ⟨fun q => absurd q c3, fun _ => ⟨fun q => absurd q c4, fun _ => ⟨fun _ => ⟨fun q => absurd q c6, fun _ => ⟨fun q => absurd q c7, fun _ => ⟨Or.inl rfl, h10 c1 c2 c3 c4 c5 c6 c7⟩⟩⟩, fun q => absurd c5 q⟩⟩⟩⟩⟩⟩⟩⟩⟩⟩⟩⟩⟩
            · exact ⟨44, ⟨rfl, ⟨fun q => absurd q c1, fun _ => ⟨rfl, ⟨⟨60, rfl, (h2 c1)⟩, ⟨rfl, ⟨⟨60, rfl, (h3 c1)⟩, ⟨rfl, ⟨⟨60, rfl, (h4 c1)⟩, ⟨fun q => absurd q c2, fun _ => ⟨fun q => absurd q c3, fun _ => ⟨fun q => absurd q c4, fun _ => ⟨fun q => absurd q c5, fun _ => ⟨Or.inl rfl, h11 c1 c2 c3 c4 c5⟩⟩⟩⟩⟩⟩⟩⟩⟩⟩⟩⟩⟩⟩
theorem sg_40_122 {x1 : Nat} {x2 : Int32} {x3 : Int32} {d4 : Option Value} {d6 : Option Value} {d8 : Option Value} {M : px_Mem} {Q : px_Po} (h_x1 : px_isR x1) (h1 : px_T 0 40 18 [some (.ref 24), some (.ref x1), some (.int x2), some (.int (x3 + 3)), d4, none, d6, none, d8, none] [] M Q) : px_T 0 40 122 [some (.ref 24), some (.ref x1), some (.int x2), some (.int x3), d4, none, d6, none, d8, none] [] M Q := by
  rcases h_x1 with rfl | rfl | rfl | rfl
  all_goals
    obtain ⟨n, h⟩ := h1
    exact ⟨n + 2, h⟩
theorem sg_41_0 {x1 : Int32} {x2 : Int32} {x3 : Int32} {M : px_Mem} {Q : px_Po} (h1 : ((M.1 24 3) < 20) → px_T 0 41 16 [some (.ref 24), some (.int x1), some (.int x2), some (.int x3), some (.int (M.1 24 3))] [] M Q) (h2 : (¬ ((M.1 24 3) < 20)) → Q none M) : px_T 0 41 0 [some (.ref 24), some (.int x1), some (.int x2), some (.int x3), none] [] M Q := by
  by_cases c1 : (M.1 24 3) < 20
  · obtain ⟨n, h⟩ := h1 c1
    exact ⟨n + 7, ⟨rfl, ⟨fun _ => ⟨rfl, h⟩, fun q => absurd c1 q⟩⟩⟩
  · exact ⟨5, ⟨rfl, ⟨fun q => absurd q c1, fun _ => ⟨rfl, h2 c1⟩⟩⟩⟩
theorem sg_41_16 {x1 : Int32} {x2 : Int32} {x3 : Int32} {x4 : Int32} {M : px_Mem} {Q : px_Po} (h1 : (x4 ≤ 0) → vp_in x4 20) (h2 : (x4 ≤ 0) → vp_in x4 20) (h3 : (x4 ≤ 0) → vp_in x4 20) (h4 : (x4 ≤ 0) → Q none (px_wI (px_wI (px_wI (px_wI M 25 x4.toNatClampNeg x1) 26 x4.toNatClampNeg x2) 27 x4.toNatClampNeg x3) 24 3 ((M.1 24 3) + 1))) (h5 : (¬ (x4 ≤ 0)) → vp_in (x4 - 1) 20) (h6 : (¬ (x4 ≤ 0)) → ((M.1 25 ((x4 - 1).toNatClampNeg)) ≤ x1) → vp_in x4 20) (h7 : (¬ (x4 ≤ 0)) → ((M.1 25 ((x4 - 1).toNatClampNeg)) ≤ x1) → vp_in x4 20) (h8 : (¬ (x4 ≤ 0)) → ((M.1 25 ((x4 - 1).toNatClampNeg)) ≤ x1) → vp_in x4 20) (h9 : (¬ (x4 ≤ 0)) → ((M.1 25 ((x4 - 1).toNatClampNeg)) ≤ x1) → Q none (px_wI (px_wI (px_wI (px_wI M 25 x4.toNatClampNeg x1) 26 x4.toNatClampNeg x2) 27 x4.toNatClampNeg x3) 24 3 ((M.1 24 3) + 1))) (h10 : (¬ (x4 ≤ 0)) → (¬ ((M.1 25 ((x4 - 1).toNatClampNeg)) ≤ x1)) → vp_in (x4 - 1) 20) (h11 : (¬ (x4 ≤ 0)) → (¬ ((M.1 25 ((x4 - 1).toNatClampNeg)) ≤ x1)) → vp_in x4 20) (h12 : (¬ (x4 ≤ 0)) → (¬ ((M.1 25 ((x4 - 1).toNatClampNeg)) ≤ x1)) → vp_in (x4 - 1) 20) (h13 : (¬ (x4 ≤ 0)) → (¬ ((M.1 25 ((x4 - 1).toNatClampNeg)) ≤ x1)) → vp_in x4 20) (h14 : (¬ (x4 ≤ 0)) → (¬ ((M.1 25 ((x4 - 1).toNatClampNeg)) ≤ x1)) → vp_in (x4 - 1) 20) (h15 : (¬ (x4 ≤ 0)) → (¬ ((M.1 25 ((x4 - 1).toNatClampNeg)) ≤ x1)) → vp_in x4 20) (h16 : (¬ (x4 ≤ 0)) → (¬ ((M.1 25 ((x4 - 1).toNatClampNeg)) ≤ x1)) → px_T 0 41 16 [some (.ref 24), some (.int x1), some (.int x2), some (.int x3), some (.int (x4 + (-1)))] [] (px_wI (px_wI (px_wI M 25 x4.toNatClampNeg (M.1 25 ((x4 - 1).toNatClampNeg))) 26 x4.toNatClampNeg (M.1 26 ((x4 - 1).toNatClampNeg))) 27 x4.toNatClampNeg (M.1 27 ((x4 - 1).toNatClampNeg))) Q) : px_T 0 41 16 [some (.ref 24), some (.int x1), some (.int x2), some (.int x3), some (.int x4)] [] M Q := by
  by_cases c1 : x4 ≤ 0
  · exact ⟨24, ⟨fun _ => ⟨rfl, ⟨⟨20, rfl, (h1 c1)⟩, ⟨rfl, ⟨⟨20, rfl, (h2 c1)⟩, ⟨rfl, ⟨⟨20, rfl, (h3 c1)⟩, ⟨rfl, ⟨rfl, ⟨rfl, h4 c1⟩⟩⟩⟩⟩⟩⟩⟩⟩, fun q => absurd c1 q⟩⟩
  · by_cases c2 : (M.1 25 ((x4 - 1).toNatClampNeg)) ≤ x1
    · exact ⟨32, ⟨fun q => absurd q c1, fun _ => ⟨rfl, ⟨Or.inl ⟨0, 20, Or.inl rfl, rfl, (h5 c1)⟩, ⟨fun _ => ⟨rfl, ⟨⟨20, rfl, (h6 c1 c2)⟩, ⟨rfl, ⟨⟨20, rfl, (h7 c1 c2)⟩, ⟨rfl, ⟨⟨20, rfl, (h8 c1 c2)⟩, ⟨rfl, ⟨rfl, ⟨rfl, h9 c1 c2⟩⟩⟩⟩⟩⟩⟩⟩⟩, fun q => absurd c2 q⟩⟩⟩⟩⟩
    · obtain ⟨n, h⟩ := h16 c1 c2
      exact ⟨n + 42, ⟨fun q => absurd q c1, fun _ => ⟨rfl, ⟨Or.inl ⟨0, 20, Or.inl rfl, rfl, (h5 c1)⟩, ⟨fun q => absurd q c2, fun _ => ⟨rfl, ⟨rfl, ⟨Or.inl ⟨0, 20, Or.inl rfl, rfl, (h10 c1 c2)⟩, ⟨⟨20, rfl, (h11 c1 c2)⟩, ⟨rfl, ⟨rfl, ⟨Or.inl ⟨0, 20, Or.inl rfl, rfl, (h12 c1 c2)⟩, ⟨⟨20, rfl, (h13 c1 c2)⟩, ⟨rfl, ⟨rfl, ⟨Or.inl ⟨0, 20, Or.inl rfl, rfl, (h14 c1 c2)⟩, ⟨⟨20, rfl, (h15 c1 c2)⟩, h⟩⟩⟩⟩⟩⟩⟩⟩⟩⟩⟩⟩⟩⟩⟩⟩⟩
theorem sg_42_0 {x1 : Int32} {x2 : Int32} {x3 : Nat} {M : px_Mem} {Q : px_Po} (h_x3 : px_isW x3) (h1 : px_T 0 42 3 [some (.ref 24), some (.int x1), some (.int x2), some (.ref x3), some (.int x1)] [] M Q) : px_T 0 42 0 [some (.ref 24), some (.int x1), some (.int x2), some (.ref x3), none] [] M Q := by
  rcases h_x3 with rfl | rfl
  all_goals
    obtain ⟨n, h⟩ := h1
    exact ⟨n + 2, h⟩
theorem sg_42_3 {d1 : Option Value} {x2 : Int32} {x3 : Nat} {x4 : Int32} {M : px_Mem} {Q : px_Po} (h_x3 : px_isW x3) (h1 : (x4 < 0) → Q (some (.int x4)) M) (h2 : (¬ (x4 < 0)) → ((M.1 24 3) ≤ x4) → Q (some (.int x4)) M) (h3 : (¬ (x4 < 0)) → (¬ ((M.1 24 3) ≤ x4)) → vp_in x4 20) (h4 : (¬ (x4 < 0)) → (¬ ((M.1 24 3) ≤ x4)) → ((M.1 25 x4.toNatClampNeg) = x2) → vp_in x4 20) (h5 : (¬ (x4 < 0)) → (¬ ((M.1 24 3) ≤ x4)) → ((M.1 25 x4.toNatClampNeg) = x2) → px_T 0 64 0 [some (.ref x3), some (.int (M.1 26 x4.toNatClampNeg))] [] M (fun r M1 => px_T 0 42 39 [some (.ref 24), d1, some (.int x2), some (.ref x3), some (.int x4)] (r.toList ++ []) M1 Q)) (h6 : (¬ (x4 < 0)) → (¬ ((M.1 24 3) ≤ x4)) → (¬ ((M.1 25 x4.toNatClampNeg) = x2)) → Q (some (.int x4)) M) : px_T 0 42 3 [some (.ref 24), d1, some (.int x2), some (.ref x3), some (.int x4)] [] M Q := by
  rcases h_x3 with rfl | rfl
  all_goals
    by_cases c1 : x4 < 0
    · exact ⟨4, ⟨fun _ => ⟨trivial, h1 c1⟩, fun q => absurd c1 q⟩⟩
    · by_cases c2 : (M.1 24 3) ≤ x4
      · exact ⟨8, ⟨fun q => absurd q c1, fun _ => ⟨rfl, ⟨fun _ => ⟨trivial, h2 c1 c2⟩, fun q => absurd c2 q⟩⟩⟩⟩
      · by_cases c3 : (M.1 25 x4.toNatClampNeg) = x2
        · obtain ⟨n, h⟩ := px_T_cl (k := 42) (pc := 36) (y := 64) (st := [.int (M.1 26 x4.toNatClampNeg), .ref x3]) rfl (h5 c1 c2 c3)
          exact ⟨n + 18, ⟨fun q => absurd q c1, fun _ => ⟨rfl, ⟨fun q => absurd q c2, fun _ => ⟨rfl, ⟨Or.inl ⟨0, 20, Or.inl rfl, rfl, (h3 c1 c2)⟩, ⟨fun q => absurd c3 q, fun _ => ⟨rfl, ⟨Or.inl ⟨0, 20, Or.inl rfl, rfl, (h4 c1 c2 c3)⟩, ⟨rfl, h⟩⟩⟩⟩⟩⟩⟩⟩⟩⟩
        · exact ⟨14, ⟨fun q => absurd q c1, fun _ => ⟨rfl, ⟨fun q => absurd q c2, fun _ => ⟨rfl, ⟨Or.inl ⟨0, 20, Or.inl rfl, rfl, (h3 c1 c2)⟩, ⟨fun _ => ⟨trivial, h6 c1 c2 c3⟩, fun q => absurd q c3⟩⟩⟩⟩⟩⟩⟩
theorem sg_42_39 {d1 : Option Value} {x2 : Int32} {x3 : Nat} {x4 : Int32} {s0 : Int32} {M : px_Mem} {Q : px_Po} (h_x3 : px_isW x3) (h1 : vp_in x4 20) (h2 : (s0 = (M.1 27 x4.toNatClampNeg)) → px_T 0 42 3 [some (.ref 24), d1, some (.int x2), some (.ref x3), some (.int (x4 + 1))] [] M Q) (h3 : (¬ (s0 = (M.1 27 x4.toNatClampNeg))) → Q (some (.int (-1))) M) : px_T 0 42 39 [some (.ref 24), d1, some (.int x2), some (.ref x3), some (.int x4)] [.int s0] M Q := by
  rcases h_x3 with rfl | rfl
  all_goals
    by_cases c1 : s0 = (M.1 27 x4.toNatClampNeg)
    · obtain ⟨n, h⟩ := h2 c1
      exact ⟨n + 7, ⟨rfl, ⟨Or.inl ⟨0, 20, Or.inl rfl, rfl, h1⟩, ⟨fun _ => h, fun q => absurd c1 q⟩⟩⟩⟩
    · exact ⟨7, ⟨rfl, ⟨Or.inl ⟨0, 20, Or.inl rfl, rfl, h1⟩, ⟨fun q => absurd q c1, fun _ => ⟨trivial, h3 c1⟩⟩⟩⟩⟩
theorem sg_43_0 {M : px_Mem} {Q : px_Po} (h1 : Q none (px_wI M 38 8 0)) : px_T 0 43 0 [some (.ref 38)] [] M Q := by
  exact ⟨4, ⟨rfl, ⟨rfl, h1⟩⟩⟩
theorem sg_44_0 {x1 : Nat} {M : px_Mem} {Q : px_Po} (h_x1 : px_isW x1) (h1 : px_T 0 340 0 [some (.ref 39), some (.int (-1)), none, none] [] M (fun r M1 => px_T 0 44 8 [some (.ref 38), some (.ref x1), none, none, none] (r.toList ++ []) M1 Q)) : px_T 0 44 0 [some (.ref 38), some (.ref x1), none, none, none] [] M Q := by
  rcases h_x1 with rfl | rfl
  all_goals
    obtain ⟨n, h⟩ := px_T_cl (k := 44) (pc := 5) (y := 340) (st := [.int (-1), .ref 39]) rfl (h1)
    exact ⟨n + 4, ⟨rfl, h⟩⟩
theorem sg_44_8 {x1 : Nat} {d2 : Option Value} {d3 : Option Value} {d4 : Option Value} {M : px_Mem} {Q : px_Po} (h_x1 : px_isW x1) (h1 : px_T 0 44 15 [some (.ref 38), some (.ref x1), some (.int 1), d3, d4] [] (px_wI M 38 4 0) Q) : px_T 0 44 8 [some (.ref 38), some (.ref x1), d2, d3, d4] [] M Q := by
  rcases h_x1 with rfl | rfl
  all_goals
    obtain ⟨n, h⟩ := h1
    exact ⟨n + 5, ⟨rfl, h⟩⟩
theorem sg_44_15 {x1 : Nat} {x2 : Int32} {d3 : Option Value} {d4 : Option Value} {M : px_Mem} {Q : px_Po} (h_x1 : px_isW x1) (h1 : ((15 : Int32) < x2) → Q none M) (h2 : (¬ ((15 : Int32) < x2)) → px_T 0 44 23 [some (.ref 38), some (.ref x1), some (.int x2), some (.int 0), d4] [] M Q) : px_T 0 44 15 [some (.ref 38), some (.ref x1), some (.int x2), d3, d4] [] M Q := by
  rcases h_x1 with rfl | rfl
  all_goals
    by_cases c1 : (15 : Int32) < x2
    · exact ⟨4, ⟨fun _ => ⟨rfl, h1 c1⟩, fun q => absurd c1 q⟩⟩
    · obtain ⟨n, h⟩ := h2 c1
      exact ⟨n + 5, ⟨fun q => absurd q c1, fun _ => h⟩⟩
theorem sg_44_23 {x1 : Nat} {x2 : Int32} {x3 : Int32} {d4 : Option Value} {M : px_Mem} {Q : px_Po} (h_x1 : px_isW x1) (h1 : ((8 : Int32) ≤ x3) → px_T 0 44 15 [some (.ref 38), some (.ref x1), some (.int (x2 + 1)), some (.int x3), d4] [] M Q) (h2 : (¬ ((8 : Int32) ≤ x3)) → px_T 0 68 0 [some (.ref x1), some (.int x2), some (.int x3), none] [] M (fun r M1 => px_T 0 44 35 [some (.ref 38), some (.ref x1), some (.int x2), some (.int x3), d4] (r.toList ++ []) M1 Q)) : px_T 0 44 23 [some (.ref 38), some (.ref x1), some (.int x2), some (.int x3), d4] [] M Q := by
  rcases h_x1 with rfl | rfl
  all_goals
    by_cases c1 : (8 : Int32) ≤ x3
    · obtain ⟨n, h⟩ := h1 c1
      exact ⟨n + 5, ⟨fun _ => h, fun q => absurd c1 q⟩⟩
    · obtain ⟨n, h⟩ := px_T_cl (k := 44) (pc := 32) (y := 68) (st := [.int x3, .int x2, .ref x1]) rfl (h2 c1)
      exact ⟨n + 7, ⟨fun q => absurd q c1, fun _ => ⟨rfl, h⟩⟩⟩
theorem sg_44_35 {x1 : Nat} {x2 : Int32} {x3 : Int32} {d4 : Option Value} {s0 : Int32} {M : px_Mem} {Q : px_Po} (h_x1 : px_isW x1) (h1 : (s0 < 0) → px_T 0 44 23 [some (.ref 38), some (.ref x1), some (.int x2), some (.int (x3 + 1)), some (.int s0)] [] M Q) (h2 : (¬ (s0 < 0)) → ((200 : Int32) ≤ s0) → px_T 0 44 23 [some (.ref 38), some (.ref x1), some (.int x2), some (.int (x3 + 1)), some (.int s0)] [] M Q) (h3 : (¬ (s0 < 0)) → (¬ ((200 : Int32) ≤ s0)) → vp_in s0 200) (h4 : (¬ (s0 < 0)) → (¬ ((200 : Int32) ≤ s0)) → ((0 : Int32) ≤ (M.1 39 s0.toNatClampNeg)) → px_T 0 44 23 [some (.ref 38), some (.ref x1), some (.int x2), some (.int (x3 + 1)), some (.int s0)] [] M Q) (h5 : (¬ (s0 < 0)) → (¬ ((200 : Int32) ≤ s0)) → (¬ ((0 : Int32) ≤ (M.1 39 s0.toNatClampNeg))) → vp_in s0 200) (h6 : (¬ (s0 < 0)) → (¬ ((200 : Int32) ≤ s0)) → (¬ ((0 : Int32) ≤ (M.1 39 s0.toNatClampNeg))) → vp_in (M.1 38 4) 120) (h7 : (¬ (s0 < 0)) → (¬ ((200 : Int32) ≤ s0)) → (¬ ((0 : Int32) ≤ (M.1 39 s0.toNatClampNeg))) → px_T 0 44 23 [some (.ref 38), some (.ref x1), some (.int x2), some (.int (x3 + 1)), some (.int s0)] [] (px_wI (px_wI (px_wI M 39 s0.toNatClampNeg (M.1 38 4)) 40 ((M.1 38 4).toNatClampNeg) s0) 38 4 ((M.1 38 4) + 1)) Q) : px_T 0 44 35 [some (.ref 38), some (.ref x1), some (.int x2), some (.int x3), d4] [.int s0] M Q := by
  rcases h_x1 with rfl | rfl
  all_goals
    by_cases c1 : s0 < 0
    · obtain ⟨n, h⟩ := h1 c1
      exact ⟨n + 5, ⟨fun _ => h, fun q => absurd c1 q⟩⟩
    · by_cases c2 : (200 : Int32) ≤ s0
      · obtain ⟨n, h⟩ := h2 c1 c2
        exact ⟨n + 8, ⟨fun q => absurd q c1, fun _ => ⟨fun _ => h, fun q => absurd c2 q⟩⟩⟩
      · by_cases c3 : (0 : Int32) ≤ (M.1 39 s0.toNatClampNeg)
        · obtain ⟨n, h⟩ := h4 c1 c2 c3
          exact ⟨n + 13, ⟨fun q => absurd q c1, fun _ => ⟨fun q => absurd q c2, fun _ => ⟨rfl, ⟨Or.inl ⟨0, 200, Or.inl rfl, rfl, (h3 c1 c2)⟩, ⟨fun _ => h, fun q => absurd c3 q⟩⟩⟩⟩⟩⟩
        · obtain ⟨n, h⟩ := h7 c1 c2 c3
          exact ⟨n + 31, ⟨fun q => absurd q c1, fun _ => ⟨fun q => absurd q c2, fun _ => ⟨rfl, ⟨Or.inl ⟨0, 200, Or.inl rfl, rfl, (h3 c1 c2)⟩, ⟨fun q => absurd q c3, fun _ => ⟨rfl, ⟨rfl, ⟨⟨200, rfl, (h5 c1 c2 c3)⟩, ⟨rfl, ⟨rfl, ⟨⟨120, rfl, (h6 c1 c2 c3)⟩, ⟨rfl, ⟨rfl, h⟩⟩⟩⟩⟩⟩⟩⟩⟩⟩⟩⟩⟩⟩
theorem sg_45_0 {x1 : Int32} {M : px_Mem} {Q : px_Po} (h1 : (x1 < 0) → Q (some (.int (-1))) M) (h2 : (¬ (x1 < 0)) → ((200 : Int32) ≤ x1) → Q (some (.int (-1))) M) (h3 : (¬ (x1 < 0)) → (¬ ((200 : Int32) ≤ x1)) → vp_in x1 200) (h4 : (¬ (x1 < 0)) → (¬ ((200 : Int32) ≤ x1)) → Q (some (.int (M.1 39 x1.toNatClampNeg))) M) : px_T 0 45 0 [some (.ref 38), some (.int x1)] [] M Q := by
  by_cases c1 : x1 < 0
  · exact ⟨4, ⟨fun _ => ⟨trivial, h1 c1⟩, fun q => absurd c1 q⟩⟩
  · by_cases c2 : (200 : Int32) ≤ x1
    · exact ⟨7, ⟨fun q => absurd q c1, fun _ => ⟨fun _ => ⟨trivial, h2 c1 c2⟩, fun q => absurd c2 q⟩⟩⟩
    · exact ⟨11, ⟨fun q => absurd q c1, fun _ => ⟨fun q => absurd q c2, fun _ => ⟨rfl, ⟨Or.inl ⟨0, 200, Or.inl rfl, rfl, (h3 c1 c2)⟩, ⟨trivial, h4 c1 c2⟩⟩⟩⟩⟩⟩
theorem sg_46_0 {x1 : Int32} {M : px_Mem} {Q : px_Po} (h1 : (x1 < 0) → Q (some (.int (-1))) M) (h2 : (¬ (x1 < 0)) → ((71 : Int32) ≤ x1) → Q (some (.int (-1))) M) (h3 : (¬ (x1 < 0)) → (¬ ((71 : Int32) ≤ x1)) → vp_in x1 71) (h4 : (¬ (x1 < 0)) → (¬ ((71 : Int32) ≤ x1)) → Q (some (.int (M.1 42 x1.toNatClampNeg))) M) : px_T 0 46 0 [some (.ref 38), some (.int x1)] [] M Q := by
  by_cases c1 : x1 < 0
  · exact ⟨4, ⟨fun _ => ⟨trivial, h1 c1⟩, fun q => absurd c1 q⟩⟩
  · by_cases c2 : (71 : Int32) ≤ x1
    · exact ⟨9, ⟨fun q => absurd q c1, fun _ => ⟨rfl, (Or.inl ⟨0, 71, rfl, (by decide), ⟨fun _ => ⟨trivial, h2 c1 c2⟩, fun q => absurd c2 q⟩⟩)⟩⟩⟩
    · exact ⟨13, ⟨fun q => absurd q c1, fun _ => ⟨rfl, (Or.inl ⟨0, 71, rfl, (by decide), ⟨fun q => absurd q c2, fun _ => ⟨rfl, ⟨Or.inl ⟨0, 71, Or.inl rfl, rfl, (h3 c1 c2)⟩, ⟨trivial, h4 c1 c2⟩⟩⟩⟩⟩)⟩⟩⟩
theorem sg_47_0 {M : px_Mem} {Q : px_Po} (h1 : px_T 0 340 0 [some (.ref 43), some (.int 0), none, none] [] M (fun r M1 => px_T 0 47 8 [some (.ref 38), none, none] (r.toList ++ []) M1 Q)) : px_T 0 47 0 [some (.ref 38), none, none] [] M Q := by
  obtain ⟨n, h⟩ := px_T_cl (k := 47) (pc := 5) (y := 340) (st := [.int 0, .ref 43]) rfl (h1)
  exact ⟨n + 4, ⟨rfl, h⟩⟩
theorem sg_47_8 {d1 : Option Value} {d2 : Option Value} {M : px_Mem} {Q : px_Po} (h1 : px_T 0 47 10 [some (.ref 38), some (.int 0), d2] [] M Q) : px_T 0 47 8 [some (.ref 38), d1, d2] [] M Q := by
  obtain ⟨n, h⟩ := h1
  exact ⟨n + 2, h⟩
theorem sg_47_10 {x1 : Int32} {d2 : Option Value} {M : px_Mem} {Q : px_Po} (h1 : ((M.1 38 8) ≤ x1) → px_T 0 47 43 [some (.ref 38), some (.int 0), some (.int 1)] [] M Q) (h2 : (¬ ((M.1 38 8) ≤ x1)) → vp_in x1 71) (h3 : (¬ ((M.1 38 8) ≤ x1)) → vp_in (M.1 42 x1.toNatClampNeg) 71) (h4 : (¬ ((M.1 38 8) ≤ x1)) → vp_in (M.1 42 x1.toNatClampNeg) 71) (h5 : (¬ ((M.1 38 8) ≤ x1)) → px_T 0 47 10 [some (.ref 38), some (.int (x1 + 1)), d2] [] (px_wI M 43 ((M.1 42 x1.toNatClampNeg).toNatClampNeg) ((M.1 43 ((M.1 42 x1.toNatClampNeg).toNatClampNeg)) + 1)) Q) : px_T 0 47 10 [some (.ref 38), some (.int x1), d2] [] M Q := by
  by_cases c1 : (M.1 38 8) ≤ x1
  · obtain ⟨n, h⟩ := h1 c1
    exact ⟨n + 8, ⟨rfl, ⟨fun _ => h, fun q => absurd c1 q⟩⟩⟩
  · obtain ⟨n, h⟩ := h5 c1
    exact ⟨n + 17, ⟨rfl, ⟨fun q => absurd q c1, fun _ => ⟨rfl, ⟨rfl, ⟨Or.inl ⟨0, 71, Or.inl rfl, rfl, (h2 c1)⟩, ⟨Or.inl ⟨0, 71, Or.inl rfl, rfl, (h3 c1)⟩, ⟨⟨71, rfl, (h4 c1)⟩, h⟩⟩⟩⟩⟩⟩⟩⟩
theorem sg_47_43 {x1 : Int32} {x2 : Int32} {M : px_Mem} {Q : px_Po} (h1 : ((M.1 38 8) ≤ x2) → Q (some (.int x1)) M) (h2 : (¬ ((M.1 38 8) ≤ x2)) → vp_in x2 71) (h3 : (¬ ((M.1 38 8) ≤ x2)) → vp_in x1 71) (h4 : (¬ ((M.1 38 8) ≤ x2)) → ((M.1 43 x2.toNatClampNeg) ≤ (M.1 43 x1.toNatClampNeg)) → px_T 0 47 43 [some (.ref 38), some (.int x1), some (.int (x2 + 1))] [] M Q) (h5 : (¬ ((M.1 38 8) ≤ x2)) → (¬ ((M.1 43 x2.toNatClampNeg) ≤ (M.1 43 x1.toNatClampNeg))) → px_T 0 47 43 [some (.ref 38), some (.int x2), some (.int (x2 + 1))] [] M Q) : px_T 0 47 43 [some (.ref 38), some (.int x1), some (.int x2)] [] M Q := by
  by_cases c1 : (M.1 38 8) ≤ x2
  · exact ⟨6, ⟨rfl, ⟨fun _ => ⟨trivial, h1 c1⟩, fun q => absurd c1 q⟩⟩⟩
  · by_cases c2 : (M.1 43 x2.toNatClampNeg) ≤ (M.1 43 x1.toNatClampNeg)
    · obtain ⟨n, h⟩ := h4 c1 c2
      exact ⟨n + 15, ⟨rfl, ⟨fun q => absurd q c1, fun _ => ⟨rfl, ⟨Or.inl ⟨0, 71, Or.inl rfl, rfl, (h2 c1)⟩, ⟨rfl, ⟨Or.inl ⟨0, 71, Or.inl rfl, rfl, (h3 c1)⟩, ⟨fun _ => h, fun q => absurd c2 q⟩⟩⟩⟩⟩⟩⟩⟩
    · obtain ⟨n, h⟩ := h5 c1 c2
      exact ⟨n + 17, ⟨rfl, ⟨fun q => absurd q c1, fun _ => ⟨rfl, ⟨Or.inl ⟨0, 71, Or.inl rfl, rfl, (h2 c1)⟩, ⟨rfl, ⟨Or.inl ⟨0, 71, Or.inl rfl, rfl, (h3 c1)⟩, ⟨fun q => absurd q c2, fun _ => h⟩⟩⟩⟩⟩⟩⟩⟩
theorem sg_48_0 {M : px_Mem} {Q : px_Po} (h1 : px_T 0 53 0 [some (.ref 4)] [] M (fun r M1 => px_T 0 48 11 [some (.ref 38), none] (r.toList ++ [.int (M.1 38 8)]) M1 Q)) : px_T 0 48 0 [some (.ref 38), none] [] M Q := by
  obtain ⟨n, h⟩ := px_T_cl (k := 48) (pc := 8) (y := 53) (st := [.ref 4, .int (M.1 38 8)]) rfl (h1)
  exact ⟨n + 5, ⟨rfl, ⟨rfl, ⟨rfl, h⟩⟩⟩⟩
theorem sg_48_11 {d1 : Option Value} {s0 : Int32} {s1 : Int32} {M : px_Mem} {Q : px_Po} (h1 : (s0 < s1) → Q none M) (h2 : (¬ (s0 < s1)) → ((70 : Int32) < (M.1 38 8)) → Q none M) (h3 : (¬ (s0 < s1)) → (¬ ((70 : Int32) < (M.1 38 8))) → px_T 0 11 0 [some (.ref 28), some (.int (M.1 38 8))] [] M (fun r M1 => px_T 0 48 35 [some (.ref 38), d1] (r.toList ++ [.ref 38]) M1 Q)) : px_T 0 48 11 [some (.ref 38), d1] [.int s0, .int s1] M Q := by
  by_cases c1 : s0 < s1
  · exact ⟨2, ⟨fun _ => ⟨rfl, h1 c1⟩, fun q => absurd c1 q⟩⟩
  · by_cases c2 : (70 : Int32) < (M.1 38 8)
    · exact ⟨6, ⟨fun q => absurd q c1, fun _ => ⟨rfl, ⟨fun _ => ⟨rfl, h2 c1 c2⟩, fun q => absurd c2 q⟩⟩⟩⟩
    · obtain ⟨n, h⟩ := px_T_cl (k := 48) (pc := 32) (y := 11) (st := [.int (M.1 38 8), .ref 28, .ref 38]) rfl (h3 c1 c2)
      exact ⟨n + 11, ⟨fun q => absurd q c1, fun _ => ⟨rfl, ⟨fun q => absurd q c2, fun _ => ⟨rfl, ⟨rfl, ⟨rfl, h⟩⟩⟩⟩⟩⟩⟩
theorem sg_48_35 {d1 : Option Value} {s0 : Nat} {M : px_Mem} {Q : px_Po} (h_s0 : px_isW s0) (h1 : vp_in (M.1 38 8) 71) (h2 : px_T 0 50 0 [some (.ref 38), some (.ref s0), some (.ref (px_rf 41 ((M.1 38 8).toNatClampNeg))), none] [] M (fun r M1 => px_T 0 48 47 [some (.ref 38), d1] (r.toList ++ []) M1 Q)) : px_T 0 48 35 [some (.ref 38), d1] [.ref s0, .ref 38] M Q := by
  rcases h_s0 with rfl | rfl
  all_goals
    obtain ⟨n, h⟩ := px_T_cl (k := 48) (pc := 44) (y := 50) (st := [.ref (px_rf 41 ((M.1 38 8).toNatClampNeg)), .ref s0, .ref 38]) rfl (h2)
    exact ⟨n + 6, ⟨rfl, ⟨rfl, ⟨⟨6, 71, Or.inr (Or.inr rfl), rfl, h1⟩, ⟨rfl, h⟩⟩⟩⟩⟩
theorem sg_48_47 {d1 : Option Value} {M : px_Mem} {Q : px_Po} (h1 : px_T 0 48 49 [some (.ref 38), some (.int 0)] [] M Q) : px_T 0 48 47 [some (.ref 38), d1] [] M Q := by
  obtain ⟨n, h⟩ := h1
  exact ⟨n + 2, h⟩
theorem sg_48_49 {x1 : Int32} {M : px_Mem} {Q : px_Po} (h1 : ((M.1 38 8) ≤ x1) → vp_in (M.1 38 8) 71) (h2 : ((M.1 38 8) ≤ x1) → px_T 0 48 0 [some (.ref 38), some (.int x1)] [] (px_wI (px_wI M 42 ((M.1 38 8).toNatClampNeg) x1) 38 8 ((M.1 38 8) + 1)) Q) (h3 : (¬ ((M.1 38 8) ≤ x1)) → vp_in x1 71) (h4 : (¬ ((M.1 38 8) ≤ x1)) → ((M.1 42 x1.toNatClampNeg) = x1) → vp_in x1 71) (h5 : (¬ ((M.1 38 8) ≤ x1)) → ((M.1 42 x1.toNatClampNeg) = x1) → vp_in (M.1 38 8) 71) (h6 : (¬ ((M.1 38 8) ≤ x1)) → ((M.1 42 x1.toNatClampNeg) = x1) → px_T 0 49 0 [some (.ref (px_rf 41 x1.toNatClampNeg)), some (.ref (px_rf 41 ((M.1 38 8).toNatClampNeg))), none] [] M (fun r M1 => px_T 0 48 85 [some (.ref 38), some (.int x1)] (r.toList ++ []) M1 Q)) (h7 : (¬ ((M.1 38 8) ≤ x1)) → (¬ ((M.1 42 x1.toNatClampNeg) = x1)) → px_T 0 48 49 [some (.ref 38), some (.int (x1 + 1))] [] M Q) : px_T 0 48 49 [some (.ref 38), some (.int x1)] [] M Q := by
  by_cases c1 : (M.1 38 8) ≤ x1
  · obtain ⟨n, h⟩ := h2 c1
    exact ⟨n + 17, ⟨rfl, ⟨fun _ => ⟨rfl, ⟨rfl, ⟨⟨71, rfl, (h1 c1)⟩, ⟨rfl, ⟨rfl, h⟩⟩⟩⟩⟩, fun q => absurd c1 q⟩⟩⟩
  · by_cases c2 : (M.1 42 x1.toNatClampNeg) = x1
    · obtain ⟨n, h⟩ := px_T_cl (k := 48) (pc := 82) (y := 49) (st := [.ref (px_rf 41 ((M.1 38 8).toNatClampNeg)), .ref (px_rf 41 x1.toNatClampNeg)]) rfl (h6 c1 c2)
      exact ⟨n + 20, ⟨rfl, ⟨fun q => absurd q c1, fun _ => ⟨rfl, ⟨Or.inl ⟨0, 71, Or.inl rfl, rfl, (h3 c1)⟩, ⟨fun q => absurd c2 q, fun _ => ⟨rfl, ⟨⟨6, 71, Or.inr (Or.inr rfl), rfl, (h4 c1 c2)⟩, ⟨rfl, ⟨rfl, ⟨⟨6, 71, Or.inr (Or.inr rfl), rfl, (h5 c1 c2)⟩, h⟩⟩⟩⟩⟩⟩⟩⟩⟩⟩⟩
    · obtain ⟨n, h⟩ := h7 c1 c2
      exact ⟨n + 12, ⟨rfl, ⟨fun q => absurd q c1, fun _ => ⟨rfl, ⟨Or.inl ⟨0, 71, Or.inl rfl, rfl, (h3 c1)⟩, ⟨fun _ => h, fun q => absurd q c2⟩⟩⟩⟩⟩⟩
theorem sg_48_85 {x1 : Int32} {s0 : Int32} {M : px_Mem} {Q : px_Po} (h1 : (s0 = 0) → px_T 0 48 49 [some (.ref 38), some (.int (x1 + 1))] [] M Q) (h2 : (¬ (s0 = 0)) → vp_in (M.1 38 8) 71) (h3 : (¬ (s0 = 0)) → px_T 0 48 0 [some (.ref 38), some (.int x1)] [] (px_wI (px_wI M 42 ((M.1 38 8).toNatClampNeg) x1) 38 8 ((M.1 38 8) + 1)) Q) : px_T 0 48 85 [some (.ref 38), some (.int x1)] [.int s0] M Q := by
  by_cases c1 : s0 = 0
  · obtain ⟨n, h⟩ := h1 c1
    exact ⟨n + 3, ⟨fun q => absurd c1 q, fun _ => h⟩⟩
  · obtain ⟨n, h⟩ := h3 c1
    exact ⟨n + 14, ⟨fun _ => ⟨rfl, ⟨rfl, ⟨⟨71, rfl, (h2 c1)⟩, ⟨rfl, ⟨rfl, h⟩⟩⟩⟩⟩, fun q => absurd q c1⟩⟩
theorem sg_49_0 {x0 : Nat} {x1 : Nat} {M : px_Mem} {Q : px_Po} (h1 : px_T 0 49 2 [some (.ref x0), some (.ref x1), some (.int 0)] [] M Q) : px_T 0 49 0 [some (.ref x0), some (.ref x1), none] [] M Q := by
  obtain ⟨n, h⟩ := h1
  exact ⟨n + 2, h⟩
theorem sg_49_2 {x0 : Nat} {x1 : Nat} {x2 : Int32} {M : px_Mem} {Q : px_Po} (h1 : ((45 : Int32) ≤ x2) → Q (some (.int 1)) M) (h2 : (¬ ((45 : Int32) ≤ x2)) → px_at 0 1 x0 x2) (h3 : (¬ ((45 : Int32) ≤ x2)) → px_at 0 1 x1 x2) (h4 : (¬ ((45 : Int32) ≤ x2)) → ((lg_cmp (M.2 x0 x2.toNatClampNeg) (M.2 x1 x2.toNatClampNeg)) = 0) → px_T 0 49 2 [some (.ref x0), some (.ref x1), some (.int (x2 + 1))] [] M Q) (h5 : (¬ ((45 : Int32) ≤ x2)) → (¬ ((lg_cmp (M.2 x0 x2.toNatClampNeg) (M.2 x1 x2.toNatClampNeg)) = 0)) → Q (some (.int 0)) M) : px_T 0 49 2 [some (.ref x0), some (.ref x1), some (.int x2)] [] M Q := by
  by_cases c1 : (45 : Int32) ≤ x2
  · exact ⟨5, ⟨fun _ => ⟨Or.inr rfl, h1 c1⟩, fun q => absurd c1 q⟩⟩
  · by_cases c2 : (lg_cmp (M.2 x0 x2.toNatClampNeg) (M.2 x1 x2.toNatClampNeg)) = 0
    · obtain ⟨n, h⟩ := h4 c1 c2
      exact ⟨n + 13, ⟨fun q => absurd q c1, fun _ => ⟨(h2 c1), ⟨(h3 c1), ⟨fun _ => h, fun q => absurd c2 q⟩⟩⟩⟩⟩
    · exact ⟨13, ⟨fun q => absurd q c1, fun _ => ⟨(h2 c1), ⟨(h3 c1), ⟨fun q => absurd q c2, fun _ => ⟨Or.inl rfl, h5 c1 c2⟩⟩⟩⟩⟩⟩
theorem sg_50_0 {x1 : Nat} {x2 : Nat} {M : px_Mem} {Q : px_Po} (h_x1 : px_isW x1) (h1 : px_T 0 44 0 [some (.ref 38), some (.ref x1), none, none, none] [] M (fun r M1 => px_T 0 50 5 [some (.ref 38), some (.ref x1), some (.ref x2), none] (r.toList ++ []) M1 Q)) : px_T 0 50 0 [some (.ref 38), some (.ref x1), some (.ref x2), none] [] M Q := by
  rcases h_x1 with rfl | rfl
  all_goals
    obtain ⟨n, h⟩ := px_T_cl (k := 50) (pc := 2) (y := 44) (st := [.ref x1, .ref 38]) rfl (h1)
    exact ⟨n + 3, ⟨rfl, h⟩⟩
theorem sg_50_5 {x1 : Nat} {x2 : Nat} {d3 : Option Value} {M : px_Mem} {Q : px_Po} (h_x1 : px_isW x1) (h1 : px_T 0 339 0 [some (.ref x2), some (.long 0), none, none, none] [] M (fun r M1 => px_T 0 50 10 [some (.ref 38), some (.ref x1), some (.ref x2), d3] (r.toList ++ []) M1 Q)) : px_T 0 50 5 [some (.ref 38), some (.ref x1), some (.ref x2), d3] [] M Q := by
  rcases h_x1 with rfl | rfl
  all_goals
    obtain ⟨n, h⟩ := px_T_cl (k := 50) (pc := 7) (y := 339) (st := [.long 0, .ref x2]) rfl (h1)
    exact ⟨n + 3, h⟩
theorem sg_50_10 {x1 : Nat} {x2 : Nat} {d3 : Option Value} {M : px_Mem} {Q : px_Po} (h_x1 : px_isW x1) (h1 : px_T 0 50 12 [some (.ref 38), some (.ref x1), some (.ref x2), some (.int 1)] [] M Q) : px_T 0 50 10 [some (.ref 38), some (.ref x1), some (.ref x2), d3] [] M Q := by
  rcases h_x1 with rfl | rfl
  all_goals
    obtain ⟨n, h⟩ := h1
    exact ⟨n + 2, h⟩
theorem sg_50_12 {x1 : Nat} {x2 : Nat} {x3 : Int32} {M : px_Mem} {Q : px_Po} (h_x1 : px_isW x1) (h1 : ((15 : Int32) < x3) → px_T 0 50 45 [some (.ref 38), some (.ref x1), some (.ref x2), some (.int 0)] [] M Q) (h2 : (¬ ((15 : Int32) < x3)) → px_T 0 63 0 [some (.ref x1), some (.int x3)] [] M (fun r M1 => px_T 0 50 23 [some (.ref 38), some (.ref x1), some (.ref x2), some (.int x3)] (r.toList ++ []) M1 Q)) : px_T 0 50 12 [some (.ref 38), some (.ref x1), some (.ref x2), some (.int x3)] [] M Q := by
  rcases h_x1 with rfl | rfl
  all_goals
    by_cases c1 : (15 : Int32) < x3
    · obtain ⟨n, h⟩ := h1 c1
      exact ⟨n + 5, ⟨fun _ => h, fun q => absurd c1 q⟩⟩
    · obtain ⟨n, h⟩ := px_T_cl (k := 50) (pc := 20) (y := 63) (st := [.int x3, .ref x1]) rfl (h2 c1)
      exact ⟨n + 6, ⟨fun q => absurd q c1, fun _ => ⟨rfl, h⟩⟩⟩
theorem sg_50_45 {x1 : Nat} {x2 : Nat} {x3 : Int32} {M : px_Mem} {Q : px_Po} (h_x1 : px_isW x1) (h1 : ((M.1 38 4) ≤ x3) → Q none M) (h2 : (¬ ((M.1 38 4) ≤ x3)) → px_at 0 1 x2 (15 + (x3 / 4))) (h3 : (¬ ((M.1 38 4) ≤ x3)) → vp_in x3 120) (h4 : (¬ ((M.1 38 4) ≤ x3)) → px_T 0 52 0 [some (.ref 38), some (.ref x1), some (.int (M.1 40 x3.toNatClampNeg)), none, none, none] [] M (fun r M1 => px_T 0 50 73 [some (.ref 38), some (.ref x1), some (.ref x2), some (.int x3)] (r.toList ++ [.long (M.2 x2 ((15 + (x3 / 4)).toNatClampNeg)), .int (15 + (x3 / 4)), .ref x2]) M1 Q)) : px_T 0 50 45 [some (.ref 38), some (.ref x1), some (.ref x2), some (.int x3)] [] M Q := by
  rcases h_x1 with rfl | rfl
  all_goals
    by_cases c1 : (M.1 38 4) ≤ x3
    · exact ⟨5, ⟨rfl, ⟨fun _ => ⟨rfl, h1 c1⟩, fun q => absurd c1 q⟩⟩⟩
    · obtain ⟨n, h⟩ := px_T_cl (k := 50) (pc := 70) (y := 52) (st := [.int (M.1 40 x3.toNatClampNeg), .ref x1, .ref 38, .long (M.2 x2 ((15 + (x3 / 4)).toNatClampNeg)), .int (15 + (x3 / 4)), .ref x2]) rfl (h4 c1)
      exact ⟨n + 19, ⟨rfl, ⟨fun q => absurd q c1, fun _ => ⟨(by decide), ⟨(h2 c1), ⟨rfl, ⟨Or.inl ⟨0, 120, Or.inl rfl, rfl, (h3 c1)⟩, ⟨rfl, h⟩⟩⟩⟩⟩⟩⟩⟩
theorem sg_50_23 {x1 : Nat} {x2 : Nat} {x3 : Int32} {s0 : Int32} {M : px_Mem} {Q : px_Po} (h_x1 : px_isW x1) (h1 : (s0 = 0) → px_T 0 50 12 [some (.ref 38), some (.ref x1), some (.ref x2), some (.int (x3 + 1))] [] M Q) (h2 : (¬ (s0 = 0)) → px_T 0 51 0 [some (.ref 38), some (.ref x1), some (.int x3), none, none, none] [] M (fun r M1 => px_T 0 50 36 [some (.ref 38), some (.ref x1), some (.ref x2), some (.int x3)] (r.toList ++ [.int (x3 - 1), .ref x2]) M1 Q)) : px_T 0 50 23 [some (.ref 38), some (.ref x1), some (.ref x2), some (.int x3)] [.int s0] M Q := by
  rcases h_x1 with rfl | rfl
  all_goals
    by_cases c1 : s0 = 0
    · obtain ⟨n, h⟩ := h1 c1
      exact ⟨n + 3, ⟨fun _ => h, fun q => absurd c1 q⟩⟩
    · obtain ⟨n, h⟩ := px_T_cl (k := 50) (pc := 33) (y := 51) (st := [.int x3, .ref x1, .ref 38, .int (x3 - 1), .ref x2]) rfl (h2 c1)
      exact ⟨n + 9, ⟨fun q => absurd q c1, fun _ => ⟨rfl, h⟩⟩⟩
theorem sg_50_73 {x1 : Nat} {x2 : Nat} {x3 : Int32} {s0 : Int64} {s1 : Int64} {s2 : Int32} {s3 : Nat} {M : px_Mem} {Q : px_Po} (h_x1 : px_isW x1) (h1 : px_at 0 1 s3 s2) (h2 : px_T 0 50 45 [some (.ref 38), some (.ref x1), some (.ref x2), some (.int (x3 + 1))] [] (px_wL M s3 s2.toNatClampNeg (s1 ||| (s0 <<< ((16 * (x3 - x3 / 4 * 4)).toInt64 &&& 63)))) Q) : px_T 0 50 73 [some (.ref 38), some (.ref x1), some (.ref x2), some (.int x3)] [.long s0, .long s1, .int s2, .ref s3] M Q := by
  rcases h_x1 with rfl | rfl
  all_goals
    obtain ⟨n, h⟩ := h2
    exact ⟨n + 10, ⟨(by decide), ⟨h1, h⟩⟩⟩
theorem sg_50_36 {x1 : Nat} {x2 : Nat} {x3 : Int32} {s0 : Int64} {s1 : Int32} {s2 : Nat} {M : px_Mem} {Q : px_Po} (h_x1 : px_isW x1) (h1 : px_at 0 1 s2 s1) (h2 : px_T 0 50 12 [some (.ref 38), some (.ref x1), some (.ref x2), some (.int (x3 + 1))] [] (px_wL M s2 s1.toNatClampNeg s0) Q) : px_T 0 50 36 [some (.ref 38), some (.ref x1), some (.ref x2), some (.int x3)] [.long s0, .int s1, .ref s2] M Q := by
  rcases h_x1 with rfl | rfl
  all_goals
    obtain ⟨n, h⟩ := h2
    exact ⟨n + 3, ⟨h1, h⟩⟩
theorem sg_51_0 {x1 : Nat} {x2 : Int32} {M : px_Mem} {Q : px_Po} (h_x1 : px_isW x1) (h1 : px_T 0 51 6 [some (.ref 38), some (.ref x1), some (.int x2), some (.long 0), none, some (.int 7)] [] M Q) : px_T 0 51 0 [some (.ref 38), some (.ref x1), some (.int x2), none, none, none] [] M Q := by
  rcases h_x1 with rfl | rfl
  all_goals
    obtain ⟨n, h⟩ := h1
    exact ⟨n + 4, h⟩
theorem sg_51_6 {x1 : Nat} {x2 : Int32} {x3 : Int64} {x5 : Int32} {M : px_Mem} {Q : px_Po} (h_x1 : px_isW x1) (h1 : (x5 < 0) → vp_in x2 16) (h2 : (x5 < 0) → vp_in x2 16) (h3 : (x5 < 0) → Q (some (.long (((x3 <<< ((8 : Int32).toInt64 &&& 63)) ||| (((M.1 (x1 + 2) x2.toNatClampNeg) <<< (4 &&& 31)).toInt64)) ||| ((M.1 (x1 + 1) x2.toNatClampNeg).toInt64)))) M) (h4 : (¬ (x5 < 0)) → px_T 0 68 0 [some (.ref x1), some (.int x2), some (.int x5), none] [] M (fun r M1 => px_T 0 51 23 [some (.ref 38), some (.ref x1), some (.int x2), some (.long x3), none, some (.int x5)] (r.toList ++ [.ref 38, .long (x3 <<< ((7 : Int32).toInt64 &&& 63))]) M1 Q)) : px_T 0 51 6 [some (.ref 38), some (.ref x1), some (.int x2), some (.long x3), none, some (.int x5)] [] M Q := by
  rcases h_x1 with rfl | rfl
  all_goals
    by_cases c1 : x5 < 0
    · exact ⟨20, ⟨fun _ => ⟨rfl, ⟨Or.inl ⟨0, 16, Or.inl rfl, rfl, (h1 c1)⟩, ⟨rfl, ⟨Or.inl ⟨0, 16, Or.inl rfl, rfl, (h2 c1)⟩, ⟨rfl, h3 c1⟩⟩⟩⟩⟩, fun q => absurd c1 q⟩⟩
    · obtain ⟨n, h⟩ := px_T_cl (k := 51) (pc := 20) (y := 68) (st := [.int x5, .int x2, .ref x1, .ref 38, .long (x3 <<< ((7 : Int32).toInt64 &&& 63))]) rfl (h4 c1)
      exact ⟨n + 10, ⟨fun q => absurd q c1, fun _ => ⟨rfl, h⟩⟩⟩
theorem sg_51_23 {x1 : Nat} {x2 : Int32} {d3 : Option Value} {x5 : Int32} {s0 : Int32} {s2 : Int64} {M : px_Mem} {Q : px_Po} (h_x1 : px_isW x1) (h1 : px_T 0 45 0 [some (.ref 38), some (.int s0)] [] M (fun r M1 => px_T 0 51 26 [some (.ref 38), some (.ref x1), some (.int x2), d3, none, some (.int x5)] (r.toList ++ [.long s2]) M1 Q)) : px_T 0 51 23 [some (.ref 38), some (.ref x1), some (.int x2), d3, none, some (.int x5)] [.int s0, .ref 38, .long s2] M Q := by
  rcases h_x1 with rfl | rfl
  all_goals
    obtain ⟨n, h⟩ := px_T_cl (k := 51) (pc := 23) (y := 45) (st := [.int s0, .ref 38, .long s2]) rfl (h1)
    exact ⟨n + 1, ⟨rfl, h⟩⟩
theorem sg_51_26 {x1 : Nat} {x2 : Int32} {d3 : Option Value} {d4 : Option Value} {x5 : Int32} {s0 : Int32} {s1 : Int64} {M : px_Mem} {Q : px_Po} (h_x1 : px_isW x1) (h1 : px_T 0 51 6 [some (.ref 38), some (.ref x1), some (.int x2), some (.long (s1 ||| ((s0 + 1).toInt64))), none, some (.int (x5 + (-1)))] [] M Q) : px_T 0 51 26 [some (.ref 38), some (.ref x1), some (.int x2), d3, d4, some (.int x5)] [.int s0, .long s1] M Q := by
  rcases h_x1 with rfl | rfl
  all_goals
    obtain ⟨n, h⟩ := h1
    exact ⟨n + 7, h⟩
theorem sg_52_0 {x1 : Nat} {x2 : Int32} {M : px_Mem} {Q : px_Po} (h_x1 : px_isW x1) (h1 : vp_in x2 200) (h2 : ((lg_cmp (((M.1 (x1 + 5) x2.toNatClampNeg) + 1).toInt64) 1) = 0) → Q (some (.long (((M.1 (x1 + 5) x2.toNatClampNeg) + 1).toInt64))) M) (h3 : (¬ ((lg_cmp (((M.1 (x1 + 5) x2.toNatClampNeg) + 1).toInt64) 1) = 0)) → px_T 0 72 0 [some (.ref x1), some (.int x2), none] [] M (fun r M1 => px_T 0 52 24 [some (.ref 38), some (.ref x1), some (.int x2), some (.long (((M.1 (x1 + 5) x2.toNatClampNeg) + 1).toInt64)), none, none] (r.toList ++ [.ref 38]) M1 Q)) : px_T 0 52 0 [some (.ref 38), some (.ref x1), some (.int x2), none, none, none] [] M Q := by
  rcases h_x1 with rfl | rfl
  all_goals
    by_cases c1 : (lg_cmp (((M.1 (x1 + 5) x2.toNatClampNeg) + 1).toInt64) 1) = 0
    · exact ⟨14, ⟨rfl, ⟨Or.inl ⟨0, 200, Or.inl rfl, rfl, h1⟩, ⟨fun q => absurd c1 q, fun _ => ⟨rfl, h2 c1⟩⟩⟩⟩⟩
    · obtain ⟨n, h⟩ := px_T_cl (k := 52) (pc := 21) (y := 72) (st := [.int x2, .ref x1, .ref 38]) rfl (h3 c1)
      exact ⟨n + 16, ⟨rfl, ⟨Or.inl ⟨0, 200, Or.inl rfl, rfl, h1⟩, ⟨fun _ => ⟨rfl, h⟩, fun q => absurd q c1⟩⟩⟩⟩
theorem sg_52_24 {d0 : Option Value} {x1 : Nat} {x2 : Int32} {x3 : Int64} {d5 : Option Value} {s0 : Int32} {M : px_Mem} {Q : px_Po} (h_x1 : px_isW x1) (h1 : px_T 0 45 0 [some (.ref 38), some (.int s0)] [] M (fun r M1 => px_T 0 52 27 [d0, some (.ref x1), some (.int x2), some (.long x3), none, d5] (r.toList ++ []) M1 Q)) : px_T 0 52 24 [d0, some (.ref x1), some (.int x2), some (.long x3), none, d5] [.int s0, .ref 38] M Q := by
  rcases h_x1 with rfl | rfl
  all_goals
    obtain ⟨n, h⟩ := px_T_cl (k := 52) (pc := 24) (y := 45) (st := [.int s0, .ref 38]) rfl (h1)
    exact ⟨n + 1, ⟨rfl, h⟩⟩
theorem sg_52_27 {d0 : Option Value} {x1 : Nat} {x2 : Int32} {x3 : Int64} {d5 : Option Value} {s0 : Int32} {M : px_Mem} {Q : px_Po} (h_x1 : px_isW x1) (h1 : px_T 0 70 0 [some (.ref x1), some (.int x2), none] [] M (fun r M1 => px_T 0 52 37 [d0, some (.ref x1), some (.int x2), some (.long x3), none, some (.int (s0 + 1))] (r.toList ++ [.long x3]) M1 Q)) : px_T 0 52 27 [d0, some (.ref x1), some (.int x2), some (.long x3), none, d5] [.int s0] M Q := by
  rcases h_x1 with rfl | rfl
  all_goals
    obtain ⟨n, h⟩ := px_T_cl (k := 52) (pc := 34) (y := 70) (st := [.int x2, .ref x1, .long x3]) rfl (h1)
    exact ⟨n + 7, ⟨rfl, h⟩⟩
theorem sg_52_37 {d0 : Option Value} {d1 : Option Value} {d2 : Option Value} {d3 : Option Value} {x5 : Int32} {s0 : Int32} {s1 : Int64} {M : px_Mem} {Q : px_Po} (h1 : Q (some (.long ((s1 ||| ((s0 <<< (2 &&& 31)).toInt64)) ||| ((x5 <<< (8 &&& 31)).toInt64)))) M) : px_T 0 52 37 [d0, d1, d2, d3, none, some (.int x5)] [.int s0, .long s1] M Q := by
  exact ⟨10, ⟨rfl, h1⟩⟩
theorem sg_53_0 {x0 : Nat} {M : px_Mem} {Q : px_Po} (h_x0 : px_isS x0) (h1 : Q (some (.int ((M.1 x0 4) + (M.1 x0 5)))) M) : px_T 0 53 0 [some (.ref x0)] [] M Q := by
  rcases h_x0 with rfl | rfl | rfl | rfl | rfl
  all_goals
    exact ⟨6, ⟨rfl, ⟨rfl, ⟨trivial, h1⟩⟩⟩⟩
theorem sg_54_0 {x0 : Nat} {x1 : Int32} {M : px_Mem} {Q : px_Po} (h_x0 : px_isS x0) (h1 : (x1 < 0) → Q (some (.int 0)) M) (h2 : (¬ (x1 < 0)) → ((70 : Int32) ≤ x1) → Q (some (.int 0)) M) (h3 : (¬ (x1 < 0)) → (¬ ((70 : Int32) ≤ x1)) → vp_in x1 70) (h4 : (¬ (x1 < 0)) → (¬ ((70 : Int32) ≤ x1)) → Q (some (.int (M.1 (x0 + 1) x1.toNatClampNeg))) M) : px_T 0 54 0 [some (.ref x0), some (.int x1)] [] M Q := by
  rcases h_x0 with rfl | rfl | rfl | rfl | rfl
  all_goals
    by_cases c1 : x1 < 0
    · exact ⟨4, ⟨fun _ => ⟨trivial, h1 c1⟩, fun q => absurd c1 q⟩⟩
    · by_cases c2 : (70 : Int32) ≤ x1
      · exact ⟨7, ⟨fun q => absurd q c1, fun _ => ⟨fun _ => ⟨trivial, h2 c1 c2⟩, fun q => absurd c2 q⟩⟩⟩
      · exact ⟨11, ⟨fun q => absurd q c1, fun _ => ⟨fun q => absurd q c2, fun _ => ⟨rfl, ⟨Or.inl ⟨0, 70, Or.inl rfl, rfl, (h3 c1 c2)⟩, ⟨trivial, h4 c1 c2⟩⟩⟩⟩⟩⟩
theorem sg_55_0 {x0 : Nat} {x1 : Int32} {M : px_Mem} {Q : px_Po} (h_x0 : px_isS x0) (h1 : px_T 0 53 0 [some (.ref x0)] [] M (fun r M1 => px_T 0 55 4 [some (.ref x0), some (.int x1)] (r.toList ++ []) M1 Q)) : px_T 0 55 0 [some (.ref x0), some (.int x1)] [] M Q := by
  rcases h_x0 with rfl | rfl | rfl | rfl | rfl
  all_goals
    obtain ⟨n, h⟩ := px_T_cl (k := 55) (pc := 1) (y := 53) (st := [.ref x0]) rfl (h1)
    exact ⟨n + 2, ⟨rfl, h⟩⟩
theorem sg_55_4 {x0 : Nat} {x1 : Int32} {s0 : Int32} {M : px_Mem} {Q : px_Po} (h_x0 : px_isS x0) (h1 : ((70 : Int32) ≤ s0) → Q none M) (h2 : (¬ ((70 : Int32) ≤ s0)) → px_T 0 53 0 [some (.ref x0)] [] M (fun r M1 => px_T 0 55 17 [some (.ref x0), some (.int x1)] (r.toList ++ [.ref (x0 + 1)]) M1 Q)) : px_T 0 55 4 [some (.ref x0), some (.int x1)] [.int s0] M Q := by
  rcases h_x0 with rfl | rfl | rfl | rfl | rfl
  all_goals
    by_cases c1 : (70 : Int32) ≤ s0
    · exact ⟨3, ⟨fun _ => ⟨rfl, h1 c1⟩, fun q => absurd c1 q⟩⟩
    · obtain ⟨n, h⟩ := px_T_cl (k := 55) (pc := 14) (y := 53) (st := [.ref x0, .ref (x0 + 1)]) rfl (h2 c1)
      exact ⟨n + 6, ⟨fun q => absurd q c1, fun _ => ⟨rfl, ⟨rfl, h⟩⟩⟩⟩
theorem sg_55_17 {d0 : Option Value} {x1 : Int32} {s0 : Int32} {s1 : Nat} {M : px_Mem} {Q : px_Po} (h1 : px_at 0 0 s1 s0) (h2 : Q none (px_wI M s1 s0.toNatClampNeg x1)) : px_T 0 55 17 [d0, some (.int x1)] [.int s0, .ref s1] M Q := by
  exact ⟨3, ⟨h1, ⟨rfl, h2⟩⟩⟩
theorem sg_56_0 {x0 : Nat} {M : px_Mem} {Q : px_Po} (h_x0 : px_isS x0) (h1 : Q none (px_wI (px_wI (px_wI (px_wI (px_wI M x0 1 0) x0 2 0) x0 3 0) x0 4 0) x0 5 0)) : px_T 0 56 0 [some (.ref x0)] [] M Q := by
  rcases h_x0 with rfl | rfl | rfl | rfl | rfl
  all_goals
    exact ⟨16, ⟨rfl, ⟨rfl, ⟨rfl, ⟨rfl, ⟨rfl, ⟨rfl, h1⟩⟩⟩⟩⟩⟩⟩
theorem sg_57_0 {x0 : Nat} {x1 : Nat} {M : px_Mem} {Q : px_Po} (h_x0 : px_isS x0) (h_x1 : px_isS x1) (h1 : Q none (px_wI (px_wI (px_wI (px_wI (px_wI (px_aI M (x0 + 1) (va_cpy (M.1 (x1 + 1)) (M.1 (x0 + 1)) 0 0 70)) x0 1 (M.1 x1 1)) x0 2 ((px_wI (px_aI M (x0 + 1) (va_cpy (M.1 (x1 + 1)) (M.1 (x0 + 1)) 0 0 70)) x0 1 (M.1 x1 1)).1 x1 2)) x0 3 ((px_wI (px_wI (px_aI M (x0 + 1) (va_cpy (M.1 (x1 + 1)) (M.1 (x0 + 1)) 0 0 70)) x0 1 (M.1 x1 1)) x0 2 ((px_wI (px_aI M (x0 + 1) (va_cpy (M.1 (x1 + 1)) (M.1 (x0 + 1)) 0 0 70)) x0 1 (M.1 x1 1)).1 x1 2)).1 x1 3)) x0 4 ((px_wI (px_wI (px_wI (px_aI M (x0 + 1) (va_cpy (M.1 (x1 + 1)) (M.1 (x0 + 1)) 0 0 70)) x0 1 (M.1 x1 1)) x0 2 ((px_wI (px_aI M (x0 + 1) (va_cpy (M.1 (x1 + 1)) (M.1 (x0 + 1)) 0 0 70)) x0 1 (M.1 x1 1)).1 x1 2)) x0 3 ((px_wI (px_wI (px_aI M (x0 + 1) (va_cpy (M.1 (x1 + 1)) (M.1 (x0 + 1)) 0 0 70)) x0 1 (M.1 x1 1)) x0 2 ((px_wI (px_aI M (x0 + 1) (va_cpy (M.1 (x1 + 1)) (M.1 (x0 + 1)) 0 0 70)) x0 1 (M.1 x1 1)).1 x1 2)).1 x1 3)).1 x1 4)) x0 5 ((px_wI (px_wI (px_wI (px_wI (px_aI M (x0 + 1) (va_cpy (M.1 (x1 + 1)) (M.1 (x0 + 1)) 0 0 70)) x0 1 (M.1 x1 1)) x0 2 ((px_wI (px_aI M (x0 + 1) (va_cpy (M.1 (x1 + 1)) (M.1 (x0 + 1)) 0 0 70)) x0 1 (M.1 x1 1)).1 x1 2)) x0 3 ((px_wI (px_wI (px_aI M (x0 + 1) (va_cpy (M.1 (x1 + 1)) (M.1 (x0 + 1)) 0 0 70)) x0 1 (M.1 x1 1)) x0 2 ((px_wI (px_aI M (x0 + 1) (va_cpy (M.1 (x1 + 1)) (M.1 (x0 + 1)) 0 0 70)) x0 1 (M.1 x1 1)).1 x1 2)).1 x1 3)) x0 4 ((px_wI (px_wI (px_wI (px_aI M (x0 + 1) (va_cpy (M.1 (x1 + 1)) (M.1 (x0 + 1)) 0 0 70)) x0 1 (M.1 x1 1)) x0 2 ((px_wI (px_aI M (x0 + 1) (va_cpy (M.1 (x1 + 1)) (M.1 (x0 + 1)) 0 0 70)) x0 1 (M.1 x1 1)).1 x1 2)) x0 3 ((px_wI (px_wI (px_aI M (x0 + 1) (va_cpy (M.1 (x1 + 1)) (M.1 (x0 + 1)) 0 0 70)) x0 1 (M.1 x1 1)) x0 2 ((px_wI (px_aI M (x0 + 1) (va_cpy (M.1 (x1 + 1)) (M.1 (x0 + 1)) 0 0 70)) x0 1 (M.1 x1 1)).1 x1 2)).1 x1 3)).1 x1 4)).1 x1 5))) : px_T 0 57 0 [some (.ref x0), some (.ref x1)] [] M Q := by
  rcases h_x0 with rfl | rfl | rfl | rfl | rfl
  rcases h_x1 with rfl | rfl | rfl | rfl | rfl
  all_goals
    exact ⟨29, ⟨rfl, ⟨rfl, ⟨(by decide), (by decide), (by decide), Or.inl ⟨⟨70, 70, rfl, rfl, (by decide), (by decide), (by decide), (by decide), (by decide)⟩, ⟨rfl, ⟨rfl, ⟨rfl, ⟨rfl, ⟨rfl, ⟨rfl, ⟨rfl, ⟨rfl, ⟨rfl, ⟨rfl, ⟨rfl, h1⟩⟩⟩⟩⟩⟩⟩⟩⟩⟩⟩⟩⟩⟩⟩⟩
theorem sg_58_0 {x1 : Int32} {M : px_Mem} {Q : px_Po} (h1 : px_T 0 58 3 [some (.ref 1), some (.int x1), some (.int 24)] [] M Q) : px_T 0 58 0 [some (.ref 1), some (.int x1), none] [] M Q := by
  obtain ⟨n, h⟩ := h1
  exact ⟨n + 2, h⟩
theorem sg_58_3 {x1 : Int32} {x2 : Int32} {M : px_Mem} {Q : px_Po} (h1 : (x2 < 0) → Q none M) (h2 : (¬ (x2 < 0)) → ((900 : Int32) ≤ (M.1 1 1)) → Q none M) (h3 : (¬ (x2 < 0)) → (¬ ((900 : Int32) ≤ (M.1 1 1))) → vp_in (M.1 1 1) 900) (h4 : (¬ (x2 < 0)) → (¬ ((900 : Int32) ≤ (M.1 1 1))) → px_T 0 58 3 [some (.ref 1), some (.int x1), some (.int (x2 + (-8)))] [] (px_wI (px_wI M 2 ((M.1 1 1).toNatClampNeg) (((x1.toUInt32 >>> (x2.toUInt32 &&& Int32.toUInt32 31)).toInt32) &&& 255)) 1 1 ((M.1 1 1) + 1)) Q) : px_T 0 58 3 [some (.ref 1), some (.int x1), some (.int x2)] [] M Q := by
  by_cases c1 : x2 < 0
  · exact ⟨3, ⟨fun _ => ⟨rfl, h1 c1⟩, fun q => absurd c1 q⟩⟩
  · by_cases c2 : (900 : Int32) ≤ (M.1 1 1)
    · exact ⟨7, ⟨fun q => absurd q c1, fun _ => ⟨rfl, ⟨fun _ => ⟨rfl, h2 c1 c2⟩, fun q => absurd c2 q⟩⟩⟩⟩
    · obtain ⟨n, h⟩ := h4 c1 c2
      exact ⟨n + 24, ⟨fun q => absurd q c1, fun _ => ⟨rfl, ⟨fun q => absurd q c2, fun _ => ⟨rfl, ⟨rfl, ⟨⟨900, rfl, (h3 c1 c2)⟩, ⟨rfl, ⟨rfl, h⟩⟩⟩⟩⟩⟩⟩⟩⟩
theorem sg_59_0 {x1 : Int32} {M : px_Mem} {Q : px_Po} (h1 : (x1 < 0) → Q (some (.int 32)) M) (h2 : (¬ (x1 < 0)) → ((M.1 1 1) ≤ x1) → Q (some (.int 32)) M) (h3 : (¬ (x1 < 0)) → (¬ ((M.1 1 1) ≤ x1)) → vp_in x1 900) (h4 : (¬ (x1 < 0)) → (¬ ((M.1 1 1) ≤ x1)) → Q (some (.int (M.1 2 x1.toNatClampNeg))) M) : px_T 0 59 0 [some (.ref 1), some (.int x1)] [] M Q := by
  by_cases c1 : x1 < 0
  · exact ⟨4, ⟨fun _ => ⟨trivial, h1 c1⟩, fun q => absurd c1 q⟩⟩
  · by_cases c2 : (M.1 1 1) ≤ x1
    · exact ⟨8, ⟨fun q => absurd q c1, fun _ => ⟨rfl, ⟨fun _ => ⟨trivial, h2 c1 c2⟩, fun q => absurd c2 q⟩⟩⟩⟩
    · exact ⟨12, ⟨fun q => absurd q c1, fun _ => ⟨rfl, ⟨fun q => absurd q c2, fun _ => ⟨rfl, ⟨Or.inl ⟨0, 900, Or.inl rfl, rfl, (h3 c1 c2)⟩, ⟨trivial, h4 c1 c2⟩⟩⟩⟩⟩⟩⟩
