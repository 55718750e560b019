theorem sg_0_0 {x0 : Int32} {x1 : Int32} {x2 : Int32} {x3 : Int32} {M : px_Mem} {Q : px_Po} (h1 : px_T 0 1 0 [some (.int x1), some (.int 1)] [] M (fun r M1 => px_T 0 0 6 [some (.int x0), some (.int x1), some (.int x2), some (.int x3)] (r.toList ++ [.int x0]) M1 Q)) : px_T 0 0 0 [some (.int x0), some (.int x1), some (.int x2), some (.int x3)] [] M Q := by
  obtain ⟨n, h⟩ := px_T_cl (k := 0) (pc := 3) (y := 1) (st := [.int 1, .int x1, .int x0]) rfl (h1)
  exact ⟨n + 4, h⟩
theorem sg_0_6 {d0 : Option Value} {d1 : Option Value} {x2 : Int32} {x3 : Int32} {s0 : Int32} {s1 : Int32} {M : px_Mem} {Q : px_Po} (h1 : px_T 0 1 0 [some (.int x2), some (.int 2)] [] M (fun r M1 => px_T 0 0 12 [d0, d1, some (.int x2), some (.int x3)] (r.toList ++ [.int (s1 ||| s0)]) M1 Q)) : px_T 0 0 6 [d0, d1, some (.int x2), some (.int x3)] [.int s0, .int s1] M Q := by
  obtain ⟨n, h⟩ := px_T_cl (k := 0) (pc := 9) (y := 1) (st := [.int 2, .int x2, .int (s1 ||| s0)]) rfl (h1)
  exact ⟨n + 4, h⟩
theorem sg_0_12 {d0 : Option Value} {d1 : Option Value} {d2 : Option Value} {x3 : Int32} {s0 : Int32} {s1 : Int32} {M : px_Mem} {Q : px_Po} (h1 : px_T 0 1 0 [some (.int x3), some (.int 3)] [] M (fun r M1 => px_T 0 0 18 [d0, d1, d2, some (.int x3)] (r.toList ++ [.int (s1 ||| s0)]) M1 Q)) : px_T 0 0 12 [d0, d1, d2, some (.int x3)] [.int s0, .int s1] M Q := by
  obtain ⟨n, h⟩ := px_T_cl (k := 0) (pc := 15) (y := 1) (st := [.int 3, .int x3, .int (s1 ||| s0)]) rfl (h1)
  exact ⟨n + 4, h⟩
theorem sg_0_18 {d0 : Option Value} {d1 : Option Value} {d2 : Option Value} {d3 : Option Value} {s0 : Int32} {s1 : Int32} {M : px_Mem} {Q : px_Po} (h1 : Q (some (.int (s1 ||| s0))) M) : px_T 0 0 18 [d0, d1, d2, d3] [.int s0, .int s1] M Q := by
  exact ⟨2, ⟨trivial, h1⟩⟩
theorem sg_1_0 {x0 : Int32} {x1 : Int32} {M : px_Mem} {Q : px_Po} (h1 : Q (some (.int (x0 <<< ((4 * x1) &&& 31)))) M) : px_T 0 1 0 [some (.int x0), some (.int x1)] [] M Q := by
  exact ⟨6, ⟨trivial, h1⟩⟩
theorem sg_2_0 {x0 : Int32} {M : px_Mem} {Q : px_Po} (h1 : Q (some (.int (x0 &&& 15))) M) : px_T 0 2 0 [some (.int x0)] [] M Q := by
  exact ⟨4, ⟨trivial, h1⟩⟩
theorem sg_3_0 {x0 : Int32} {x1 : Int32} {M : px_Mem} {Q : px_Po} (h1 : (x1 = 3) → Q (some (.int ((x0 >>> ((4 * x1) &&& 31)) &&& 31))) M) (h2 : (¬ (x1 = 3)) → Q (some (.int ((x0 >>> ((4 * x1) &&& 31)) &&& 15))) M) : px_T 0 3 0 [some (.int x0), some (.int x1)] [] M Q := by
  by_cases c1 : x1 = 3
  · exact ⟨12, ⟨fun q => absurd c1 q, fun _ => ⟨trivial, h1 c1⟩⟩⟩
  · exact ⟨11, ⟨fun _ => ⟨trivial, h2 c1⟩, fun q => absurd q c1⟩⟩
theorem sg_4_0 {x0 : Int32} {M : px_Mem} {Q : px_Po} (h1 : (x0 < 0) → Q (some (.int 0)) M) (h2 : (¬ (x0 < 0)) → ((10 : Int32) ≤ x0) → Q (some (.int 0)) M) (h3 : (¬ (x0 < 0)) → (¬ ((10 : Int32) ≤ x0)) → vp_in x0 10) (h4 : (¬ (x0 < 0)) → (¬ ((10 : Int32) ≤ x0)) → Q (some (.int (M.1 1001 x0.toNatClampNeg))) M) : px_T 0 4 0 [some (.int x0)] [] M Q := by
  by_cases c1 : x0 < 0
  · exact ⟨4, ⟨fun _ => ⟨trivial, h1 c1⟩, fun q => absurd c1 q⟩⟩
  · by_cases c2 : (10 : Int32) ≤ x0
    · exact ⟨7, ⟨fun q => absurd q c1, fun _ => ⟨fun _ => ⟨trivial, h2 c1 c2⟩, fun q => absurd c2 q⟩⟩⟩
    · exact ⟨10, ⟨fun q => absurd q c1, fun _ => ⟨fun q => absurd q c2, fun _ => ⟨rfl, ⟨Or.inl ⟨10, 10, Or.inr rfl, rfl, (h3 c1 c2)⟩, ⟨trivial, h4 c1 c2⟩⟩⟩⟩⟩⟩
theorem sg_5_0 {x0 : Int32} {x1 : Int32} {M : px_Mem} {Q : px_Po} (h1 : px_T 0 4 0 [some (.int x0)] [] M (fun r M1 => px_T 0 5 5 [some (.int x0), some (.int x1)] (r.toList ++ [.int x1]) M1 Q)) : px_T 0 5 0 [some (.int x0), some (.int x1)] [] M Q := by
  obtain ⟨n, h⟩ := px_T_cl (k := 5) (pc := 2) (y := 4) (st := [.int x0, .int x1]) rfl (h1)
  exact ⟨n + 3, h⟩
theorem sg_5_5 {x0 : Int32} {x1 : Int32} {s0 : Int32} {s1 : Int32} {M : px_Mem} {Q : px_Po} (h1 : (s1 ≤ s0) → (x1 = 1) → Q (some (.int 1)) M) (h2 : (s1 ≤ s0) → (¬ (x1 = 1)) → (x0 = 0) → Q (some (.int 1)) M) (h3 : (s1 ≤ s0) → (¬ (x1 = 1)) → (¬ (x0 = 0)) → px_T 0 7 0 [some (.int x0), some (.int x1)] [] M (fun r M1 => px_T 0 5 24 [some (.int x0), some (.int x1)] (r.toList ++ []) M1 Q)) (h4 : (¬ (s1 ≤ s0)) → Q (some (.int 0)) M) : px_T 0 5 5 [some (.int x0), some (.int x1)] [.int s0, .int s1] M Q := by
  by_cases c1 : s1 ≤ s0
  · by_cases c2 : x1 = 1
    · exact ⟨7, ⟨fun _ => ⟨fun _ => ⟨trivial, h1 c1 c2⟩, fun q => absurd c2 q⟩, fun q => absurd c1 q⟩⟩
    · by_cases c3 : x0 = 0
      · exact ⟨9, ⟨fun _ => ⟨fun q => absurd q c2, fun _ => ⟨fun _ => ⟨trivial, h2 c1 c2 c3⟩, fun q => absurd c3 q⟩⟩, fun q => absurd c1 q⟩⟩
      · obtain ⟨n, h⟩ := px_T_cl (k := 5) (pc := 21) (y := 7) (st := [.int x1, .int x0]) rfl (h3 c1 c2 c3)
        exact ⟨n + 9, ⟨fun _ => ⟨fun q => absurd q c2, fun _ => ⟨fun q => absurd q c3, fun _ => h⟩⟩, fun q => absurd c1 q⟩⟩
  · exact ⟨3, ⟨fun q => absurd q c1, fun _ => ⟨trivial, h4 c1⟩⟩⟩
theorem sg_5_24 {d0 : Option Value} {d1 : Option Value} {s0 : Int32} {M : px_Mem} {Q : px_Po} (h1 : (s0 = 0) → Q (some (.int 0)) M) (h2 : (¬ (s0 = 0)) → Q (some (.int 1)) M) : px_T 0 5 24 [d0, d1] [.int s0] M Q := by
  by_cases c1 : s0 = 0
  · exact ⟨3, ⟨fun _ => ⟨trivial, h1 c1⟩, fun q => absurd c1 q⟩⟩
  · exact ⟨4, ⟨fun q => absurd q c1, fun _ => ⟨trivial, h2 c1⟩⟩⟩
theorem sg_6_0 {x0 : Int32} {x1 : Int32} {M : px_Mem} {Q : px_Po} (h1 : px_T 0 4 0 [some (.int x0)] [] M (fun r M1 => px_T 0 6 5 [some (.int x0), some (.int x1)] (r.toList ++ [.int x1]) M1 Q)) : px_T 0 6 0 [some (.int x0), some (.int x1)] [] M Q := by
  obtain ⟨n, h⟩ := px_T_cl (k := 6) (pc := 2) (y := 4) (st := [.int x0, .int x1]) rfl (h1)
  exact ⟨n + 3, h⟩
theorem sg_6_5 {x0 : Int32} {x1 : Int32} {s0 : Int32} {s1 : Int32} {M : px_Mem} {Q : px_Po} (h1 : (s1 ≤ s0) → (x1 = 1) → Q (some (.int 15)) M) (h2 : (s1 ≤ s0) → (¬ (x1 = 1)) → (x0 = 0) → Q (some (.int 15)) M) (h3 : (s1 ≤ s0) → (¬ (x1 = 1)) → (¬ (x0 = 0)) → px_T 0 7 0 [some (.int x0), some (.int x1)] [] M (fun r M1 => px_T 0 6 27 [some (.int x0), some (.int x1)] (r.toList ++ []) M1 Q)) (h4 : (¬ (s1 ≤ s0)) → Q (some (.int 0)) M) : px_T 0 6 5 [some (.int x0), some (.int x1)] [.int s0, .int s1] M Q := by
  by_cases c1 : s1 ≤ s0
  · by_cases c2 : x1 = 1
    · exact ⟨6, ⟨fun _ => ⟨fun _ => ⟨trivial, h1 c1 c2⟩, fun q => absurd c2 q⟩, fun q => absurd c1 q⟩⟩
    · by_cases c3 : x0 = 0
      · exact ⟨8, ⟨fun _ => ⟨fun q => absurd q c2, fun _ => ⟨fun q => absurd c3 q, fun _ => ⟨trivial, h2 c1 c2 c3⟩⟩⟩, fun q => absurd c1 q⟩⟩
      · obtain ⟨n, h⟩ := px_T_cl (k := 6) (pc := 24) (y := 7) (st := [.int x1, .int x0]) rfl (h3 c1 c2 c3)
        exact ⟨n + 9, ⟨fun _ => ⟨fun q => absurd q c2, fun _ => ⟨fun _ => h, fun q => absurd q c3⟩⟩, fun q => absurd c1 q⟩⟩
  · exact ⟨3, ⟨fun q => absurd q c1, fun _ => ⟨trivial, h4 c1⟩⟩⟩
theorem sg_6_27 {d0 : Option Value} {d1 : Option Value} {s0 : Int32} {M : px_Mem} {Q : px_Po} (h1 : (s0 = 0) → Q (some (.int 7)) M) (h2 : (¬ (s0 = 0)) → Q (some (.int 30)) M) : px_T 0 6 27 [d0, d1] [.int s0] M Q := by
  by_cases c1 : s0 = 0
  · exact ⟨3, ⟨fun _ => ⟨trivial, h1 c1⟩, fun q => absurd c1 q⟩⟩
  · exact ⟨4, ⟨fun q => absurd q c1, fun _ => ⟨trivial, h2 c1⟩⟩⟩
theorem sg_7_0 {x0 : Int32} {x1 : Int32} {M : px_Mem} {Q : px_Po} (h1 : (x1 = 3) → (x0 = 7) → Q (some (.int 1)) M) (h2 : (x1 = 3) → (¬ (x0 = 7)) → (x0 = 8) → Q (some (.int 1)) M) (h3 : (x1 = 3) → (¬ (x0 = 7)) → (¬ (x0 = 8)) → Q (some (.int 0)) M) (h4 : (¬ (x1 = 3)) → Q (some (.int 0)) M) : px_T 0 7 0 [some (.int x0), some (.int x1)] [] M Q := by
  by_cases c1 : x1 = 3
  · by_cases c2 : x0 = 7
    · exact ⟨9, ⟨fun q => absurd c1 q, fun _ => ⟨fun _ => ⟨Or.inr rfl, h1 c1 c2⟩, fun q => absurd c2 q⟩⟩⟩
    · by_cases c3 : x0 = 8
      · exact ⟨12, ⟨fun q => absurd c1 q, fun _ => ⟨fun q => absurd q c2, fun _ => ⟨fun q => absurd c3 q, fun _ => ⟨Or.inr rfl, h2 c1 c2 c3⟩⟩⟩⟩⟩
      · exact ⟨11, ⟨fun q => absurd c1 q, fun _ => ⟨fun q => absurd q c2, fun _ => ⟨fun _ => ⟨Or.inl rfl, h3 c1 c2 c3⟩, fun q => absurd q c3⟩⟩⟩⟩
  · exact ⟨5, ⟨fun _ => ⟨Or.inl rfl, h4 c1⟩, fun q => absurd q c1⟩⟩
theorem sg_8_0 {x0 : Int32} {x1 : Int32} {x2 : Int32} {M : px_Mem} {Q : px_Po} (h1 : px_T 0 5 0 [some (.int x0), some (.int x1)] [] M (fun r M1 => px_T 0 8 6 [some (.int x0), some (.int x1), some (.int x2)] (r.toList ++ [.int x2]) M1 Q)) : px_T 0 8 0 [some (.int x0), some (.int x1), some (.int x2)] [] M Q := by
  obtain ⟨n, h⟩ := px_T_cl (k := 8) (pc := 3) (y := 5) (st := [.int x1, .int x0, .int x2]) rfl (h1)
  exact ⟨n + 4, h⟩
theorem sg_8_6 {x0 : Int32} {x1 : Int32} {x2 : Int32} {s0 : Int32} {s1 : Int32} {M : px_Mem} {Q : px_Po} (h1 : (s1 < s0) → Q (some (.int 0)) M) (h2 : (¬ (s1 < s0)) → px_T 0 6 0 [some (.int x0), some (.int x1)] [] M (fun r M1 => px_T 0 8 15 [some (.int x0), some (.int x1), some (.int x2)] (r.toList ++ [.int x2]) M1 Q)) : px_T 0 8 6 [some (.int x0), some (.int x1), some (.int x2)] [.int s0, .int s1] M Q := by
  by_cases c1 : s1 < s0
  · exact ⟨3, ⟨fun _ => ⟨Or.inl rfl, h1 c1⟩, fun q => absurd c1 q⟩⟩
  · obtain ⟨n, h⟩ := px_T_cl (k := 8) (pc := 12) (y := 6) (st := [.int x1, .int x0, .int x2]) rfl (h2 c1)
    exact ⟨n + 5, ⟨fun q => absurd q c1, fun _ => h⟩⟩
theorem sg_8_15 {d0 : Option Value} {d1 : Option Value} {d2 : Option Value} {s0 : Int32} {s1 : Int32} {M : px_Mem} {Q : px_Po} (h1 : (s0 < s1) → Q (some (.int 0)) M) (h2 : (¬ (s0 < s1)) → Q (some (.int 1)) M) : px_T 0 8 15 [d0, d1, d2] [.int s0, .int s1] M Q := by
  by_cases c1 : s0 < s1
  · exact ⟨3, ⟨fun _ => ⟨Or.inl rfl, h1 c1⟩, fun q => absurd c1 q⟩⟩
  · exact ⟨4, ⟨fun q => absurd q c1, fun _ => ⟨Or.inr rfl, h2 c1⟩⟩⟩
theorem sg_9_0 {x0 : Int32} {M : px_Mem} {Q : px_Po} (h1 : px_T 0 9 1 [some (.int x0)] [.int x0] M Q) : px_T 0 9 0 [some (.int x0)] [] M Q := by
  obtain ⟨n, h⟩ := h1
  exact ⟨n + 1, h⟩
theorem sg_9_1 {d0 : Option Value} {s0 : Int32} {M : px_Mem} {Q : px_Po} (h1 : (s0 = 0) → px_T 0 9 56 [d0] [] M Q) (h2 : (s0 = 1) → px_T 0 9 59 [d0] [] M Q) (h3 : (s0 = 2) → px_T 0 9 62 [d0] [] M Q) (h4 : (s0 = 3) → px_T 0 9 65 [d0] [] M Q) (h5 : (s0 = 4) → px_T 0 9 68 [d0] [] M Q) (h6 : (s0 = 5) → px_T 0 9 71 [d0] [] M Q) (h7 : (s0 = 6) → px_T 0 9 74 [d0] [] M Q) (h8 : (s0 = 7) → px_T 0 9 77 [d0] [] M Q) (h9 : (s0 = 8) → px_T 0 9 80 [d0] [] M Q) (h10 : (s0 = 9) → px_T 0 9 83 [d0] [] M Q) (h11 : (¬ s0 = 0) → (¬ s0 = 1) → (¬ s0 = 2) → (¬ s0 = 3) → (¬ s0 = 4) → (¬ s0 = 5) → (¬ s0 = 6) → (¬ s0 = 7) → (¬ s0 = 8) → (¬ s0 = 9) → px_T 0 9 86 [d0] [] M Q) : px_T 0 9 1 [d0] [.int s0] M Q := by
  by_cases c1 : s0 = 0
  · exact px_T_sw rfl (by rw [c1]; rfl) (h1 c1)
  by_cases c2 : s0 = 1
  · exact px_T_sw rfl (by rw [c2]; rfl) (h2 c2)
  by_cases c3 : s0 = 2
  · exact px_T_sw rfl (by rw [c3]; rfl) (h3 c3)
  by_cases c4 : s0 = 3
  · exact px_T_sw rfl (by rw [c4]; rfl) (h4 c4)
  by_cases c5 : s0 = 4
  · exact px_T_sw rfl (by rw [c5]; rfl) (h5 c5)
  by_cases c6 : s0 = 5
  · exact px_T_sw rfl (by rw [c6]; rfl) (h6 c6)
  by_cases c7 : s0 = 6
  · exact px_T_sw rfl (by rw [c7]; rfl) (h7 c7)
  by_cases c8 : s0 = 7
  · exact px_T_sw rfl (by rw [c8]; rfl) (h8 c8)
  by_cases c9 : s0 = 8
  · exact px_T_sw rfl (by rw [c9]; rfl) (h9 c9)
  by_cases c10 : s0 = 9
  · exact px_T_sw rfl (by rw [c10]; rfl) (h10 c10)
  exact px_T_sw rfl (px_sw_o (N := 10) (by decide) (fun v hv => match v, hv with | 0, _ => c1 | 1, _ => c2 | 2, _ => c3 | 3, _ => c4 | 4, _ => c5 | 5, _ => c6 | 6, _ => c7 | 7, _ => c8 | 8, _ => c9 | 9, _ => c10 | n + 10, h => absurd h (by omega))) (h11 c1 c2 c3 c4 c5 c6 c7 c8 c9 c10)
theorem sg_9_56 {d0 : Option Value} {M : px_Mem} {Q : px_Po} (h1 : Q (some (.ref 1100)) M) : px_T 0 9 56 [d0] [] M Q := by
  exact ⟨2, ⟨rfl, ⟨Or.inr rfl, (by decide), h1⟩⟩⟩
theorem sg_9_59 {d0 : Option Value} {M : px_Mem} {Q : px_Po} (h1 : Q (some (.ref 1101)) M) : px_T 0 9 59 [d0] [] M Q := by
  exact ⟨2, ⟨rfl, ⟨Or.inr rfl, (by decide), h1⟩⟩⟩
theorem sg_9_62 {d0 : Option Value} {M : px_Mem} {Q : px_Po} (h1 : Q (some (.ref 1102)) M) : px_T 0 9 62 [d0] [] M Q := by
  exact ⟨2, ⟨rfl, ⟨Or.inr rfl, (by decide), h1⟩⟩⟩
theorem sg_9_65 {d0 : Option Value} {M : px_Mem} {Q : px_Po} (h1 : Q (some (.ref 1103)) M) : px_T 0 9 65 [d0] [] M Q := by
  exact ⟨2, ⟨rfl, ⟨Or.inr rfl, (by decide), h1⟩⟩⟩
theorem sg_9_68 {d0 : Option Value} {M : px_Mem} {Q : px_Po} (h1 : Q (some (.ref 1104)) M) : px_T 0 9 68 [d0] [] M Q := by
  exact ⟨2, ⟨rfl, ⟨Or.inr rfl, (by decide), h1⟩⟩⟩
theorem sg_9_71 {d0 : Option Value} {M : px_Mem} {Q : px_Po} (h1 : Q (some (.ref 1105)) M) : px_T 0 9 71 [d0] [] M Q := by
  exact ⟨2, ⟨rfl, ⟨Or.inr rfl, (by decide), h1⟩⟩⟩
theorem sg_9_74 {d0 : Option Value} {M : px_Mem} {Q : px_Po} (h1 : Q (some (.ref 1106)) M) : px_T 0 9 74 [d0] [] M Q := by
  exact ⟨2, ⟨rfl, ⟨Or.inr rfl, (by decide), h1⟩⟩⟩
theorem sg_9_77 {d0 : Option Value} {M : px_Mem} {Q : px_Po} (h1 : Q (some (.ref 1107)) M) : px_T 0 9 77 [d0] [] M Q := by
  exact ⟨2, ⟨rfl, ⟨Or.inr rfl, (by decide), h1⟩⟩⟩
theorem sg_9_80 {d0 : Option Value} {M : px_Mem} {Q : px_Po} (h1 : Q (some (.ref 1108)) M) : px_T 0 9 80 [d0] [] M Q := by
  exact ⟨2, ⟨rfl, ⟨Or.inr rfl, (by decide), h1⟩⟩⟩
theorem sg_9_83 {d0 : Option Value} {M : px_Mem} {Q : px_Po} (h1 : Q (some (.ref 1109)) M) : px_T 0 9 83 [d0] [] M Q := by
  exact ⟨2, ⟨rfl, ⟨Or.inr rfl, (by decide), h1⟩⟩⟩
theorem sg_9_86 {d0 : Option Value} {M : px_Mem} {Q : px_Po} (h1 : Q (some (.ref 1110)) M) : px_T 0 9 86 [d0] [] M Q := by
  exact ⟨2, ⟨rfl, ⟨Or.inr rfl, (by decide), h1⟩⟩⟩
theorem sg_10_0 {M : px_Mem} {Q : px_Po} (h1 : px_T 0 60 0 [some (.ref 29)] [] M (fun r M1 => px_T 0 10 7 [some (.ref 28)] (r.toList ++ []) M1 Q)) : px_T 0 10 0 [some (.ref 28)] [] M Q := by
  obtain ⟨n, h⟩ := px_T_cl (k := 10) (pc := 4) (y := 60) (st := [.ref 29]) rfl (h1)
  exact ⟨n + 3, ⟨rfl, ⟨rfl, h⟩⟩⟩
theorem sg_10_7 {M : px_Mem} {Q : px_Po} (h1 : Q none (px_wI M 28 3 0)) : px_T 0 10 7 [some (.ref 28)] [] M Q := by
  exact ⟨4, ⟨rfl, ⟨rfl, h1⟩⟩⟩
theorem sg_11_0 {x1 : Int32} {M : px_Mem} {Q : px_Po} (h1 : ((M.1 28 3) ≤ x1) → px_T 0 11 12 [some (.ref 28), some (.int x1)] [] M Q) (h2 : (¬ ((M.1 28 3) ≤ x1)) → px_T 0 10 0 [some (.ref 28)] [] M (fun r M1 => px_T 0 11 12 [some (.ref 28), some (.int x1)] (r.toList ++ []) M1 Q)) : px_T 0 11 0 [some (.ref 28), some (.int x1)] [] M Q := by
  by_cases c1 : (M.1 28 3) ≤ x1
  · obtain ⟨n, h⟩ := h1 c1
    exact ⟨n + 4, ⟨rfl, ⟨fun _ => h, fun q => absurd c1 q⟩⟩⟩
  · obtain ⟨n, h⟩ := px_T_cl (k := 11) (pc := 9) (y := 10) (st := [.ref 28]) rfl (h2 c1)
    exact ⟨n + 6, ⟨rfl, ⟨fun q => absurd q c1, fun _ => ⟨rfl, h⟩⟩⟩⟩
theorem sg_11_12 {x1 : Int32} {M : px_Mem} {Q : px_Po} (h1 : (x1 ≤ (M.1 28 3)) → Q (some (.ref 29)) M) (h2 : (¬ (x1 ≤ (M.1 28 3))) → ((70 : Int32) ≤ (M.1 28 3)) → Q (some (.ref 29)) M) (h3 : (¬ (x1 ≤ (M.1 28 3))) → (¬ ((70 : Int32) ≤ (M.1 28 3))) → px_T 0 54 0 [some (.ref 4), some (.int (M.1 28 3))] [] M (fun r M1 => px_T 0 11 52 [some (.ref 28), some (.int x1)] (r.toList ++ [.ref 29, .int (M.1 28 3), .ref 37]) M1 Q)) : px_T 0 11 12 [some (.ref 28), some (.int x1)] [] M Q := by
  by_cases c1 : x1 ≤ (M.1 28 3)
  · exact ⟨7, ⟨rfl, ⟨fun _ => ⟨rfl, ⟨Or.inl rfl, (by decide), h1 c1⟩⟩, fun q => absurd c1 q⟩⟩⟩
  · by_cases c2 : (70 : Int32) ≤ (M.1 28 3)
    · exact ⟨11, ⟨rfl, ⟨fun q => absurd q c1, fun _ => ⟨rfl, ⟨fun _ => ⟨rfl, ⟨Or.inl rfl, (by decide), h2 c1 c2⟩⟩, fun q => absurd c2 q⟩⟩⟩⟩⟩
    · obtain ⟨n, h⟩ := px_T_cl (k := 11) (pc := 49) (y := 54) (st := [.int (M.1 28 3), .ref 4, .ref 29, .int (M.1 28 3), .ref 37]) rfl (h3 c1 c2)
      exact ⟨n + 19, ⟨rfl, ⟨fun q => absurd q c1, fun _ => ⟨rfl, ⟨fun q => absurd q c2, fun _ => ⟨rfl, ⟨rfl, ⟨rfl, ⟨rfl, ⟨rfl, ⟨rfl, h⟩⟩⟩⟩⟩⟩⟩⟩⟩⟩⟩
theorem sg_11_52 {x1 : Int32} {s0 : Int32} {s2 : Int32} {M : px_Mem} {Q : px_Po} (h1 : px_T 0 73 0 [some (.ref 29), some (.int s0), some (.int (M.1 4 2)), none, none, none, none] [] M (fun r M1 => px_T 0 11 62 [some (.ref 28), some (.int x1)] (r.toList ++ [.int s2, .ref 37]) M1 Q)) : px_T 0 11 52 [some (.ref 28), some (.int x1)] [.int s0, .ref 29, .int s2, .ref 37] M Q := by
  obtain ⟨n, h⟩ := px_T_cl (k := 11) (pc := 59) (y := 73) (st := [.int (M.1 4 2), .int s0, .ref 29, .int s2, .ref 37]) rfl (h1)
  exact ⟨n + 4, ⟨rfl, ⟨rfl, ⟨rfl, h⟩⟩⟩⟩
theorem sg_11_62 {x1 : Int32} {s0 : Int32} {s1 : Int32} {M : px_Mem} {Q : px_Po} (h1 : vp_in s1 70) (h2 : px_T 0 11 12 [some (.ref 28), some (.int x1)] [] (px_wI (px_wI M 37 s1.toNatClampNeg s0) 28 3 ((M.1 28 3) + 1)) Q) : px_T 0 11 62 [some (.ref 28), some (.int x1)] [.int s0, .int s1, .ref 37] M Q := by
  obtain ⟨n, h⟩ := h2
  exact ⟨n + 8, ⟨⟨70, rfl, h1⟩, ⟨rfl, ⟨rfl, h⟩⟩⟩⟩
theorem sg_12_0 {x1 : Int32} {M : px_Mem} {Q : px_Po} (h1 : (x1 < 0) → Q (some (.int 0)) M) (h2 : (¬ (x1 < 0)) → (x1 < 70) → px_T 0 11 0 [some (.ref 28), some (.int (if (M.1 28 3) < (x1 + 1) then x1 + 1 else M.1 28 3))] [] M (fun r M1 => px_T 0 12 26 [some (.ref 28), some (.int x1)] (r.toList ++ []) M1 Q)) (h3 : (¬ (x1 < 0)) → (¬ (x1 < 70)) → Q (some (.int 0)) M) : px_T 0 12 0 [some (.ref 28), some (.int x1)] [] M Q := by
  by_cases c1 : x1 < 0
  · exact ⟨4, ⟨fun _ => ⟨trivial, h1 c1⟩, fun q => absurd c1 q⟩⟩
  · by_cases c2 : x1 < 70
    · obtain ⟨n, h⟩ := px_T_cl (k := 12) (pc := 23) (y := 11) (st := [.int (if (M.1 28 3) < (x1 + 1) then x1 + 1 else M.1 28 3), .ref 28]) rfl (h2 c1 c2)
      exact ⟨n + 13, ⟨fun q => absurd q c1, fun _ => ⟨fun _ => ⟨rfl, ⟨(Nat.le_of_ble_eq_true rfl), (Nat.le_of_ble_eq_true rfl), (Nat.le_of_ble_eq_true rfl), ⟨rfl, h⟩⟩⟩, fun q => absurd c2 q⟩⟩⟩
    · exact ⟨7, ⟨fun q => absurd q c1, fun _ => ⟨fun q => absurd q c2, fun _ => ⟨trivial, h3 c1 c2⟩⟩⟩⟩
theorem sg_12_26 {x1 : Int32} {s0 : Nat} {M : px_Mem} {Q : px_Po} (h_s0 : px_isW s0) (h1 : vp_in x1 70) (h2 : Q (some (.int (M.1 37 x1.toNatClampNeg))) M) : px_T 0 12 26 [some (.ref 28), some (.int x1)] [.ref s0] M Q := by
  rcases h_s0 with rfl | rfl
  · exact ⟨6, ⟨rfl, ⟨Or.inl ⟨0, 70, Or.inl rfl, rfl, h1⟩, ⟨trivial, h2⟩⟩⟩⟩
  · exact ⟨6, ⟨rfl, ⟨Or.inl ⟨0, 70, Or.inl rfl, rfl, h1⟩, ⟨trivial, h2⟩⟩⟩⟩
theorem sg_13_0 {x1 : Int32} {M : px_Mem} {Q : px_Po} (h1 : px_T 0 11 0 [some (.ref 28), some (.int (if (M.1 28 3) < x1 then x1 else M.1 28 3))] [] M (fun r M1 => px_T 0 13 12 [some (.ref 28), some (.int x1), none, none] (r.toList ++ []) M1 Q)) : px_T 0 13 0 [some (.ref 28), some (.int x1), none, none] [] M Q := by
  obtain ⟨n, h⟩ := px_T_cl (k := 13) (pc := 9) (y := 11) (st := [.int (if (M.1 28 3) < x1 then x1 else M.1 28 3), .ref 28]) rfl (h1)
  exact ⟨n + 6, ⟨rfl, ⟨(Nat.le_of_ble_eq_true rfl), (Nat.le_of_ble_eq_true rfl), (Nat.le_of_ble_eq_true rfl), ⟨rfl, h⟩⟩⟩⟩
theorem sg_13_12 {x1 : Int32} {d2 : Option Value} {d3 : Option Value} {s0 : Nat} {M : px_Mem} {Q : px_Po} (h_s0 : px_isW s0) (h1 : px_T 0 13 17 [some (.ref 28), some (.int x1), some (.int 0), some (.int 0)] [] M Q) : px_T 0 13 12 [some (.ref 28), some (.int x1), d2, d3] [.ref s0] M Q := by
  rcases h_s0 with rfl | rfl
  · obtain ⟨n, h⟩ := h1
    exact ⟨n + 5, h⟩
  · obtain ⟨n, h⟩ := h1
    exact ⟨n + 5, h⟩
theorem sg_13_17 {x1 : Int32} {x2 : Int32} {x3 : Int32} {M : px_Mem} {Q : px_Po} (h1 : (x1 ≤ x3) → Q (some (.int x2)) M) (h2 : (¬ (x1 ≤ x3)) → ((70 : Int32) ≤ x3) → Q (some (.int x2)) M) (h3 : (¬ (x1 ≤ x3)) → (¬ ((70 : Int32) ≤ x3)) → vp_in x3 70) (h4 : (¬ (x1 ≤ x3)) → (¬ ((70 : Int32) ≤ x3)) → ((M.1 37 x3.toNatClampNeg) = 0) → px_T 0 13 17 [some (.ref 28), some (.int x1), some (.int x2), some (.int (x3 + 1))] [] M Q) (h5 : (¬ (x1 ≤ x3)) → (¬ ((70 : Int32) ≤ x3)) → (¬ ((M.1 37 x3.toNatClampNeg) = 0)) → px_T 0 13 17 [some (.ref 28), some (.int x1), some (.int (x2 + 1)), some (.int (x3 + 1))] [] M Q) : px_T 0 13 17 [some (.ref 28), some (.int x1), some (.int x2), some (.int x3)] [] M Q := by
  by_cases c1 : x1 ≤ x3
  · exact ⟨5, ⟨fun _ => ⟨trivial, h1 c1⟩, fun q => absurd c1 q⟩⟩
  · by_cases c2 : (70 : Int32) ≤ x3
    · exact ⟨8, ⟨fun q => absurd q c1, fun _ => ⟨fun _ => ⟨trivial, h2 c1 c2⟩, fun q => absurd c2 q⟩⟩⟩
    · by_cases c3 : (M.1 37 x3.toNatClampNeg) = 0
      · obtain ⟨n, h⟩ := h4 c1 c2 c3
        exact ⟨n + 13, ⟨fun q => absurd q c1, fun _ => ⟨fun q => absurd q c2, fun _ => ⟨rfl, ⟨Or.inl ⟨0, 70, Or.inl rfl, rfl, (h3 c1 c2)⟩, ⟨fun _ => h, fun q => absurd c3 q⟩⟩⟩⟩⟩⟩
      · obtain ⟨n, h⟩ := h5 c1 c2 c3
        exact ⟨n + 14, ⟨fun q => absurd q c1, fun _ => ⟨fun q => absurd q c2, fun _ => ⟨rfl, ⟨Or.inl ⟨0, 70, Or.inl rfl, rfl, (h3 c1 c2)⟩, ⟨fun q => absurd q c3, fun _ => h⟩⟩⟩⟩⟩⟩
theorem sg_14_0 {x1 : Int32} {x2 : Int32} {x3 : Int32} {x4 : Int32} {M : px_Mem} {Q : px_Po} (h1 : px_T 0 11 0 [some (.ref 28), some (.int x1)] [] M (fun r M1 => px_T 0 14 5 [some (.ref 28), some (.int x1), some (.int x2), some (.int x3), some (.int x4), none, none] (r.toList ++ []) M1 Q)) : px_T 0 14 0 [some (.ref 28), some (.int x1), some (.int x2), some (.int x3), some (.int x4), none, none] [] M Q := by
  obtain ⟨n, h⟩ := px_T_cl (k := 14) (pc := 2) (y := 11) (st := [.int x1, .ref 28]) rfl (h1)
  exact ⟨n + 3, ⟨rfl, h⟩⟩
theorem sg_14_5 {x1 : Int32} {x2 : Int32} {x3 : Int32} {x4 : Int32} {d5 : Option Value} {d6 : Option Value} {s0 : Nat} {M : px_Mem} {Q : px_Po} (h_s0 : px_isW s0) (h1 : px_T 0 62 0 [some (.ref s0)] [] M (fun r M1 => px_T 0 14 8 [some (.ref 28), some (.int x1), some (.int x2), some (.int x3), some (.int x4), d5, d6] (r.toList ++ []) M1 Q)) : px_T 0 14 5 [some (.ref 28), some (.int x1), some (.int x2), some (.int x3), some (.int x4), d5, d6] [.ref s0] M Q := by
  rcases h_s0 with rfl | rfl
  · obtain ⟨n, h⟩ := px_T_cl (k := 14) (pc := 5) (y := 62) (st := [.ref 29]) rfl (h1)
    exact ⟨n + 1, ⟨rfl, h⟩⟩
  · obtain ⟨n, h⟩ := px_T_cl (k := 14) (pc := 5) (y := 62) (st := [.ref 47]) rfl (h1)
    exact ⟨n + 1, ⟨rfl, h⟩⟩
theorem sg_14_8 {x1 : Int32} {x2 : Int32} {x3 : Int32} {x4 : Int32} {d5 : Option Value} {d6 : Option Value} {M : px_Mem} {Q : px_Po} (h1 : px_T 0 332 0 [some (.int (M.1 29 0))] [] M (fun r M1 => px_T 0 14 24 [some (.ref 28), some (.int x1), some (.int x2), some (.int x3), some (.int x4), some (.int x1), d6] (r.toList ++ [.int 8, .ref 28]) M1 Q)) : px_T 0 14 8 [some (.ref 28), some (.int x1), some (.int x2), some (.int x3), some (.int x4), d5, d6] [] M Q := by
  obtain ⟨n, h⟩ := px_T_cl (k := 14) (pc := 21) (y := 332) (st := [.int (M.1 29 0), .int 8, .ref 28]) rfl (h1)
  exact ⟨n + 8, ⟨rfl, ⟨rfl, h⟩⟩⟩
theorem sg_14_24 {d1 : Option Value} {x2 : Int32} {x3 : Int32} {x4 : Int32} {x5 : Int32} {d6 : Option Value} {s0 : Int32} {s1 : Int32} {M : px_Mem} {Q : px_Po} (h1 : (x4 = 0) → px_T 0 14 56 [some (.ref 28), d1, some (.int x2), some (.int x3), some (.int x4), some (.int x5), some (.int 1)] [] (px_wI (px_wI (px_wI M 28 6 (s1 * s0)) 28 5 (s1 * s0)) 28 4 (s1 * s0)) Q) (h2 : (¬ (x4 = 0)) → px_T 0 14 56 [some (.ref 28), d1, some (.int x2), some (.int x3), some (.int x4), some (.int x5), some (.int 1)] [] (px_wI (px_wI (px_wI M 28 6 (s1 * s0)) 28 5 (s1 * s0)) 28 4 (-1)) Q) : px_T 0 14 24 [some (.ref 28), d1, some (.int x2), some (.int x3), some (.int x4), some (.int x5), d6] [.int s0, .int s1, .ref 28] M Q := by
  by_cases c1 : x4 = 0
  · obtain ⟨n, h⟩ := h1 c1
    exact ⟨n + 15, ⟨rfl, ⟨rfl, ⟨rfl, ⟨fun q => absurd c1 q, fun _ => ⟨rfl, ⟨rfl, h⟩⟩⟩⟩⟩⟩⟩
  · obtain ⟨n, h⟩ := h2 c1
    exact ⟨n + 13, ⟨rfl, ⟨rfl, ⟨rfl, ⟨fun _ => ⟨rfl, h⟩, fun q => absurd q c1⟩⟩⟩⟩⟩
theorem sg_14_56 {d1 : Option Value} {x2 : Int32} {x3 : Int32} {x4 : Int32} {x5 : Int32} {x6 : Int32} {M : px_Mem} {Q : px_Po} (h1 : ((70 : Int32) < x6) → Q none M) (h2 : (¬ ((70 : Int32) < x6)) → (x3 ≤ x5) → Q none M) (h3 : (¬ ((70 : Int32) < x6)) → (¬ (x3 ≤ x5)) → px_T 0 11 0 [some (.ref 28), some (.int (if x3 < (x5 + x2) then x3 else x5 + x2))] [] M (fun r M1 => px_T 0 14 85 [some (.ref 28), d1, some (.int x2), some (.int x3), some (.int x4), some (.int (if x3 < (x5 + x2) then x3 else x5 + x2)), some (.int x6)] (r.toList ++ []) M1 Q)) : px_T 0 14 56 [some (.ref 28), d1, some (.int x2), some (.int x3), some (.int x4), some (.int x5), some (.int x6)] [] M Q := by
  by_cases c1 : (70 : Int32) < x6
  · exact ⟨4, ⟨fun _ => ⟨rfl, h1 c1⟩, fun q => absurd c1 q⟩⟩
  · by_cases c2 : x3 ≤ x5
    · exact ⟨7, ⟨fun q => absurd q c1, fun _ => ⟨fun _ => ⟨rfl, h2 c1 c2⟩, fun q => absurd c2 q⟩⟩⟩
    · obtain ⟨n, h⟩ := px_T_cl (k := 14) (pc := 82) (y := 11) (st := [.int (if x3 < (x5 + x2) then x3 else x5 + x2), .ref 28]) rfl (h3 c1 c2)
      exact ⟨n + 15, ⟨fun q => absurd q c1, fun _ => ⟨fun q => absurd q c2, fun _ => ⟨(Nat.le_of_ble_eq_true rfl), (Nat.le_of_ble_eq_true rfl), (Nat.le_of_ble_eq_true rfl), ⟨rfl, h⟩⟩⟩⟩⟩
theorem sg_14_85 {d1 : Option Value} {x2 : Int32} {x3 : Int32} {x4 : Int32} {x5 : Int32} {x6 : Int32} {s0 : Nat} {M : px_Mem} {Q : px_Po} (h_s0 : px_isW s0) (h1 : px_T 0 15 0 [some (.ref 28), none, none] [] M (fun r M1 => px_T 0 14 91 [some (.ref 28), d1, some (.int x2), some (.int x3), some (.int x4), some (.int x5), some (.int x6)] (r.toList ++ [.ref 28]) M1 Q)) : px_T 0 14 85 [some (.ref 28), d1, some (.int x2), some (.int x3), some (.int x4), some (.int x5), some (.int x6)] [.ref s0] M Q := by
  rcases h_s0 with rfl | rfl
  · obtain ⟨n, h⟩ := px_T_cl (k := 14) (pc := 88) (y := 15) (st := [.ref 28, .ref 28]) rfl (h1)
    exact ⟨n + 4, ⟨rfl, h⟩⟩
  · obtain ⟨n, h⟩ := px_T_cl (k := 14) (pc := 88) (y := 15) (st := [.ref 28, .ref 28]) rfl (h1)
    exact ⟨n + 4, ⟨rfl, h⟩⟩
theorem sg_14_91 {d1 : Option Value} {x2 : Int32} {x3 : Int32} {x4 : Int32} {x5 : Int32} {x6 : Int32} {s0 : Int32} {M : px_Mem} {Q : px_Po} (h1 : px_T 0 62 0 [some (.ref 29)] [] (px_wI M 28 6 s0) (fun r M1 => px_T 0 14 101 [some (.ref 28), d1, some (.int x2), some (.int x3), some (.int x4), some (.int x5), some (.int x6)] (r.toList ++ []) M1 Q)) : px_T 0 14 91 [some (.ref 28), d1, some (.int x2), some (.int x3), some (.int x4), some (.int x5), some (.int x6)] [.int s0, .ref 28] M Q := by
  obtain ⟨n, h⟩ := px_T_cl (k := 14) (pc := 98) (y := 62) (st := [.ref 29]) rfl (h1)
  exact ⟨n + 4, ⟨rfl, ⟨rfl, ⟨rfl, h⟩⟩⟩⟩
theorem sg_14_101 {d1 : Option Value} {x2 : Int32} {x3 : Int32} {x4 : Int32} {x5 : Int32} {x6 : Int32} {M : px_Mem} {Q : px_Po} (h1 : (x6 = x4) → px_T 0 14 56 [some (.ref 28), d1, some (.int x2), some (.int x3), some (.int x4), some (.int x5), some (.int (x6 + 1))] [] (px_wI (px_wI M 28 5 ((M.1 28 5) + (M.1 28 6))) 28 4 (M.1 28 6)) Q) (h2 : (¬ (x6 = x4)) → px_T 0 14 56 [some (.ref 28), d1, some (.int x2), some (.int x3), some (.int x4), some (.int x5), some (.int (x6 + 1))] [] (px_wI M 28 5 ((M.1 28 5) + (M.1 28 6))) Q) : px_T 0 14 101 [some (.ref 28), d1, some (.int x2), some (.int x3), some (.int x4), some (.int x5), some (.int x6)] [] M Q := by
  by_cases c1 : x6 = x4
  · obtain ⟨n, h⟩ := h1 c1
    exact ⟨n + 16, ⟨rfl, ⟨rfl, ⟨rfl, ⟨fun q => absurd c1 q, fun _ => ⟨rfl, ⟨rfl, h⟩⟩⟩⟩⟩⟩⟩
  · obtain ⟨n, h⟩ := h2 c1
    exact ⟨n + 12, ⟨rfl, ⟨rfl, ⟨rfl, ⟨fun _ => h, fun q => absurd q c1⟩⟩⟩⟩⟩
theorem sg_15_0 {M : px_Mem} {Q : px_Po} (h1 : px_T 0 15 4 [some (.ref 28), some (.int 0), some (.int 1)] [] M Q) : px_T 0 15 0 [some (.ref 28), none, none] [] M Q := by
  obtain ⟨n, h⟩ := h1
  exact ⟨n + 4, h⟩
theorem sg_15_4 {x1 : Int32} {x2 : Int32} {M : px_Mem} {Q : px_Po} (h1 : ((15 : Int32) < x2) → Q (some (.int x1)) M) (h2 : (¬ ((15 : Int32) < x2)) → px_T 0 63 0 [some (.ref 29), some (.int x2)] [] M (fun r M1 => px_T 0 15 18 [some (.ref 28), some (.int x1), some (.int x2)] (r.toList ++ []) M1 Q)) : px_T 0 15 4 [some (.ref 28), some (.int x1), some (.int x2)] [] M Q := by
  by_cases c1 : (15 : Int32) < x2
  · exact ⟨5, ⟨fun _ => ⟨trivial, h1 c1⟩, fun q => absurd c1 q⟩⟩
  · obtain ⟨n, h⟩ := px_T_cl (k := 15) (pc := 15) (y := 63) (st := [.int x2, .ref 29]) rfl (h2 c1)
    exact ⟨n + 7, ⟨fun q => absurd q c1, fun _ => ⟨rfl, ⟨rfl, h⟩⟩⟩⟩
theorem sg_15_18 {x1 : Int32} {x2 : Int32} {s0 : Int32} {M : px_Mem} {Q : px_Po} (h1 : (s0 = 0) → px_T 0 15 4 [some (.ref 28), some (.int x1), some (.int (x2 + 1))] [] M Q) (h2 : (¬ (s0 = 0)) → vp_in x2 16) (h3 : (¬ (s0 = 0)) → px_T 0 332 0 [some (.int (M.1 32 x2.toNatClampNeg))] [] M (fun r M1 => px_T 0 15 34 [some (.ref 28), some (.int x1), some (.int x2)] (r.toList ++ [.int x1]) M1 Q)) : px_T 0 15 18 [some (.ref 28), some (.int x1), some (.int x2)] [.int s0] M Q := by
  by_cases c1 : s0 = 0
  · obtain ⟨n, h⟩ := h1 c1
    exact ⟨n + 3, ⟨fun _ => h, fun q => absurd c1 q⟩⟩
  · obtain ⟨n, h⟩ := px_T_cl (k := 15) (pc := 31) (y := 332) (st := [.int (M.1 32 x2.toNatClampNeg), .int x1]) rfl (h3 c1)
    exact ⟨n + 8, ⟨fun q => absurd q c1, fun _ => ⟨rfl, ⟨rfl, ⟨Or.inl ⟨0, 16, Or.inl rfl, rfl, (h2 c1)⟩, h⟩⟩⟩⟩⟩
theorem sg_15_34 {d1 : Option Value} {x2 : Int32} {s0 : Int32} {s1 : Int32} {M : px_Mem} {Q : px_Po} (h1 : px_T 0 15 4 [some (.ref 28), some (.int (s1 + s0)), some (.int (x2 + 1))] [] M Q) : px_T 0 15 34 [some (.ref 28), d1, some (.int x2)] [.int s0, .int s1] M Q := by
  obtain ⟨n, h⟩ := h1
  exact ⟨n + 4, h⟩
theorem sg_16_0 {x1 : Nat} {M : px_Mem} {Q : px_Po} (h_x1 : px_isW x1) (h1 : px_T 0 340 0 [some (.ref 45), some (.int 0), none, none] [] M (fun r M1 => px_T 0 16 8 [some (.ref 44), some (.ref x1), none] (r.toList ++ []) M1 Q)) : px_T 0 16 0 [some (.ref 44), some (.ref x1), none] [] M Q := by
  rcases h_x1 with rfl | rfl
  · obtain ⟨n, h⟩ := px_T_cl (k := 16) (pc := 5) (y := 340) (st := [.int 0, .ref 45]) rfl (h1)
    exact ⟨n + 4, ⟨rfl, h⟩⟩
  · obtain ⟨n, h⟩ := px_T_cl (k := 16) (pc := 5) (y := 340) (st := [.int 0, .ref 45]) rfl (h1)
    exact ⟨n + 4, ⟨rfl, h⟩⟩
theorem sg_16_8 {x1 : Nat} {d2 : Option Value} {M : px_Mem} {Q : px_Po} (h_x1 : px_isW x1) (h1 : px_T 0 18 0 [some (.ref 44), some (.int 1), some (.int 1)] [] (px_wI (px_wI M 44 2 0) 44 3 (M.1 x1 0)) (fun r M1 => px_T 0 16 27 [some (.ref 44), some (.ref x1), d2] (r.toList ++ []) M1 Q)) : px_T 0 16 8 [some (.ref 44), some (.ref x1), d2] [] M Q := by
  rcases h_x1 with rfl | rfl
  · obtain ⟨n, h⟩ := px_T_cl (k := 16) (pc := 24) (y := 18) (st := [.int 1, .int 1, .ref 44]) rfl (h1)
    exact ⟨n + 11, ⟨rfl, ⟨rfl, ⟨rfl, ⟨rfl, h⟩⟩⟩⟩⟩
  · obtain ⟨n, h⟩ := px_T_cl (k := 16) (pc := 24) (y := 18) (st := [.int 1, .int 1, .ref 44]) rfl (h1)
    exact ⟨n + 11, ⟨rfl, ⟨rfl, ⟨rfl, ⟨rfl, h⟩⟩⟩⟩⟩
theorem sg_16_27 {x1 : Nat} {d2 : Option Value} {M : px_Mem} {Q : px_Po} (h_x1 : px_isW x1) (h1 : px_T 0 16 29 [some (.ref 44), some (.ref x1), some (.int 1)] [] M Q) : px_T 0 16 27 [some (.ref 44), some (.ref x1), d2] [] M Q := by
  rcases h_x1 with rfl | rfl
  · obtain ⟨n, h⟩ := h1
    exact ⟨n + 2, h⟩
  · obtain ⟨n, h⟩ := h1
    exact ⟨n + 2, h⟩
theorem sg_16_29 {x1 : Nat} {x2 : Int32} {M : px_Mem} {Q : px_Po} (h_x1 : px_isW x1) (h1 : ((15 : Int32) ≤ x2) → Q none M) (h2 : (¬ ((15 : Int32) ≤ x2)) → px_T 0 19 0 [some (.ref 44), some (.ref x1), none, none] [] M (fun r M1 => px_T 0 16 40 [some (.ref 44), some (.ref x1), some (.int x2)] (r.toList ++ []) M1 Q)) : px_T 0 16 29 [some (.ref 44), some (.ref x1), some (.int x2)] [] M Q := by
  rcases h_x1 with rfl | rfl
  · by_cases c1 : (15 : Int32) ≤ x2
    · exact ⟨4, ⟨fun _ => ⟨rfl, h1 c1⟩, fun q => absurd c1 q⟩⟩
    · obtain ⟨n, h⟩ := px_T_cl (k := 16) (pc := 37) (y := 19) (st := [.ref 29, .ref 44]) rfl (h2 c1)
      exact ⟨n + 6, ⟨fun q => absurd q c1, fun _ => ⟨rfl, h⟩⟩⟩
  · by_cases c1 : (15 : Int32) ≤ x2
    · exact ⟨4, ⟨fun _ => ⟨rfl, h1 c1⟩, fun q => absurd c1 q⟩⟩
    · obtain ⟨n, h⟩ := px_T_cl (k := 16) (pc := 37) (y := 19) (st := [.ref 47, .ref 44]) rfl (h2 c1)
      exact ⟨n + 6, ⟨fun q => absurd q c1, fun _ => ⟨rfl, h⟩⟩⟩
theorem sg_16_40 {x1 : Nat} {x2 : Int32} {M : px_Mem} {Q : px_Po} (h_x1 : px_isW x1) (h1 : px_T 0 16 29 [some (.ref 44), some (.ref x1), some (.int (x2 + 1))] [] M Q) : px_T 0 16 40 [some (.ref 44), some (.ref x1), some (.int x2)] [] M Q := by
  rcases h_x1 with rfl | rfl
  · obtain ⟨n, h⟩ := h1
    exact ⟨n + 2, h⟩
  · obtain ⟨n, h⟩ := h1
    exact ⟨n + 2, h⟩
theorem sg_17_0 {x1 : Int32} {M : px_Mem} {Q : px_Po} (h1 : px_T 0 17 4 [some (.ref 44), some (.int x1), some (.int 0), some (.int 1)] [] M Q) : px_T 0 17 0 [some (.ref 44), some (.int x1), none, none] [] M Q := by
  obtain ⟨n, h⟩ := h1
  exact ⟨n + 4, h⟩
theorem sg_17_4 {x1 : Int32} {x2 : Int32} {x3 : Int32} {M : px_Mem} {Q : px_Po} (h1 : ((15 : Int32) < x3) → Q (some (.int x2)) M) (h2 : (¬ ((15 : Int32) < x3)) → vp_in x3 16) (h3 : (¬ ((15 : Int32) < x3)) → ((M.1 45 x3.toNatClampNeg) = x1) → px_T 0 17 4 [some (.ref 44), some (.int x1), some (.int (x2 + 1)), some (.int (x3 + 1))] [] M Q) (h4 : (¬ ((15 : Int32) < x3)) → (¬ ((M.1 45 x3.toNatClampNeg) = x1)) → px_T 0 17 4 [some (.ref 44), some (.int x1), some (.int x2), some (.int (x3 + 1))] [] M Q) : px_T 0 17 4 [some (.ref 44), some (.int x1), some (.int x2), some (.int x3)] [] M Q := by
  by_cases c1 : (15 : Int32) < x3
  · exact ⟨5, ⟨fun _ => ⟨trivial, h1 c1⟩, fun q => absurd c1 q⟩⟩
  · by_cases c2 : (M.1 45 x3.toNatClampNeg) = x1
    · obtain ⟨n, h⟩ := h3 c1 c2
      exact ⟨n + 12, ⟨fun q => absurd q c1, fun _ => ⟨rfl, ⟨Or.inl ⟨0, 16, Or.inl rfl, rfl, (h2 c1)⟩, ⟨fun q => absurd c2 q, fun _ => h⟩⟩⟩⟩⟩
    · obtain ⟨n, h⟩ := h4 c1 c2
      exact ⟨n + 11, ⟨fun q => absurd q c1, fun _ => ⟨rfl, ⟨Or.inl ⟨0, 16, Or.inl rfl, rfl, (h2 c1)⟩, ⟨fun _ => h, fun q => absurd q c2⟩⟩⟩⟩⟩
theorem sg_18_0 {x1 : Int32} {x2 : Int32} {M : px_Mem} {Q : px_Po} (h1 : ((15 : Int32) ≤ (M.1 44 2)) → Q none M) (h2 : (¬ ((15 : Int32) ≤ (M.1 44 2))) → vp_in x1 16) (h3 : (¬ ((15 : Int32) ≤ (M.1 44 2))) → vp_in (M.1 44 2) 15) (h4 : (¬ ((15 : Int32) ≤ (M.1 44 2))) → px_T 0 161 0 [some (.int x1)] [] (px_wI (px_wI (px_wI M 45 x1.toNatClampNeg x2) 46 ((M.1 44 2).toNatClampNeg) x1) 44 2 ((M.1 44 2) + 1)) (fun r M1 => px_T 0 18 48 [some (.ref 44), some (.int x1), some (.int x2)] (r.toList ++ [.int (M.1 44 3), .ref 44]) M1 Q)) : px_T 0 18 0 [some (.ref 44), some (.int x1), some (.int x2)] [] M Q := by
  by_cases c1 : (15 : Int32) ≤ (M.1 44 2)
  · exact ⟨7, ⟨rfl, ⟨rfl, (Or.inl ⟨0, 15, rfl, (by decide), ⟨fun _ => ⟨rfl, h1 c1⟩, fun q => absurd c1 q⟩⟩)⟩⟩⟩
  · obtain ⟨n, h⟩ := px_T_cl (k := 18) (pc := 45) (y := 161) (st := [.int x1, .int (M.1 44 3), .ref 44]) rfl (h4 c1)
    exact ⟨n + 28, ⟨rfl, ⟨rfl, (Or.inl ⟨0, 15, rfl, (by decide), ⟨fun q => absurd q c1, fun _ => ⟨rfl, ⟨⟨16, rfl, (h2 c1)⟩, ⟨rfl, ⟨rfl, ⟨⟨15, rfl, (h3 c1)⟩, ⟨rfl, ⟨rfl, ⟨rfl, ⟨rfl, h⟩⟩⟩⟩⟩⟩⟩⟩⟩⟩⟩)⟩⟩⟩
theorem sg_18_48 {d0 : Option Value} {d1 : Option Value} {d2 : Option Value} {s0 : Int32} {s1 : Int32} {M : px_Mem} {Q : px_Po} (h1 : Q none (px_wI M 44 3 (s1 &&& (s0 ^^^ (-1))))) : px_T 0 18 48 [d0, d1, d2] [.int s0, .int s1, .ref 44] M Q := by
  exact ⟨5, ⟨rfl, ⟨rfl, h1⟩⟩⟩
theorem sg_19_0 {x1 : Nat} {M : px_Mem} {Q : px_Po} (h_x1 : px_isW x1) (h1 : px_T 0 19 2 [some (.ref 44), some (.ref x1), some (.int 2), none] [] M Q) : px_T 0 19 0 [some (.ref 44), some (.ref x1), none, none] [] M Q := by
  rcases h_x1 with rfl | rfl
  · obtain ⟨n, h⟩ := h1
    exact ⟨n + 2, h⟩
  · obtain ⟨n, h⟩ := h1
    exact ⟨n + 2, h⟩
theorem sg_19_2 {x1 : Nat} {x2 : Int32} {d3 : Option Value} {M : px_Mem} {Q : px_Po} (h_x1 : px_isW x1) (h1 : ((15 : Int32) < x2) → Q none M) (h2 : (¬ ((15 : Int32) < x2)) → px_T 0 161 0 [some (.int x2)] [] M (fun r M1 => px_T 0 19 16 [some (.ref 44), some (.ref x1), some (.int x2), d3] (r.toList ++ [.int (M.1 44 3)]) M1 Q)) : px_T 0 19 2 [some (.ref 44), some (.ref x1), some (.int x2), d3] [] M Q := by
  rcases h_x1 with rfl | rfl
  · by_cases c1 : (15 : Int32) < x2
    · exact ⟨4, ⟨fun _ => ⟨rfl, h1 c1⟩, fun q => absurd c1 q⟩⟩
    · obtain ⟨n, h⟩ := px_T_cl (k := 19) (pc := 13) (y := 161) (st := [.int x2, .int (M.1 44 3)]) rfl (h2 c1)
      exact ⟨n + 7, ⟨fun q => absurd q c1, fun _ => ⟨rfl, ⟨rfl, h⟩⟩⟩⟩
  · by_cases c1 : (15 : Int32) < x2
    · exact ⟨4, ⟨fun _ => ⟨rfl, h1 c1⟩, fun q => absurd c1 q⟩⟩
    · obtain ⟨n, h⟩ := px_T_cl (k := 19) (pc := 13) (y := 161) (st := [.int x2, .int (M.1 44 3)]) rfl (h2 c1)
      exact ⟨n + 7, ⟨fun q => absurd q c1, fun _ => ⟨rfl, ⟨rfl, h⟩⟩⟩⟩
theorem sg_19_16 {x1 : Nat} {x2 : Int32} {d3 : Option Value} {s0 : Int32} {s1 : Int32} {M : px_Mem} {Q : px_Po} (h_x1 : px_isW x1) (h1 : ((s1 &&& s0) = 0) → px_T 0 19 2 [some (.ref 44), some (.ref x1), some (.int (x2 + 1)), some (.int 0)] [] M Q) (h2 : (¬ ((s1 &&& s0) = 0)) → px_T 0 20 0 [some (.ref 44), some (.ref x1), some (.int x2), none, none] [] M (fun r M1 => px_T 0 19 26 [some (.ref 44), some (.ref x1), some (.int x2), d3] (r.toList ++ []) M1 Q)) : px_T 0 19 16 [some (.ref 44), some (.ref x1), some (.int x2), d3] [.int s0, .int s1] M Q := by
  rcases h_x1 with rfl | rfl
  · by_cases c1 : (s1 &&& s0) = 0
    · obtain ⟨n, h⟩ := h1 c1
      exact ⟨n + 8, ⟨fun _ => ⟨fun _ => h, fun q => absurd (by decide) q⟩, fun q => absurd c1 q⟩⟩
    · obtain ⟨n, h⟩ := px_T_cl (k := 19) (pc := 23) (y := 20) (st := [.int x2, .ref 29, .ref 44]) rfl (h2 c1)
      exact ⟨n + 6, ⟨fun q => absurd q c1, fun _ => ⟨rfl, h⟩⟩⟩
  · by_cases c1 : (s1 &&& s0) = 0
    · obtain ⟨n, h⟩ := h1 c1
      exact ⟨n + 8, ⟨fun _ => ⟨fun _ => h, fun q => absurd (by decide) q⟩, fun q => absurd c1 q⟩⟩
    · obtain ⟨n, h⟩ := px_T_cl (k := 19) (pc := 23) (y := 20) (st := [.int x2, .ref 47, .ref 44]) rfl (h2 c1)
      exact ⟨n + 6, ⟨fun q => absurd q c1, fun _ => ⟨rfl, h⟩⟩⟩
theorem sg_19_26 {x1 : Nat} {x2 : Int32} {d3 : Option Value} {s0 : Int32} {M : px_Mem} {Q : px_Po} (h_x1 : px_isW x1) (h1 : (s0 = 0) → px_T 0 19 2 [some (.ref 44), some (.ref x1), some (.int (x2 + 1)), some (.int s0)] [] M Q) (h2 : (¬ (s0 = 0)) → px_T 0 18 0 [some (.ref 44), some (.int x2), some (.int s0)] [] M (fun r M1 => px_T 0 19 41 [some (.ref 44), some (.ref x1), some (.int x2), some (.int s0)] (r.toList ++ []) M1 Q)) : px_T 0 19 26 [some (.ref 44), some (.ref x1), some (.int x2), d3] [.int s0] M Q := by
  rcases h_x1 with rfl | rfl
  · by_cases c1 : s0 = 0
    · obtain ⟨n, h⟩ := h1 c1
      exact ⟨n + 6, ⟨fun _ => h, fun q => absurd c1 q⟩⟩
    · obtain ⟨n, h⟩ := px_T_cl (k := 19) (pc := 38) (y := 18) (st := [.int s0, .int x2, .ref 44]) rfl (h2 c1)
      exact ⟨n + 8, ⟨fun q => absurd q c1, fun _ => ⟨rfl, h⟩⟩⟩
  · by_cases c1 : s0 = 0
    · obtain ⟨n, h⟩ := h1 c1
      exact ⟨n + 6, ⟨fun _ => h, fun q => absurd c1 q⟩⟩
    · obtain ⟨n, h⟩ := px_T_cl (k := 19) (pc := 38) (y := 18) (st := [.int s0, .int x2, .ref 44]) rfl (h2 c1)
      exact ⟨n + 8, ⟨fun q => absurd q c1, fun _ => ⟨rfl, h⟩⟩⟩
theorem sg_19_41 {d0 : Option Value} {d1 : Option Value} {d2 : Option Value} {d3 : Option Value} {M : px_Mem} {Q : px_Po} (h1 : Q none M) : px_T 0 19 41 [d0, d1, d2, d3] [] M Q := by
  exact ⟨1, ⟨rfl, h1⟩⟩
set_option maxRecDepth 20000 in
theorem sg_20_0 {x1 : Nat} {x2 : Int32} {M : px_Mem} {Q : px_Po} (h_x1 : px_isW x1) (h1 : vp_in x2 16) (h2 : vp_in (M.1 (x1 + 1) x2.toNatClampNeg) 16) (h3 : ((M.1 45 ((M.1 (x1 + 1) x2.toNatClampNeg).toNatClampNeg)) = 0) → Q (some (.int 0)) M) (h4 : (¬ ((M.1 45 ((M.1 (x1 + 1) x2.toNatClampNeg).toNatClampNeg)) = 0)) → ((M.1 (x1 + 2) x2.toNatClampNeg) = x2) → Q (some (.int 1)) M) (h5 : (¬ ((M.1 45 ((M.1 (x1 + 1) x2.toNatClampNeg).toNatClampNeg)) = 0)) → (¬ ((M.1 (x1 + 2) x2.toNatClampNeg) = x2)) → ((M.1 (x1 + 2) x2.toNatClampNeg) = (M.1 (x1 + 2) ((M.1 (x1 + 1) x2.toNatClampNeg).toNatClampNeg))) → Q (some (.int 2)) M) (h6 : (¬ ((M.1 45 ((M.1 (x1 + 1) x2.toNatClampNeg).toNatClampNeg)) = 0)) → (¬ ((M.1 (x1 + 2) x2.toNatClampNeg) = x2)) → (¬ ((M.1 (x1 + 2) x2.toNatClampNeg) = (M.1 (x1 + 2) ((M.1 (x1 + 1) x2.toNatClampNeg).toNatClampNeg)))) → ((M.1 (x1 + 1) x2.toNatClampNeg) = 1) → vp_in (M.1 (x1 + 2) x2.toNatClampNeg) 16) (h7 : (¬ ((M.1 45 ((M.1 (x1 + 1) x2.toNatClampNeg).toNatClampNeg)) = 0)) → (¬ ((M.1 (x1 + 2) x2.toNatClampNeg) = x2)) → (¬ ((M.1 (x1 + 2) x2.toNatClampNeg) = (M.1 (x1 + 2) ((M.1 (x1 + 1) x2.toNatClampNeg).toNatClampNeg)))) → ((M.1 (x1 + 1) x2.toNatClampNeg) = 1) → ((M.1 45 ((M.1 (x1 + 2) x2.toNatClampNeg).toNatClampNeg)) = 0) → Q (some (.int 0)) M) (h8 : (¬ ((M.1 45 ((M.1 (x1 + 1) x2.toNatClampNeg).toNatClampNeg)) = 0)) → (¬ ((M.1 (x1 + 2) x2.toNatClampNeg) = x2)) → (¬ ((M.1 (x1 + 2) x2.toNatClampNeg) = (M.1 (x1 + 2) ((M.1 (x1 + 1) x2.toNatClampNeg).toNatClampNeg)))) → ((M.1 (x1 + 1) x2.toNatClampNeg) = 1) → (¬ ((M.1 45 ((M.1 (x1 + 2) x2.toNatClampNeg).toNatClampNeg)) = 0)) → Q (some (.int 4)) M) (h9 : (¬ ((M.1 45 ((M.1 (x1 + 1) x2.toNatClampNeg).toNatClampNeg)) = 0)) → (¬ ((M.1 (x1 + 2) x2.toNatClampNeg) = x2)) → (¬ ((M.1 (x1 + 2) x2.toNatClampNeg) = (M.1 (x1 + 2) ((M.1 (x1 + 1) x2.toNatClampNeg).toNatClampNeg)))) → (¬ ((M.1 (x1 + 1) x2.toNatClampNeg) = 1)) → ((M.1 45 ((M.1 (x1 + 1) x2.toNatClampNeg).toNatClampNeg)) = 1) → vp_in (M.1 (x1 + 1) ((M.1 (x1 + 1) x2.toNatClampNeg).toNatClampNeg)) 16) (h10 : (¬ ((M.1 45 ((M.1 (x1 + 1) x2.toNatClampNeg).toNatClampNeg)) = 0)) → (¬ ((M.1 (x1 + 2) x2.toNatClampNeg) = x2)) → (¬ ((M.1 (x1 + 2) x2.toNatClampNeg) = (M.1 (x1 + 2) ((M.1 (x1 + 1) x2.toNatClampNeg).toNatClampNeg)))) → (¬ ((M.1 (x1 + 1) x2.toNatClampNeg) = 1)) → ((M.1 45 ((M.1 (x1 + 1) x2.toNatClampNeg).toNatClampNeg)) = 1) → ((M.1 (x1 + 2) x2.toNatClampNeg) = (M.1 (x1 + 2) ((M.1 (x1 + 1) ((M.1 (x1 + 1) x2.toNatClampNeg).toNatClampNeg)).toNatClampNeg))) → Q (some (.int 3)) M) (h11 : (¬ ((M.1 45 ((M.1 (x1 + 1) x2.toNatClampNeg).toNatClampNeg)) = 0)) → (¬ ((M.1 (x1 + 2) x2.toNatClampNeg) = x2)) → (¬ ((M.1 (x1 + 2) x2.toNatClampNeg) = (M.1 (x1 + 2) ((M.1 (x1 + 1) x2.toNatClampNeg).toNatClampNeg)))) → (¬ ((M.1 (x1 + 1) x2.toNatClampNeg) = 1)) → ((M.1 45 ((M.1 (x1 + 1) x2.toNatClampNeg).toNatClampNeg)) = 1) → (¬ ((M.1 (x1 + 2) x2.toNatClampNeg) = (M.1 (x1 + 2) ((M.1 (x1 + 1) ((M.1 (x1 + 1) x2.toNatClampNeg).toNatClampNeg)).toNatClampNeg)))) → Q (some (.int 0)) M) (h12 : (¬ ((M.1 45 ((M.1 (x1 + 1) x2.toNatClampNeg).toNatClampNeg)) = 0)) → (¬ ((M.1 (x1 + 2) x2.toNatClampNeg) = x2)) → (¬ ((M.1 (x1 + 2) x2.toNatClampNeg) = (M.1 (x1 + 2) ((M.1 (x1 + 1) x2.toNatClampNeg).toNatClampNeg)))) → (¬ ((M.1 (x1 + 1) x2.toNatClampNeg) = 1)) → (¬ ((M.1 45 ((M.1 (x1 + 1) x2.toNatClampNeg).toNatClampNeg)) = 1)) → Q (some (.int 0)) M) : px_T 0 20 0 [some (.ref 44), some (.ref x1), some (.int x2), none, none] [] M Q := by
  rcases h_x1 with rfl | rfl
  · by_cases c1 : (M.1 45 ((M.1 (29 + 1) x2.toNatClampNeg).toNatClampNeg)) = 0
    · exact ⟨17, ⟨rfl, ⟨Or.inl ⟨0, 16, Or.inl rfl, rfl, h1⟩, ⟨rfl, ⟨Or.inl ⟨0, 16, Or.inl rfl, rfl, h1⟩, ⟨rfl, ⟨Or.inl ⟨0, 16, Or.inl rfl, rfl, h2⟩, ⟨fun q => absurd c1 q, fun _ => ⟨trivial, h3 c1⟩⟩⟩⟩⟩⟩⟩⟩⟩
    · by_cases c2 : (M.1 (29 + 2) x2.toNatClampNeg) = x2
      · exact ⟨20, ⟨rfl, ⟨Or.inl ⟨0, 16, Or.inl rfl, rfl, h1⟩, ⟨rfl, ⟨Or.inl ⟨0, 16, Or.inl rfl, rfl, h1⟩, ⟨rfl, ⟨Or.inl ⟨0, 16, Or.inl rfl, rfl, h2⟩, ⟨fun _ => ⟨fun q => absurd c2 q, fun _ => ⟨trivial, h4 c1 c2⟩⟩, fun q => absurd q c1⟩⟩⟩⟩⟩⟩⟩⟩
      · by_cases c3 : (M.1 (29 + 2) x2.toNatClampNeg) = (M.1 (29 + 2) ((M.1 (29 + 1) x2.toNatClampNeg).toNatClampNeg))
        · exact ⟨26, ⟨rfl, ⟨Or.inl ⟨0, 16, Or.inl rfl, rfl, h1⟩, ⟨rfl, ⟨Or.inl ⟨0, 16, Or.inl rfl, rfl, h1⟩, ⟨rfl, ⟨Or.inl ⟨0, 16, Or.inl rfl, rfl, h2⟩, ⟨fun _ => ⟨fun _ => ⟨rfl, ⟨Or.inl ⟨0, 16, Or.inl rfl, rfl, h2⟩, ⟨fun q => absurd c3 q, fun _ => ⟨trivial, h5 c1 c2 c3⟩⟩⟩⟩, fun q => absurd q c2⟩, fun q => absurd q c1⟩⟩⟩⟩⟩⟩⟩⟩
        · by_cases c4 : (M.1 (29 + 1) x2.toNatClampNeg) = 1
          · by_cases c5 : (M.1 45 ((M.1 (29 + 2) x2.toNatClampNeg).toNatClampNeg)) = 0
            · exact ⟨34, ⟨rfl, ⟨Or.inl ⟨0, 16, Or.inl rfl, rfl, h1⟩, ⟨rfl, ⟨Or.inl ⟨0, 16, Or.inl rfl, rfl, h1⟩, ⟨rfl, ⟨Or.inl ⟨0, 16, Or.inl rfl, rfl, h2⟩, ⟨fun _ => ⟨fun _ => ⟨rfl, ⟨Or.inl ⟨0, 16, Or.inl rfl, rfl, h2⟩, ⟨fun _ => ⟨fun q => absurd c4 q, fun _ => ⟨rfl, ⟨Or.inl ⟨0, 16, Or.inl rfl, rfl, (h6 c1 c2 c3 c4)⟩, ⟨fun _ => ⟨trivial, h7 c1 c2 c3 c4 c5⟩, fun q => absurd c5 q⟩⟩⟩⟩, fun q => absurd q c3⟩⟩⟩, fun q => absurd q c2⟩, fun q => absurd q c1⟩⟩⟩⟩⟩⟩⟩⟩
            · exact ⟨35, ⟨rfl, ⟨Or.inl ⟨0, 16, Or.inl rfl, rfl, h1⟩, ⟨rfl, ⟨Or.inl ⟨0, 16, Or.inl rfl, rfl, h1⟩, ⟨rfl, ⟨Or.inl ⟨0, 16, Or.inl rfl, rfl, h2⟩, ⟨fun _ => ⟨fun _ => ⟨rfl, ⟨Or.inl ⟨0, 16, Or.inl rfl, rfl, h2⟩, ⟨fun _ => ⟨fun q => absurd c4 q, fun _ => ⟨rfl, ⟨Or.inl ⟨0, 16, Or.inl rfl, rfl, (h6 c1 c2 c3 c4)⟩, ⟨fun q => absurd q c5, fun _ => ⟨trivial, h8 c1 c2 c3 c4 c5⟩⟩⟩⟩⟩, fun q => absurd q c3⟩⟩⟩, fun q => absurd q c2⟩, fun q => absurd q c1⟩⟩⟩⟩⟩⟩⟩⟩
          · by_cases c6 : (M.1 45 ((M.1 (29 + 1) x2.toNatClampNeg).toNatClampNeg)) = 1
            · by_cases c7 : (M.1 (29 + 2) x2.toNatClampNeg) = (M.1 (29 + 2) ((M.1 (29 + 1) ((M.1 (29 + 1) x2.toNatClampNeg).toNatClampNeg)).toNatClampNeg))
              · exact ⟨45, ⟨rfl, ⟨Or.inl ⟨0, 16, Or.inl rfl, rfl, h1⟩, ⟨rfl, ⟨Or.inl ⟨0, 16, Or.inl rfl, rfl, h1⟩, ⟨rfl, ⟨Or.inl ⟨0, 16, Or.inl rfl, rfl, h2⟩, ⟨fun _ => ⟨fun _ => ⟨rfl, ⟨Or.inl ⟨0, 16, Or.inl rfl, rfl, h2⟩, ⟨fun _ => ⟨fun _ => ⟨rfl, ⟨Or.inl ⟨0, 16, Or.inl rfl, rfl, h2⟩, ⟨fun q => absurd c6 q, fun _ => ⟨rfl, ⟨rfl, ⟨Or.inl ⟨0, 16, Or.inl rfl, rfl, h2⟩, ⟨Or.inl ⟨0, 16, Or.inl rfl, rfl, (h9 c1 c2 c3 c4 c6)⟩, ⟨fun q => absurd c7 q, fun _ => ⟨trivial, h10 c1 c2 c3 c4 c6 c7⟩⟩⟩⟩⟩⟩⟩⟩⟩, fun q => absurd q c4⟩, fun q => absurd q c3⟩⟩⟩, fun q => absurd q c2⟩, fun q => absurd q c1⟩⟩⟩⟩⟩⟩⟩⟩
              · exact ⟨44, ⟨rfl, ⟨Or.inl ⟨0, 16, Or.inl rfl, rfl, h1⟩, ⟨rfl, ⟨Or.inl ⟨0, 16, Or.inl rfl, rfl, h1⟩, ⟨rfl, ⟨Or.inl ⟨0, 16, Or.inl rfl, rfl, h2⟩, ⟨fun _ => ⟨fun _ => ⟨rfl, ⟨Or.inl ⟨0, 16, Or.inl rfl, rfl, h2⟩, ⟨fun _ => ⟨fun _ => ⟨rfl, ⟨Or.inl ⟨0, 16, Or.inl rfl, rfl, h2⟩, ⟨fun q => absurd c6 q, fun _ => ⟨rfl, ⟨rfl, ⟨Or.inl ⟨0, 16, Or.inl rfl, rfl, h2⟩, ⟨Or.inl ⟨0, 16, Or.inl rfl, rfl, (h9 c1 c2 c3 c4 c6)⟩, ⟨fun _ => ⟨trivial, h11 c1 c2 c3 c4 c6 c7⟩, fun q => absurd q c7⟩⟩⟩⟩⟩⟩⟩⟩, fun q => absurd q c4⟩, fun q => absurd q c3⟩⟩⟩, fun q => absurd q c2⟩, fun q => absurd q c1⟩⟩⟩⟩⟩⟩⟩⟩
            · exact ⟨35, ⟨rfl, ⟨Or.inl ⟨0, 16, Or.inl rfl, rfl, h1⟩, ⟨rfl, ⟨Or.inl ⟨0, 16, Or.inl rfl, rfl, h1⟩, ⟨rfl, ⟨Or.inl ⟨0, 16, Or.inl rfl, rfl, h2⟩, ⟨fun _ => ⟨fun _ => ⟨rfl, ⟨Or.inl ⟨0, 16, Or.inl rfl, rfl, h2⟩, ⟨fun _ => ⟨fun _ => ⟨rfl, ⟨Or.inl ⟨0, 16, Or.inl rfl, rfl, h2⟩, ⟨fun _ => ⟨trivial, h12 c1 c2 c3 c4 c6⟩, fun q => absurd q c6⟩⟩⟩, fun q => absurd q c4⟩, fun q => absurd q c3⟩⟩⟩, fun q => absurd q c2⟩, fun q => absurd q c1⟩⟩⟩⟩⟩⟩⟩⟩
  · by_cases c1 : (M.1 45 ((M.1 (47 + 1) x2.toNatClampNeg).toNatClampNeg)) = 0
    · exact ⟨17, ⟨rfl, ⟨Or.inl ⟨0, 16, Or.inl rfl, rfl, h1⟩, ⟨rfl, ⟨Or.inl ⟨0, 16, Or.inl rfl, rfl, h1⟩, ⟨rfl, ⟨Or.inl ⟨0, 16, Or.inl rfl, rfl, h2⟩, ⟨fun q => absurd c1 q, fun _ => ⟨trivial, h3 c1⟩⟩⟩⟩⟩⟩⟩⟩⟩
    · by_cases c2 : (M.1 (47 + 2) x2.toNatClampNeg) = x2
      · exact ⟨20, ⟨rfl, ⟨Or.inl ⟨0, 16, Or.inl rfl, rfl, h1⟩, ⟨rfl, ⟨Or.inl ⟨0, 16, Or.inl rfl, rfl, h1⟩, ⟨rfl, ⟨Or.inl ⟨0, 16, Or.inl rfl, rfl, h2⟩, ⟨fun _ => ⟨fun q => absurd c2 q, fun _ => ⟨trivial, h4 c1 c2⟩⟩, fun q => absurd q c1⟩⟩⟩⟩⟩⟩⟩⟩
      · by_cases c3 : (M.1 (47 + 2) x2.toNatClampNeg) = (M.1 (47 + 2) ((M.1 (47 + 1) x2.toNatClampNeg).toNatClampNeg))
        · exact ⟨26, ⟨rfl, ⟨Or.inl ⟨0, 16, Or.inl rfl, rfl, h1⟩, ⟨rfl, ⟨Or.inl ⟨0, 16, Or.inl rfl, rfl, h1⟩, ⟨rfl, ⟨Or.inl ⟨0, 16, Or.inl rfl, rfl, h2⟩, ⟨fun _ => ⟨fun _ => ⟨rfl, ⟨Or.inl ⟨0, 16, Or.inl rfl, rfl, h2⟩, ⟨fun q => absurd c3 q, fun _ => ⟨trivial, h5 c1 c2 c3⟩⟩⟩⟩, fun q => absurd q c2⟩, fun q => absurd q c1⟩⟩⟩⟩⟩⟩⟩⟩
        · by_cases c4 : (M.1 (47 + 1) x2.toNatClampNeg) = 1
          · by_cases c5 : (M.1 45 ((M.1 (47 + 2) x2.toNatClampNeg).toNatClampNeg)) = 0
            · exact ⟨34, ⟨rfl, ⟨Or.inl ⟨0, 16, Or.inl rfl, rfl, h1⟩, ⟨rfl, ⟨Or.inl ⟨0, 16, Or.inl rfl, rfl, h1⟩, ⟨rfl, ⟨Or.inl ⟨0, 16, Or.inl rfl, rfl, h2⟩, ⟨fun _ => ⟨fun _ => ⟨rfl, ⟨Or.inl ⟨0, 16, Or.inl rfl, rfl, h2⟩, ⟨fun _ => ⟨fun q => absurd c4 q, fun _ => ⟨rfl, ⟨Or.inl ⟨0, 16, Or.inl rfl, rfl, (h6 c1 c2 c3 c4)⟩, ⟨fun _ => ⟨trivial, h7 c1 c2 c3 c4 c5⟩, fun q => absurd c5 q⟩⟩⟩⟩, fun q => absurd q c3⟩⟩⟩, fun q => absurd q c2⟩, fun q => absurd q c1⟩⟩⟩⟩⟩⟩⟩⟩
            · exact ⟨35, ⟨rfl, ⟨Or.inl ⟨0, 16, Or.inl rfl, rfl, h1⟩, ⟨rfl, ⟨Or.inl ⟨0, 16, Or.inl rfl, rfl, h1⟩, ⟨rfl, ⟨Or.inl ⟨0, 16, Or.inl rfl, rfl, h2⟩, ⟨fun _ => ⟨fun _ => ⟨rfl, ⟨Or.inl ⟨0, 16, Or.inl rfl, rfl, h2⟩, ⟨fun _ => ⟨fun q => absurd c4 q, fun _ => ⟨rfl, ⟨Or.inl ⟨0, 16, Or.inl rfl, rfl, (h6 c1 c2 c3 c4)⟩, ⟨fun q => absurd q c5, fun _ => ⟨trivial, h8 c1 c2 c3 c4 c5⟩⟩⟩⟩⟩, fun q => absurd q c3⟩⟩⟩, fun q => absurd q c2⟩, fun q => absurd q c1⟩⟩⟩⟩⟩⟩⟩⟩
          · by_cases c6 : (M.1 45 ((M.1 (47 + 1) x2.toNatClampNeg).toNatClampNeg)) = 1
            · by_cases c7 : (M.1 (47 + 2) x2.toNatClampNeg) = (M.1 (47 + 2) ((M.1 (47 + 1) ((M.1 (47 + 1) x2.toNatClampNeg).toNatClampNeg)).toNatClampNeg))
              · exact ⟨45, ⟨rfl, ⟨Or.inl ⟨0, 16, Or.inl rfl, rfl, h1⟩, ⟨rfl, ⟨Or.inl ⟨0, 16, Or.inl rfl, rfl, h1⟩, ⟨rfl, ⟨Or.inl ⟨0, 16, Or.inl rfl, rfl, h2⟩, ⟨fun _ => ⟨fun _ => ⟨rfl, ⟨Or.inl ⟨0, 16, Or.inl rfl, rfl, h2⟩, ⟨fun _ => ⟨fun _ => ⟨rfl, ⟨Or.inl ⟨0, 16, Or.inl rfl, rfl, h2⟩, ⟨fun q => absurd c6 q, fun _ => ⟨rfl, ⟨rfl, ⟨Or.inl ⟨0, 16, Or.inl rfl, rfl, h2⟩, ⟨Or.inl ⟨0, 16, Or.inl rfl, rfl, (h9 c1 c2 c3 c4 c6)⟩, ⟨fun q => absurd c7 q, fun _ => ⟨trivial, h10 c1 c2 c3 c4 c6 c7⟩⟩⟩⟩⟩⟩⟩⟩⟩, fun q => absurd q c4⟩, fun q => absurd q c3⟩⟩⟩, fun q => absurd q c2⟩, fun q => absurd q c1⟩⟩⟩⟩⟩⟩⟩⟩
              · exact ⟨44, ⟨rfl, ⟨Or.inl ⟨0, 16, Or.inl rfl, rfl, h1⟩, ⟨rfl, ⟨Or.inl ⟨0, 16, Or.inl rfl, rfl, h1⟩, ⟨rfl, ⟨Or.inl ⟨0, 16, Or.inl rfl, rfl, h2⟩, ⟨fun _ => ⟨fun _ => ⟨rfl, ⟨Or.inl ⟨0, 16, Or.inl rfl, rfl, h2⟩, ⟨fun _ => ⟨fun _ => ⟨rfl, ⟨Or.inl ⟨0, 16, Or.inl rfl, rfl, h2⟩, ⟨fun q => absurd c6 q, fun _ => ⟨rfl, ⟨rfl, ⟨Or.inl ⟨0, 16, Or.inl rfl, rfl, h2⟩, ⟨Or.inl ⟨0, 16, Or.inl rfl, rfl, (h9 c1 c2 c3 c4 c6)⟩, ⟨fun _ => ⟨trivial, h11 c1 c2 c3 c4 c6 c7⟩, fun q => absurd q c7⟩⟩⟩⟩⟩⟩⟩⟩, fun q => absurd q c4⟩, fun q => absurd q c3⟩⟩⟩, fun q => absurd q c2⟩, fun q => absurd q c1⟩⟩⟩⟩⟩⟩⟩⟩
            · exact ⟨35, ⟨rfl, ⟨Or.inl ⟨0, 16, Or.inl rfl, rfl, h1⟩, ⟨rfl, ⟨Or.inl ⟨0, 16, Or.inl rfl, rfl, h1⟩, ⟨rfl, ⟨Or.inl ⟨0, 16, Or.inl rfl, rfl, h2⟩, ⟨fun _ => ⟨fun _ => ⟨rfl, ⟨Or.inl ⟨0, 16, Or.inl rfl, rfl, h2⟩, ⟨fun _ => ⟨fun _ => ⟨rfl, ⟨Or.inl ⟨0, 16, Or.inl rfl, rfl, h2⟩, ⟨fun _ => ⟨trivial, h12 c1 c2 c3 c4 c6⟩, fun q => absurd q c6⟩⟩⟩, fun q => absurd q c4⟩, fun q => absurd q c3⟩⟩⟩, fun q => absurd q c2⟩, fun q => absurd q c1⟩⟩⟩⟩⟩⟩⟩⟩
theorem sg_21_0 {x1 : Nat} {M : px_Mem} {Q : px_Po} (h_x1 : px_isS x1) (h1 : px_T 0 56 0 [some (.ref x1)] [] M (fun r M1 => px_T 0 21 4 [some (.ref 3), some (.ref x1), none] (r.toList ++ []) M1 Q)) : px_T 0 21 0 [some (.ref 3), some (.ref x1), none] [] M Q := by
  rcases h_x1 with rfl | rfl | rfl | rfl | rfl
  · obtain ⟨n, h⟩ := px_T_cl (k := 21) (pc := 1) (y := 56) (st := [.ref 4]) rfl (h1)
    exact ⟨n + 2, ⟨rfl, h⟩⟩
  · obtain ⟨n, h⟩ := px_T_cl (k := 21) (pc := 1) (y := 56) (st := [.ref 6]) rfl (h1)
    exact ⟨n + 2, ⟨rfl, h⟩⟩
  · obtain ⟨n, h⟩ := px_T_cl (k := 21) (pc := 1) (y := 56) (st := [.ref 9]) rfl (h1)
    exact ⟨n + 2, ⟨rfl, h⟩⟩
  · obtain ⟨n, h⟩ := px_T_cl (k := 21) (pc := 1) (y := 56) (st := [.ref 11]) rfl (h1)
    exact ⟨n + 2, ⟨rfl, h⟩⟩
  · obtain ⟨n, h⟩ := px_T_cl (k := 21) (pc := 1) (y := 56) (st := [.ref 13]) rfl (h1)
    exact ⟨n + 2, ⟨rfl, h⟩⟩
theorem sg_21_4 {x1 : Nat} {d2 : Option Value} {M : px_Mem} {Q : px_Po} (h_x1 : px_isS x1) (h1 : px_T 0 30 0 [some (.ref 3)] [] (px_wI (px_wI (px_wI M 3 1 0) 3 2 (-1)) 3 5 0) (fun r M1 => px_T 0 21 23 [some (.ref 3), some (.ref x1), d2] (r.toList ++ []) M1 Q)) : px_T 0 21 4 [some (.ref 3), some (.ref x1), d2] [] M Q := by
  rcases h_x1 with rfl | rfl | rfl | rfl | rfl
  · obtain ⟨n, h⟩ := px_T_cl (k := 21) (pc := 20) (y := 30) (st := [.ref 3]) rfl (h1)
    exact ⟨n + 11, ⟨rfl, ⟨rfl, ⟨rfl, ⟨rfl, h⟩⟩⟩⟩⟩
  · obtain ⟨n, h⟩ := px_T_cl (k := 21) (pc := 20) (y := 30) (st := [.ref 3]) rfl (h1)
    exact ⟨n + 11, ⟨rfl, ⟨rfl, ⟨rfl, ⟨rfl, h⟩⟩⟩⟩⟩
  · obtain ⟨n, h⟩ := px_T_cl (k := 21) (pc := 20) (y := 30) (st := [.ref 3]) rfl (h1)
    exact ⟨n + 11, ⟨rfl, ⟨rfl, ⟨rfl, ⟨rfl, h⟩⟩⟩⟩⟩
  · obtain ⟨n, h⟩ := px_T_cl (k := 21) (pc := 20) (y := 30) (st := [.ref 3]) rfl (h1)
    exact ⟨n + 11, ⟨rfl, ⟨rfl, ⟨rfl, ⟨rfl, h⟩⟩⟩⟩⟩
  · obtain ⟨n, h⟩ := px_T_cl (k := 21) (pc := 20) (y := 30) (st := [.ref 3]) rfl (h1)
    exact ⟨n + 11, ⟨rfl, ⟨rfl, ⟨rfl, ⟨rfl, h⟩⟩⟩⟩⟩
theorem sg_21_23 {x1 : Nat} {d2 : Option Value} {M : px_Mem} {Q : px_Po} (h_x1 : px_isS x1) (h1 : px_T 0 21 25 [some (.ref 3), some (.ref x1), some (.int 0)] [] M Q) : px_T 0 21 23 [some (.ref 3), some (.ref x1), d2] [] M Q := by
  rcases h_x1 with rfl | rfl | rfl | rfl | rfl
  · obtain ⟨n, h⟩ := h1
    exact ⟨n + 2, h⟩
  · obtain ⟨n, h⟩ := h1
    exact ⟨n + 2, h⟩
  · obtain ⟨n, h⟩ := h1
    exact ⟨n + 2, h⟩
  · obtain ⟨n, h⟩ := h1
    exact ⟨n + 2, h⟩
  · obtain ⟨n, h⟩ := h1
    exact ⟨n + 2, h⟩
theorem sg_21_25 {x1 : Nat} {x2 : Int32} {M : px_Mem} {Q : px_Po} (h_x1 : px_isS x1) (h1 : ((900 : Int32) < x2) → Q none M) (h2 : (¬ ((900 : Int32) < x2)) → ((M.1 3 1) = 0) → ((M.1 3 3) = 0) → Q none M) (h3 : (¬ ((900 : Int32) < x2)) → ((M.1 3 1) = 0) → (¬ ((M.1 3 3) = 0)) → ((M.1 x1 1) = 0) → px_T 0 22 0 [some (.ref 3), some (.ref x1)] [] M (fun r M1 => px_T 0 21 58 [some (.ref 3), some (.ref x1), some (.int x2)] (r.toList ++ []) M1 Q)) (h4 : (¬ ((900 : Int32) < x2)) → ((M.1 3 1) = 0) → (¬ ((M.1 3 3) = 0)) → (¬ ((M.1 x1 1) = 0)) → px_T 0 23 0 [some (.ref 3), some (.ref x1), none, none, none] [] M (fun r M1 => px_T 0 21 66 [some (.ref 3), some (.ref x1), some (.int x2)] (r.toList ++ []) M1 Q)) (h5 : (¬ ((900 : Int32) < x2)) → (¬ ((M.1 3 1) = 0)) → Q none M) : px_T 0 21 25 [some (.ref 3), some (.ref x1), some (.int x2)] [] M Q := by
  rcases h_x1 with rfl | rfl | rfl | rfl | rfl
  · by_cases c1 : (900 : Int32) < x2
    · exact ⟨4, ⟨fun _ => ⟨rfl, h1 c1⟩, fun q => absurd c1 q⟩⟩
    · by_cases c2 : (M.1 3 1) = 0
      · by_cases c3 : (M.1 3 3) = 0
        · exact ⟨10, ⟨fun q => absurd q c1, fun _ => ⟨rfl, ⟨fun q => absurd c2 q, fun _ => ⟨rfl, ⟨fun _ => ⟨rfl, h2 c1 c2 c3⟩, fun q => absurd c3 q⟩⟩⟩⟩⟩⟩
        · by_cases c4 : (M.1 4 1) = 0
          · obtain ⟨n, h⟩ := px_T_cl (k := 21) (pc := 55) (y := 22) (st := [.ref 4, .ref 3]) rfl (h3 c1 c2 c3 c4)
            exact ⟨n + 15, ⟨fun q => absurd q c1, fun _ => ⟨rfl, ⟨fun q => absurd c2 q, fun _ => ⟨rfl, ⟨fun q => absurd q c3, fun _ => ⟨rfl, ⟨fun q => absurd c4 q, fun _ => ⟨rfl, h⟩⟩⟩⟩⟩⟩⟩⟩⟩
          · obtain ⟨n, h⟩ := px_T_cl (k := 21) (pc := 63) (y := 23) (st := [.ref 4, .ref 3]) rfl (h4 c1 c2 c3 c4)
            exact ⟨n + 15, ⟨fun q => absurd q c1, fun _ => ⟨rfl, ⟨fun q => absurd c2 q, fun _ => ⟨rfl, ⟨fun q => absurd q c3, fun _ => ⟨rfl, ⟨fun _ => ⟨rfl, h⟩, fun q => absurd q c4⟩⟩⟩⟩⟩⟩⟩⟩
      · exact ⟨7, ⟨fun q => absurd q c1, fun _ => ⟨rfl, ⟨fun _ => ⟨rfl, h5 c1 c2⟩, fun q => absurd q c2⟩⟩⟩⟩
  · by_cases c1 : (900 : Int32) < x2
    · exact ⟨4, ⟨fun _ => ⟨rfl, h1 c1⟩, fun q => absurd c1 q⟩⟩
    · by_cases c2 : (M.1 3 1) = 0
      · by_cases c3 : (M.1 3 3) = 0
        · exact ⟨10, ⟨fun q => absurd q c1, fun _ => ⟨rfl, ⟨fun q => absurd c2 q, fun _ => ⟨rfl, ⟨fun _ => ⟨rfl, h2 c1 c2 c3⟩, fun q => absurd c3 q⟩⟩⟩⟩⟩⟩
        · by_cases c4 : (M.1 6 1) = 0
          · obtain ⟨n, h⟩ := px_T_cl (k := 21) (pc := 55) (y := 22) (st := [.ref 6, .ref 3]) rfl (h3 c1 c2 c3 c4)
            exact ⟨n + 15, ⟨fun q => absurd q c1, fun _ => ⟨rfl, ⟨fun q => absurd c2 q, fun _ => ⟨rfl, ⟨fun q => absurd q c3, fun _ => ⟨rfl, ⟨fun q => absurd c4 q, fun _ => ⟨rfl, h⟩⟩⟩⟩⟩⟩⟩⟩⟩
          · obtain ⟨n, h⟩ := px_T_cl (k := 21) (pc := 63) (y := 23) (st := [.ref 6, .ref 3]) rfl (h4 c1 c2 c3 c4)
            exact ⟨n + 15, ⟨fun q => absurd q c1, fun _ => ⟨rfl, ⟨fun q => absurd c2 q, fun _ => ⟨rfl, ⟨fun q => absurd q c3, fun _ => ⟨rfl, ⟨fun _ => ⟨rfl, h⟩, fun q => absurd q c4⟩⟩⟩⟩⟩⟩⟩⟩
      · exact ⟨7, ⟨fun q => absurd q c1, fun _ => ⟨rfl, ⟨fun _ => ⟨rfl, h5 c1 c2⟩, fun q => absurd q c2⟩⟩⟩⟩
  · by_cases c1 : (900 : Int32) < x2
    · exact ⟨4, ⟨fun _ => ⟨rfl, h1 c1⟩, fun q => absurd c1 q⟩⟩
    · by_cases c2 : (M.1 3 1) = 0
      · by_cases c3 : (M.1 3 3) = 0
        · exact ⟨10, ⟨fun q => absurd q c1, fun _ => ⟨rfl, ⟨fun q => absurd c2 q, fun _ => ⟨rfl, ⟨fun _ => ⟨rfl, h2 c1 c2 c3⟩, fun q => absurd c3 q⟩⟩⟩⟩⟩⟩
        · by_cases c4 : (M.1 9 1) = 0
          · obtain ⟨n, h⟩ := px_T_cl (k := 21) (pc := 55) (y := 22) (st := [.ref 9, .ref 3]) rfl (h3 c1 c2 c3 c4)
            exact ⟨n + 15, ⟨fun q => absurd q c1, fun _ => ⟨rfl, ⟨fun q => absurd c2 q, fun _ => ⟨rfl, ⟨fun q => absurd q c3, fun _ => ⟨rfl, ⟨fun q => absurd c4 q, fun _ => ⟨rfl, h⟩⟩⟩⟩⟩⟩⟩⟩⟩
          · obtain ⟨n, h⟩ := px_T_cl (k := 21) (pc := 63) (y := 23) (st := [.ref 9, .ref 3]) rfl (h4 c1 c2 c3 c4)
            exact ⟨n + 15, ⟨fun q => absurd q c1, fun _ => ⟨rfl, ⟨fun q => absurd c2 q, fun _ => ⟨rfl, ⟨fun q => absurd q c3, fun _ => ⟨rfl, ⟨fun _ => ⟨rfl, h⟩, fun q => absurd q c4⟩⟩⟩⟩⟩⟩⟩⟩
      · exact ⟨7, ⟨fun q => absurd q c1, fun _ => ⟨rfl, ⟨fun _ => ⟨rfl, h5 c1 c2⟩, fun q => absurd q c2⟩⟩⟩⟩
  · by_cases c1 : (900 : Int32) < x2
    · exact ⟨4, ⟨fun _ => ⟨rfl, h1 c1⟩, fun q => absurd c1 q⟩⟩
    · by_cases c2 : (M.1 3 1) = 0
      · by_cases c3 : (M.1 3 3) = 0
        · exact ⟨10, ⟨fun q => absurd q c1, fun _ => ⟨rfl, ⟨fun q => absurd c2 q, fun _ => ⟨rfl, ⟨fun _ => ⟨rfl, h2 c1 c2 c3⟩, fun q => absurd c3 q⟩⟩⟩⟩⟩⟩
        · by_cases c4 : (M.1 11 1) = 0
          · obtain ⟨n, h⟩ := px_T_cl (k := 21) (pc := 55) (y := 22) (st := [.ref 11, .ref 3]) rfl (h3 c1 c2 c3 c4)
            exact ⟨n + 15, ⟨fun q => absurd q c1, fun _ => ⟨rfl, ⟨fun q => absurd c2 q, fun _ => ⟨rfl, ⟨fun q => absurd q c3, fun _ => ⟨rfl, ⟨fun q => absurd c4 q, fun _ => ⟨rfl, h⟩⟩⟩⟩⟩⟩⟩⟩⟩
          · obtain ⟨n, h⟩ := px_T_cl (k := 21) (pc := 63) (y := 23) (st := [.ref 11, .ref 3]) rfl (h4 c1 c2 c3 c4)
            exact ⟨n + 15, ⟨fun q => absurd q c1, fun _ => ⟨rfl, ⟨fun q => absurd c2 q, fun _ => ⟨rfl, ⟨fun q => absurd q c3, fun _ => ⟨rfl, ⟨fun _ => ⟨rfl, h⟩, fun q => absurd q c4⟩⟩⟩⟩⟩⟩⟩⟩
      · exact ⟨7, ⟨fun q => absurd q c1, fun _ => ⟨rfl, ⟨fun _ => ⟨rfl, h5 c1 c2⟩, fun q => absurd q c2⟩⟩⟩⟩
  · by_cases c1 : (900 : Int32) < x2
    · exact ⟨4, ⟨fun _ => ⟨rfl, h1 c1⟩, fun q => absurd c1 q⟩⟩
    · by_cases c2 : (M.1 3 1) = 0
      · by_cases c3 : (M.1 3 3) = 0
        · exact ⟨10, ⟨fun q => absurd q c1, fun _ => ⟨rfl, ⟨fun q => absurd c2 q, fun _ => ⟨rfl, ⟨fun _ => ⟨rfl, h2 c1 c2 c3⟩, fun q => absurd c3 q⟩⟩⟩⟩⟩⟩
        · by_cases c4 : (M.1 13 1) = 0
          · obtain ⟨n, h⟩ := px_T_cl (k := 21) (pc := 55) (y := 22) (st := [.ref 13, .ref 3]) rfl (h3 c1 c2 c3 c4)
            exact ⟨n + 15, ⟨fun q => absurd q c1, fun _ => ⟨rfl, ⟨fun q => absurd c2 q, fun _ => ⟨rfl, ⟨fun q => absurd q c3, fun _ => ⟨rfl, ⟨fun q => absurd c4 q, fun _ => ⟨rfl, h⟩⟩⟩⟩⟩⟩⟩⟩⟩
          · obtain ⟨n, h⟩ := px_T_cl (k := 21) (pc := 63) (y := 23) (st := [.ref 13, .ref 3]) rfl (h4 c1 c2 c3 c4)
            exact ⟨n + 15, ⟨fun q => absurd q c1, fun _ => ⟨rfl, ⟨fun q => absurd c2 q, fun _ => ⟨rfl, ⟨fun q => absurd q c3, fun _ => ⟨rfl, ⟨fun _ => ⟨rfl, h⟩, fun q => absurd q c4⟩⟩⟩⟩⟩⟩⟩⟩
      · exact ⟨7, ⟨fun q => absurd q c1, fun _ => ⟨rfl, ⟨fun _ => ⟨rfl, h5 c1 c2⟩, fun q => absurd q c2⟩⟩⟩⟩
theorem sg_21_58 {x1 : Nat} {x2 : Int32} {M : px_Mem} {Q : px_Po} (h_x1 : px_isS x1) (h1 : px_T 0 21 25 [some (.ref 3), some (.ref x1), some (.int (x2 + 1))] [] (px_wI M x1 1 ((M.1 x1 1) + 1)) Q) : px_T 0 21 58 [some (.ref 3), some (.ref x1), some (.int x2)] [] M Q := by
  rcases h_x1 with rfl | rfl | rfl | rfl | rfl
  · obtain ⟨n, h⟩ := h1
    exact ⟨n + 9, ⟨rfl, ⟨rfl, h⟩⟩⟩
  · obtain ⟨n, h⟩ := h1
    exact ⟨n + 9, ⟨rfl, ⟨rfl, h⟩⟩⟩
  · obtain ⟨n, h⟩ := h1
    exact ⟨n + 9, ⟨rfl, ⟨rfl, h⟩⟩⟩
  · obtain ⟨n, h⟩ := h1
    exact ⟨n + 9, ⟨rfl, ⟨rfl, h⟩⟩⟩
  · obtain ⟨n, h⟩ := h1
    exact ⟨n + 9, ⟨rfl, ⟨rfl, h⟩⟩⟩
theorem sg_21_66 {x1 : Nat} {x2 : Int32} {M : px_Mem} {Q : px_Po} (h_x1 : px_isS x1) (h1 : px_T 0 21 25 [some (.ref 3), some (.ref x1), some (.int (x2 + 1))] [] (px_wI M x1 1 ((M.1 x1 1) + 1)) Q) : px_T 0 21 66 [some (.ref 3), some (.ref x1), some (.int x2)] [] M Q := by
  rcases h_x1 with rfl | rfl | rfl | rfl | rfl
  · obtain ⟨n, h⟩ := h1
    exact ⟨n + 8, ⟨rfl, ⟨rfl, h⟩⟩⟩
  · obtain ⟨n, h⟩ := h1
    exact ⟨n + 8, ⟨rfl, ⟨rfl, h⟩⟩⟩
  · obtain ⟨n, h⟩ := h1
    exact ⟨n + 8, ⟨rfl, ⟨rfl, h⟩⟩⟩
  · obtain ⟨n, h⟩ := h1
    exact ⟨n + 8, ⟨rfl, ⟨rfl, h⟩⟩⟩
  · obtain ⟨n, h⟩ := h1
    exact ⟨n + 8, ⟨rfl, ⟨rfl, h⟩⟩⟩
theorem sg_22_0 {x1 : Nat} {M : px_Mem} {Q : px_Po} (h_x1 : px_isS x1) (h1 : px_T 0 26 0 [some (.ref 3), some (.ref 1111)] [] M (fun r M1 => px_T 0 22 6 [some (.ref 3), some (.ref x1)] (r.toList ++ []) M1 Q)) : px_T 0 22 0 [some (.ref 3), some (.ref x1)] [] M Q := by
  rcases h_x1 with rfl | rfl | rfl | rfl | rfl
  · obtain ⟨n, h⟩ := px_T_cl (k := 22) (pc := 3) (y := 26) (st := [.ref 1111, .ref 3]) rfl (h1)
    exact ⟨n + 3, ⟨rfl, ⟨rfl, h⟩⟩⟩
  · obtain ⟨n, h⟩ := px_T_cl (k := 22) (pc := 3) (y := 26) (st := [.ref 1111, .ref 3]) rfl (h1)
    exact ⟨n + 3, ⟨rfl, ⟨rfl, h⟩⟩⟩
  · obtain ⟨n, h⟩ := px_T_cl (k := 22) (pc := 3) (y := 26) (st := [.ref 1111, .ref 3]) rfl (h1)
    exact ⟨n + 3, ⟨rfl, ⟨rfl, h⟩⟩⟩
  · obtain ⟨n, h⟩ := px_T_cl (k := 22) (pc := 3) (y := 26) (st := [.ref 1111, .ref 3]) rfl (h1)
    exact ⟨n + 3, ⟨rfl, ⟨rfl, h⟩⟩⟩
  · obtain ⟨n, h⟩ := px_T_cl (k := 22) (pc := 3) (y := 26) (st := [.ref 1111, .ref 3]) rfl (h1)
    exact ⟨n + 3, ⟨rfl, ⟨rfl, h⟩⟩⟩
