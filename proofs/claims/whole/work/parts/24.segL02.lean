theorem sg_342_992 {x3 : Int32} {s0 : Int32} {s1 : Int32} {M : px_Mem} {Q : px_Po} (h1 : (s1 = s0) → px_T 0 342 2285 [some (.ref 1000), some (.ref 0), some (.ref 56), some (.int x3)] [] M Q) (h2 : (¬ (s1 = s0)) → Q (some (.int 0)) M) : px_T 0 342 992 [some (.ref 1000), some (.ref 0), some (.ref 56), some (.int x3)] [.int s0, .int s1] M Q := by
  by_cases c1 : s1 = s0
  · obtain ⟨n, h⟩ := h1 c1
    exact ⟨n + 1, ⟨fun _ => h, fun q => absurd c1 q⟩⟩
  · exact ⟨3, ⟨fun q => absurd q c1, fun _ => ⟨Or.inl rfl, h2 c1⟩⟩⟩
theorem sg_342_1015 {x3 : Int32} {s0 : Int32} {s1 : Int32} {M : px_Mem} {Q : px_Po} (h1 : (s1 = s0) → px_T 0 342 2285 [some (.ref 1000), some (.ref 0), some (.ref 56), some (.int x3)] [] M Q) (h2 : (¬ (s1 = s0)) → Q (some (.int 0)) M) : px_T 0 342 1015 [some (.ref 1000), some (.ref 0), some (.ref 56), some (.int x3)] [.int s0, .int s1] M Q := by
  by_cases c1 : s1 = s0
  · obtain ⟨n, h⟩ := h1 c1
    exact ⟨n + 1, ⟨fun _ => h, fun q => absurd c1 q⟩⟩
  · exact ⟨3, ⟨fun q => absurd q c1, fun _ => ⟨Or.inl rfl, h2 c1⟩⟩⟩
theorem sg_342_1058 {x3 : Int32} {s0 : Int32} {s1 : Int32} {M : px_Mem} {Q : px_Po} (h1 : (s1 = s0) → px_T 0 342 2285 [some (.ref 1000), some (.ref 0), some (.ref 56), some (.int x3)] [] M Q) (h2 : (¬ (s1 = s0)) → Q (some (.int 0)) M) : px_T 0 342 1058 [some (.ref 1000), some (.ref 0), some (.ref 56), some (.int x3)] [.int s0, .int s1] M Q := by
  by_cases c1 : s1 = s0
  · obtain ⟨n, h⟩ := h1 c1
    exact ⟨n + 1, ⟨fun _ => h, fun q => absurd c1 q⟩⟩
  · exact ⟨3, ⟨fun q => absurd q c1, fun _ => ⟨Or.inl rfl, h2 c1⟩⟩⟩
theorem sg_342_1101 {x3 : Int32} {s0 : Int32} {s1 : Int32} {M : px_Mem} {Q : px_Po} (h1 : (s1 = s0) → px_T 0 342 2285 [some (.ref 1000), some (.ref 0), some (.ref 56), some (.int x3)] [] M Q) (h2 : (¬ (s1 = s0)) → Q (some (.int 0)) M) : px_T 0 342 1101 [some (.ref 1000), some (.ref 0), some (.ref 56), some (.int x3)] [.int s0, .int s1] M Q := by
  by_cases c1 : s1 = s0
  · obtain ⟨n, h⟩ := h1 c1
    exact ⟨n + 1, ⟨fun _ => h, fun q => absurd c1 q⟩⟩
  · exact ⟨3, ⟨fun q => absurd q c1, fun _ => ⟨Or.inl rfl, h2 c1⟩⟩⟩
theorem sg_342_1134 {x3 : Int32} {s0 : Int32} {s1 : Int32} {M : px_Mem} {Q : px_Po} (h1 : (s1 = s0) → px_T 0 342 2285 [some (.ref 1000), some (.ref 0), some (.ref 56), some (.int x3)] [] M Q) (h2 : (¬ (s1 = s0)) → Q (some (.int 0)) M) : px_T 0 342 1134 [some (.ref 1000), some (.ref 0), some (.ref 56), some (.int x3)] [.int s0, .int s1] M Q := by
  by_cases c1 : s1 = s0
  · obtain ⟨n, h⟩ := h1 c1
    exact ⟨n + 1, ⟨fun _ => h, fun q => absurd c1 q⟩⟩
  · exact ⟨3, ⟨fun q => absurd q c1, fun _ => ⟨Or.inl rfl, h2 c1⟩⟩⟩
theorem sg_342_1157 {x3 : Int32} {s0 : Int32} {s1 : Int32} {M : px_Mem} {Q : px_Po} (h1 : (s1 = s0) → px_T 0 342 2285 [some (.ref 1000), some (.ref 0), some (.ref 56), some (.int x3)] [] M Q) (h2 : (¬ (s1 = s0)) → Q (some (.int 0)) M) : px_T 0 342 1157 [some (.ref 1000), some (.ref 0), some (.ref 56), some (.int x3)] [.int s0, .int s1] M Q := by
  by_cases c1 : s1 = s0
  · obtain ⟨n, h⟩ := h1 c1
    exact ⟨n + 1, ⟨fun _ => h, fun q => absurd c1 q⟩⟩
  · exact ⟨3, ⟨fun q => absurd q c1, fun _ => ⟨Or.inl rfl, h2 c1⟩⟩⟩
theorem sg_342_1170 {x3 : Int32} {s0 : Int32} {s1 : Int32} {M : px_Mem} {Q : px_Po} (h1 : (s1 = s0) → px_T 0 342 2285 [some (.ref 1000), some (.ref 0), some (.ref 56), some (.int x3)] [] M Q) (h2 : (¬ (s1 = s0)) → Q (some (.int 0)) M) : px_T 0 342 1170 [some (.ref 1000), some (.ref 0), some (.ref 56), some (.int x3)] [.int s0, .int s1] M Q := by
  by_cases c1 : s1 = s0
  · obtain ⟨n, h⟩ := h1 c1
    exact ⟨n + 1, ⟨fun _ => h, fun q => absurd c1 q⟩⟩
  · exact ⟨3, ⟨fun q => absurd q c1, fun _ => ⟨Or.inl rfl, h2 c1⟩⟩⟩
theorem sg_342_1183 {x3 : Int32} {s0 : Int32} {s1 : Int32} {M : px_Mem} {Q : px_Po} (h1 : (s1 = s0) → px_T 0 342 2285 [some (.ref 1000), some (.ref 0), some (.ref 56), some (.int x3)] [] M Q) (h2 : (¬ (s1 = s0)) → Q (some (.int 0)) M) : px_T 0 342 1183 [some (.ref 1000), some (.ref 0), some (.ref 56), some (.int x3)] [.int s0, .int s1] M Q := by
  by_cases c1 : s1 = s0
  · obtain ⟨n, h⟩ := h1 c1
    exact ⟨n + 1, ⟨fun _ => h, fun q => absurd c1 q⟩⟩
  · exact ⟨3, ⟨fun q => absurd q c1, fun _ => ⟨Or.inl rfl, h2 c1⟩⟩⟩
theorem sg_342_1216 {x3 : Int32} {s0 : Int32} {s1 : Int32} {M : px_Mem} {Q : px_Po} (h1 : (s1 = s0) → px_T 0 342 2285 [some (.ref 1000), some (.ref 0), some (.ref 56), some (.int x3)] [] M Q) (h2 : (¬ (s1 = s0)) → Q (some (.int 0)) M) : px_T 0 342 1216 [some (.ref 1000), some (.ref 0), some (.ref 56), some (.int x3)] [.int s0, .int s1] M Q := by
  by_cases c1 : s1 = s0
  · obtain ⟨n, h⟩ := h1 c1
    exact ⟨n + 1, ⟨fun _ => h, fun q => absurd c1 q⟩⟩
  · exact ⟨3, ⟨fun q => absurd q c1, fun _ => ⟨Or.inl rfl, h2 c1⟩⟩⟩
theorem sg_342_1239 {x3 : Int32} {s0 : Int32} {s1 : Int32} {M : px_Mem} {Q : px_Po} (h1 : (s1 = s0) → px_T 0 342 2285 [some (.ref 1000), some (.ref 0), some (.ref 56), some (.int x3)] [] M Q) (h2 : (¬ (s1 = s0)) → Q (some (.int 0)) M) : px_T 0 342 1239 [some (.ref 1000), some (.ref 0), some (.ref 56), some (.int x3)] [.int s0, .int s1] M Q := by
  by_cases c1 : s1 = s0
  · obtain ⟨n, h⟩ := h1 c1
    exact ⟨n + 1, ⟨fun _ => h, fun q => absurd c1 q⟩⟩
  · exact ⟨3, ⟨fun q => absurd q c1, fun _ => ⟨Or.inl rfl, h2 c1⟩⟩⟩
theorem sg_342_1262 {x3 : Int32} {s0 : Int32} {s1 : Int32} {M : px_Mem} {Q : px_Po} (h1 : (s1 = s0) → px_T 0 342 2285 [some (.ref 1000), some (.ref 0), some (.ref 56), some (.int x3)] [] M Q) (h2 : (¬ (s1 = s0)) → Q (some (.int 0)) M) : px_T 0 342 1262 [some (.ref 1000), some (.ref 0), some (.ref 56), some (.int x3)] [.int s0, .int s1] M Q := by
  by_cases c1 : s1 = s0
  · obtain ⟨n, h⟩ := h1 c1
    exact ⟨n + 1, ⟨fun _ => h, fun q => absurd c1 q⟩⟩
  · exact ⟨3, ⟨fun q => absurd q c1, fun _ => ⟨Or.inl rfl, h2 c1⟩⟩⟩
theorem sg_342_1295 {x3 : Int32} {s0 : Int32} {s1 : Int32} {M : px_Mem} {Q : px_Po} (h1 : (s1 = s0) → px_T 0 342 2285 [some (.ref 1000), some (.ref 0), some (.ref 56), some (.int x3)] [] M Q) (h2 : (¬ (s1 = s0)) → Q (some (.int 0)) M) : px_T 0 342 1295 [some (.ref 1000), some (.ref 0), some (.ref 56), some (.int x3)] [.int s0, .int s1] M Q := by
  by_cases c1 : s1 = s0
  · obtain ⟨n, h⟩ := h1 c1
    exact ⟨n + 1, ⟨fun _ => h, fun q => absurd c1 q⟩⟩
  · exact ⟨3, ⟨fun q => absurd q c1, fun _ => ⟨Or.inl rfl, h2 c1⟩⟩⟩
theorem sg_342_1318 {x3 : Int32} {s0 : Int32} {s1 : Int32} {M : px_Mem} {Q : px_Po} (h1 : (s1 = s0) → px_T 0 342 2285 [some (.ref 1000), some (.ref 0), some (.ref 56), some (.int x3)] [] M Q) (h2 : (¬ (s1 = s0)) → Q (some (.int 0)) M) : px_T 0 342 1318 [some (.ref 1000), some (.ref 0), some (.ref 56), some (.int x3)] [.int s0, .int s1] M Q := by
  by_cases c1 : s1 = s0
  · obtain ⟨n, h⟩ := h1 c1
    exact ⟨n + 1, ⟨fun _ => h, fun q => absurd c1 q⟩⟩
  · exact ⟨3, ⟨fun q => absurd q c1, fun _ => ⟨Or.inl rfl, h2 c1⟩⟩⟩
theorem sg_342_1331 {x3 : Int32} {s0 : Int32} {s1 : Int32} {M : px_Mem} {Q : px_Po} (h1 : (s1 = s0) → px_T 0 342 2285 [some (.ref 1000), some (.ref 0), some (.ref 56), some (.int x3)] [] M Q) (h2 : (¬ (s1 = s0)) → Q (some (.int 0)) M) : px_T 0 342 1331 [some (.ref 1000), some (.ref 0), some (.ref 56), some (.int x3)] [.int s0, .int s1] M Q := by
  by_cases c1 : s1 = s0
  · obtain ⟨n, h⟩ := h1 c1
    exact ⟨n + 1, ⟨fun _ => h, fun q => absurd c1 q⟩⟩
  · exact ⟨3, ⟨fun q => absurd q c1, fun _ => ⟨Or.inl rfl, h2 c1⟩⟩⟩
theorem sg_342_1374 {x3 : Int32} {s0 : Int32} {s1 : Int32} {M : px_Mem} {Q : px_Po} (h1 : (s1 = s0) → px_T 0 342 2285 [some (.ref 1000), some (.ref 0), some (.ref 56), some (.int x3)] [] M Q) (h2 : (¬ (s1 = s0)) → Q (some (.int 0)) M) : px_T 0 342 1374 [some (.ref 1000), some (.ref 0), some (.ref 56), some (.int x3)] [.int s0, .int s1] M Q := by
  by_cases c1 : s1 = s0
  · obtain ⟨n, h⟩ := h1 c1
    exact ⟨n + 1, ⟨fun _ => h, fun q => absurd c1 q⟩⟩
  · exact ⟨3, ⟨fun q => absurd q c1, fun _ => ⟨Or.inl rfl, h2 c1⟩⟩⟩
theorem sg_342_1427 {x3 : Int32} {s0 : Int32} {s1 : Int32} {M : px_Mem} {Q : px_Po} (h1 : (s1 = s0) → px_T 0 342 2285 [some (.ref 1000), some (.ref 0), some (.ref 56), some (.int x3)] [] M Q) (h2 : (¬ (s1 = s0)) → Q (some (.int 0)) M) : px_T 0 342 1427 [some (.ref 1000), some (.ref 0), some (.ref 56), some (.int x3)] [.int s0, .int s1] M Q := by
  by_cases c1 : s1 = s0
  · obtain ⟨n, h⟩ := h1 c1
    exact ⟨n + 1, ⟨fun _ => h, fun q => absurd c1 q⟩⟩
  · exact ⟨3, ⟨fun q => absurd q c1, fun _ => ⟨Or.inl rfl, h2 c1⟩⟩⟩
theorem sg_342_1470 {x3 : Int32} {s0 : Int32} {s1 : Int32} {M : px_Mem} {Q : px_Po} (h1 : (s1 = s0) → px_T 0 342 2285 [some (.ref 1000), some (.ref 0), some (.ref 56), some (.int x3)] [] M Q) (h2 : (¬ (s1 = s0)) → Q (some (.int 0)) M) : px_T 0 342 1470 [some (.ref 1000), some (.ref 0), some (.ref 56), some (.int x3)] [.int s0, .int s1] M Q := by
  by_cases c1 : s1 = s0
  · obtain ⟨n, h⟩ := h1 c1
    exact ⟨n + 1, ⟨fun _ => h, fun q => absurd c1 q⟩⟩
  · exact ⟨3, ⟨fun q => absurd q c1, fun _ => ⟨Or.inl rfl, h2 c1⟩⟩⟩
theorem sg_342_1503 {x3 : Int32} {s0 : Int32} {s1 : Int32} {M : px_Mem} {Q : px_Po} (h1 : (s1 = s0) → px_T 0 342 2285 [some (.ref 1000), some (.ref 0), some (.ref 56), some (.int x3)] [] M Q) (h2 : (¬ (s1 = s0)) → Q (some (.int 0)) M) : px_T 0 342 1503 [some (.ref 1000), some (.ref 0), some (.ref 56), some (.int x3)] [.int s0, .int s1] M Q := by
  by_cases c1 : s1 = s0
  · obtain ⟨n, h⟩ := h1 c1
    exact ⟨n + 1, ⟨fun _ => h, fun q => absurd c1 q⟩⟩
  · exact ⟨3, ⟨fun q => absurd q c1, fun _ => ⟨Or.inl rfl, h2 c1⟩⟩⟩
theorem sg_342_1516 {x3 : Int32} {s0 : Int32} {s1 : Int32} {M : px_Mem} {Q : px_Po} (h1 : (s1 = s0) → px_T 0 342 2285 [some (.ref 1000), some (.ref 0), some (.ref 56), some (.int x3)] [] M Q) (h2 : (¬ (s1 = s0)) → Q (some (.int 0)) M) : px_T 0 342 1516 [some (.ref 1000), some (.ref 0), some (.ref 56), some (.int x3)] [.int s0, .int s1] M Q := by
  by_cases c1 : s1 = s0
  · obtain ⟨n, h⟩ := h1 c1
    exact ⟨n + 1, ⟨fun _ => h, fun q => absurd c1 q⟩⟩
  · exact ⟨3, ⟨fun q => absurd q c1, fun _ => ⟨Or.inl rfl, h2 c1⟩⟩⟩
theorem sg_342_1529 {x3 : Int32} {s0 : Int32} {s1 : Int32} {M : px_Mem} {Q : px_Po} (h1 : (s1 = s0) → px_T 0 342 2285 [some (.ref 1000), some (.ref 0), some (.ref 56), some (.int x3)] [] M Q) (h2 : (¬ (s1 = s0)) → Q (some (.int 0)) M) : px_T 0 342 1529 [some (.ref 1000), some (.ref 0), some (.ref 56), some (.int x3)] [.int s0, .int s1] M Q := by
  by_cases c1 : s1 = s0
  · obtain ⟨n, h⟩ := h1 c1
    exact ⟨n + 1, ⟨fun _ => h, fun q => absurd c1 q⟩⟩
  · exact ⟨3, ⟨fun q => absurd q c1, fun _ => ⟨Or.inl rfl, h2 c1⟩⟩⟩
theorem sg_342_1552 {x3 : Int32} {s0 : Int32} {s1 : Int32} {M : px_Mem} {Q : px_Po} (h1 : (s1 = s0) → px_T 0 342 2285 [some (.ref 1000), some (.ref 0), some (.ref 56), some (.int x3)] [] M Q) (h2 : (¬ (s1 = s0)) → Q (some (.int 0)) M) : px_T 0 342 1552 [some (.ref 1000), some (.ref 0), some (.ref 56), some (.int x3)] [.int s0, .int s1] M Q := by
  by_cases c1 : s1 = s0
  · obtain ⟨n, h⟩ := h1 c1
    exact ⟨n + 1, ⟨fun _ => h, fun q => absurd c1 q⟩⟩
  · exact ⟨3, ⟨fun q => absurd q c1, fun _ => ⟨Or.inl rfl, h2 c1⟩⟩⟩
theorem sg_342_1575 {x3 : Int32} {s0 : Int32} {s1 : Int32} {M : px_Mem} {Q : px_Po} (h1 : (s1 = s0) → px_T 0 342 2285 [some (.ref 1000), some (.ref 0), some (.ref 56), some (.int x3)] [] M Q) (h2 : (¬ (s1 = s0)) → Q (some (.int 0)) M) : px_T 0 342 1575 [some (.ref 1000), some (.ref 0), some (.ref 56), some (.int x3)] [.int s0, .int s1] M Q := by
  by_cases c1 : s1 = s0
  · obtain ⟨n, h⟩ := h1 c1
    exact ⟨n + 1, ⟨fun _ => h, fun q => absurd c1 q⟩⟩
  · exact ⟨3, ⟨fun q => absurd q c1, fun _ => ⟨Or.inl rfl, h2 c1⟩⟩⟩
theorem sg_342_1598 {x3 : Int32} {s0 : Int32} {s1 : Int32} {M : px_Mem} {Q : px_Po} (h1 : (s1 = s0) → px_T 0 342 2285 [some (.ref 1000), some (.ref 0), some (.ref 56), some (.int x3)] [] M Q) (h2 : (¬ (s1 = s0)) → Q (some (.int 0)) M) : px_T 0 342 1598 [some (.ref 1000), some (.ref 0), some (.ref 56), some (.int x3)] [.int s0, .int s1] M Q := by
  by_cases c1 : s1 = s0
  · obtain ⟨n, h⟩ := h1 c1
    exact ⟨n + 1, ⟨fun _ => h, fun q => absurd c1 q⟩⟩
  · exact ⟨3, ⟨fun q => absurd q c1, fun _ => ⟨Or.inl rfl, h2 c1⟩⟩⟩
theorem sg_342_1621 {x3 : Int32} {s0 : Int32} {s1 : Int32} {M : px_Mem} {Q : px_Po} (h1 : (s1 = s0) → px_T 0 342 2285 [some (.ref 1000), some (.ref 0), some (.ref 56), some (.int x3)] [] M Q) (h2 : (¬ (s1 = s0)) → Q (some (.int 0)) M) : px_T 0 342 1621 [some (.ref 1000), some (.ref 0), some (.ref 56), some (.int x3)] [.int s0, .int s1] M Q := by
  by_cases c1 : s1 = s0
  · obtain ⟨n, h⟩ := h1 c1
    exact ⟨n + 1, ⟨fun _ => h, fun q => absurd c1 q⟩⟩
  · exact ⟨3, ⟨fun q => absurd q c1, fun _ => ⟨Or.inl rfl, h2 c1⟩⟩⟩
theorem sg_342_1644 {x3 : Int32} {s0 : Int32} {s1 : Int32} {M : px_Mem} {Q : px_Po} (h1 : (s1 = s0) → px_T 0 342 2285 [some (.ref 1000), some (.ref 0), some (.ref 56), some (.int x3)] [] M Q) (h2 : (¬ (s1 = s0)) → Q (some (.int 0)) M) : px_T 0 342 1644 [some (.ref 1000), some (.ref 0), some (.ref 56), some (.int x3)] [.int s0, .int s1] M Q := by
  by_cases c1 : s1 = s0
  · obtain ⟨n, h⟩ := h1 c1
    exact ⟨n + 1, ⟨fun _ => h, fun q => absurd c1 q⟩⟩
  · exact ⟨3, ⟨fun q => absurd q c1, fun _ => ⟨Or.inl rfl, h2 c1⟩⟩⟩
theorem sg_342_1657 {x3 : Int32} {s0 : Int32} {s1 : Int32} {M : px_Mem} {Q : px_Po} (h1 : (s1 = s0) → px_T 0 342 2285 [some (.ref 1000), some (.ref 0), some (.ref 56), some (.int x3)] [] M Q) (h2 : (¬ (s1 = s0)) → Q (some (.int 0)) M) : px_T 0 342 1657 [some (.ref 1000), some (.ref 0), some (.ref 56), some (.int x3)] [.int s0, .int s1] M Q := by
  by_cases c1 : s1 = s0
  · obtain ⟨n, h⟩ := h1 c1
    exact ⟨n + 1, ⟨fun _ => h, fun q => absurd c1 q⟩⟩
  · exact ⟨3, ⟨fun q => absurd q c1, fun _ => ⟨Or.inl rfl, h2 c1⟩⟩⟩
theorem sg_342_1680 {x3 : Int32} {s0 : Int32} {s1 : Int32} {M : px_Mem} {Q : px_Po} (h1 : (s1 = s0) → px_T 0 342 2285 [some (.ref 1000), some (.ref 0), some (.ref 56), some (.int x3)] [] M Q) (h2 : (¬ (s1 = s0)) → Q (some (.int 0)) M) : px_T 0 342 1680 [some (.ref 1000), some (.ref 0), some (.ref 56), some (.int x3)] [.int s0, .int s1] M Q := by
  by_cases c1 : s1 = s0
  · obtain ⟨n, h⟩ := h1 c1
    exact ⟨n + 1, ⟨fun _ => h, fun q => absurd c1 q⟩⟩
  · exact ⟨3, ⟨fun q => absurd q c1, fun _ => ⟨Or.inl rfl, h2 c1⟩⟩⟩
theorem sg_342_1713 {x3 : Int32} {s0 : Int32} {s1 : Int32} {M : px_Mem} {Q : px_Po} (h1 : (s1 = s0) → px_T 0 342 2285 [some (.ref 1000), some (.ref 0), some (.ref 56), some (.int x3)] [] M Q) (h2 : (¬ (s1 = s0)) → Q (some (.int 0)) M) : px_T 0 342 1713 [some (.ref 1000), some (.ref 0), some (.ref 56), some (.int x3)] [.int s0, .int s1] M Q := by
  by_cases c1 : s1 = s0
  · obtain ⟨n, h⟩ := h1 c1
    exact ⟨n + 1, ⟨fun _ => h, fun q => absurd c1 q⟩⟩
  · exact ⟨3, ⟨fun q => absurd q c1, fun _ => ⟨Or.inl rfl, h2 c1⟩⟩⟩
theorem sg_342_1746 {x3 : Int32} {s0 : Int32} {s1 : Int32} {M : px_Mem} {Q : px_Po} (h1 : (s1 = s0) → px_T 0 342 2285 [some (.ref 1000), some (.ref 0), some (.ref 56), some (.int x3)] [] M Q) (h2 : (¬ (s1 = s0)) → Q (some (.int 0)) M) : px_T 0 342 1746 [some (.ref 1000), some (.ref 0), some (.ref 56), some (.int x3)] [.int s0, .int s1] M Q := by
  by_cases c1 : s1 = s0
  · obtain ⟨n, h⟩ := h1 c1
    exact ⟨n + 1, ⟨fun _ => h, fun q => absurd c1 q⟩⟩
  · exact ⟨3, ⟨fun q => absurd q c1, fun _ => ⟨Or.inl rfl, h2 c1⟩⟩⟩
theorem sg_342_1799 {x3 : Int32} {s0 : Int32} {s1 : Int32} {M : px_Mem} {Q : px_Po} (h1 : (s1 = s0) → px_T 0 342 2285 [some (.ref 1000), some (.ref 0), some (.ref 56), some (.int x3)] [] M Q) (h2 : (¬ (s1 = s0)) → Q (some (.int 0)) M) : px_T 0 342 1799 [some (.ref 1000), some (.ref 0), some (.ref 56), some (.int x3)] [.int s0, .int s1] M Q := by
  by_cases c1 : s1 = s0
  · obtain ⟨n, h⟩ := h1 c1
    exact ⟨n + 1, ⟨fun _ => h, fun q => absurd c1 q⟩⟩
  · exact ⟨3, ⟨fun q => absurd q c1, fun _ => ⟨Or.inl rfl, h2 c1⟩⟩⟩
theorem sg_342_1842 {x3 : Int32} {s0 : Int64} {s1 : Int64} {M : px_Mem} {Q : px_Po} (h1 : ((lg_cmp s1 s0) = 0) → px_T 0 342 2285 [some (.ref 1000), some (.ref 0), some (.ref 56), some (.int x3)] [] M Q) (h2 : (¬ ((lg_cmp s1 s0) = 0)) → Q (some (.int 0)) M) : px_T 0 342 1842 [some (.ref 1000), some (.ref 0), some (.ref 56), some (.int x3)] [.long s0, .long s1] M Q := by
  by_cases c1 : (lg_cmp s1 s0) = 0
  · obtain ⟨n, h⟩ := h1 c1
    exact ⟨n + 2, ⟨fun _ => h, fun q => absurd c1 q⟩⟩
  · exact ⟨4, ⟨fun q => absurd q c1, fun _ => ⟨Or.inl rfl, h2 c1⟩⟩⟩
theorem sg_342_1876 {x3 : Int32} {s0 : Int64} {s1 : Int64} {M : px_Mem} {Q : px_Po} (h1 : ((lg_cmp s1 s0) = 0) → px_T 0 342 2285 [some (.ref 1000), some (.ref 0), some (.ref 56), some (.int x3)] [] M Q) (h2 : (¬ ((lg_cmp s1 s0) = 0)) → Q (some (.int 0)) M) : px_T 0 342 1876 [some (.ref 1000), some (.ref 0), some (.ref 56), some (.int x3)] [.long s0, .long s1] M Q := by
  by_cases c1 : (lg_cmp s1 s0) = 0
  · obtain ⟨n, h⟩ := h1 c1
    exact ⟨n + 2, ⟨fun _ => h, fun q => absurd c1 q⟩⟩
  · exact ⟨4, ⟨fun q => absurd q c1, fun _ => ⟨Or.inl rfl, h2 c1⟩⟩⟩
theorem sg_342_1930 {x3 : Int32} {s0 : Int32} {s1 : Int32} {M : px_Mem} {Q : px_Po} (h1 : (s1 = s0) → px_T 0 342 2285 [some (.ref 1000), some (.ref 0), some (.ref 56), some (.int x3)] [] M Q) (h2 : (¬ (s1 = s0)) → Q (some (.int 0)) M) : px_T 0 342 1930 [some (.ref 1000), some (.ref 0), some (.ref 56), some (.int x3)] [.int s0, .int s1] M Q := by
  by_cases c1 : s1 = s0
  · obtain ⟨n, h⟩ := h1 c1
    exact ⟨n + 1, ⟨fun _ => h, fun q => absurd c1 q⟩⟩
  · exact ⟨3, ⟨fun q => absurd q c1, fun _ => ⟨Or.inl rfl, h2 c1⟩⟩⟩
theorem sg_342_1943 {x3 : Int32} {s0 : Int32} {s1 : Int32} {M : px_Mem} {Q : px_Po} (h1 : (s1 = s0) → px_T 0 342 2285 [some (.ref 1000), some (.ref 0), some (.ref 56), some (.int x3)] [] M Q) (h2 : (¬ (s1 = s0)) → Q (some (.int 0)) M) : px_T 0 342 1943 [some (.ref 1000), some (.ref 0), some (.ref 56), some (.int x3)] [.int s0, .int s1] M Q := by
  by_cases c1 : s1 = s0
  · obtain ⟨n, h⟩ := h1 c1
    exact ⟨n + 1, ⟨fun _ => h, fun q => absurd c1 q⟩⟩
  · exact ⟨3, ⟨fun q => absurd q c1, fun _ => ⟨Or.inl rfl, h2 c1⟩⟩⟩
theorem sg_342_1956 {x3 : Int32} {s0 : Int32} {s1 : Int32} {M : px_Mem} {Q : px_Po} (h1 : (s1 = s0) → px_T 0 342 2285 [some (.ref 1000), some (.ref 0), some (.ref 56), some (.int x3)] [] M Q) (h2 : (¬ (s1 = s0)) → Q (some (.int 0)) M) : px_T 0 342 1956 [some (.ref 1000), some (.ref 0), some (.ref 56), some (.int x3)] [.int s0, .int s1] M Q := by
  by_cases c1 : s1 = s0
  · obtain ⟨n, h⟩ := h1 c1
    exact ⟨n + 1, ⟨fun _ => h, fun q => absurd c1 q⟩⟩
  · exact ⟨3, ⟨fun q => absurd q c1, fun _ => ⟨Or.inl rfl, h2 c1⟩⟩⟩
theorem sg_342_1989 {x3 : Int32} {s0 : Int32} {s1 : Int32} {M : px_Mem} {Q : px_Po} (h1 : (s1 = s0) → px_T 0 342 2285 [some (.ref 1000), some (.ref 0), some (.ref 56), some (.int x3)] [] M Q) (h2 : (¬ (s1 = s0)) → Q (some (.int 0)) M) : px_T 0 342 1989 [some (.ref 1000), some (.ref 0), some (.ref 56), some (.int x3)] [.int s0, .int s1] M Q := by
  by_cases c1 : s1 = s0
  · obtain ⟨n, h⟩ := h1 c1
    exact ⟨n + 1, ⟨fun _ => h, fun q => absurd c1 q⟩⟩
  · exact ⟨3, ⟨fun q => absurd q c1, fun _ => ⟨Or.inl rfl, h2 c1⟩⟩⟩
theorem sg_342_2032 {x3 : Int32} {s0 : Int32} {s1 : Int32} {M : px_Mem} {Q : px_Po} (h1 : (s1 = s0) → px_T 0 342 2285 [some (.ref 1000), some (.ref 0), some (.ref 56), some (.int x3)] [] M Q) (h2 : (¬ (s1 = s0)) → Q (some (.int 0)) M) : px_T 0 342 2032 [some (.ref 1000), some (.ref 0), some (.ref 56), some (.int x3)] [.int s0, .int s1] M Q := by
  by_cases c1 : s1 = s0
  · obtain ⟨n, h⟩ := h1 c1
    exact ⟨n + 1, ⟨fun _ => h, fun q => absurd c1 q⟩⟩
  · exact ⟨3, ⟨fun q => absurd q c1, fun _ => ⟨Or.inl rfl, h2 c1⟩⟩⟩
theorem sg_342_2055 {x3 : Int32} {s0 : Int32} {s1 : Int32} {M : px_Mem} {Q : px_Po} (h1 : (s1 = s0) → px_T 0 342 2285 [some (.ref 1000), some (.ref 0), some (.ref 56), some (.int x3)] [] M Q) (h2 : (¬ (s1 = s0)) → Q (some (.int 0)) M) : px_T 0 342 2055 [some (.ref 1000), some (.ref 0), some (.ref 56), some (.int x3)] [.int s0, .int s1] M Q := by
  by_cases c1 : s1 = s0
  · obtain ⟨n, h⟩ := h1 c1
    exact ⟨n + 1, ⟨fun _ => h, fun q => absurd c1 q⟩⟩
  · exact ⟨3, ⟨fun q => absurd q c1, fun _ => ⟨Or.inl rfl, h2 c1⟩⟩⟩
theorem sg_342_2078 {x3 : Int32} {s0 : Int32} {s1 : Int32} {M : px_Mem} {Q : px_Po} (h1 : (s1 = s0) → px_T 0 342 2285 [some (.ref 1000), some (.ref 0), some (.ref 56), some (.int x3)] [] M Q) (h2 : (¬ (s1 = s0)) → Q (some (.int 0)) M) : px_T 0 342 2078 [some (.ref 1000), some (.ref 0), some (.ref 56), some (.int x3)] [.int s0, .int s1] M Q := by
  by_cases c1 : s1 = s0
  · obtain ⟨n, h⟩ := h1 c1
    exact ⟨n + 1, ⟨fun _ => h, fun q => absurd c1 q⟩⟩
  · exact ⟨3, ⟨fun q => absurd q c1, fun _ => ⟨Or.inl rfl, h2 c1⟩⟩⟩
theorem sg_342_2101 {x3 : Int32} {s0 : Int32} {s1 : Int32} {M : px_Mem} {Q : px_Po} (h1 : (s1 = s0) → px_T 0 342 2285 [some (.ref 1000), some (.ref 0), some (.ref 56), some (.int x3)] [] M Q) (h2 : (¬ (s1 = s0)) → Q (some (.int 0)) M) : px_T 0 342 2101 [some (.ref 1000), some (.ref 0), some (.ref 56), some (.int x3)] [.int s0, .int s1] M Q := by
  by_cases c1 : s1 = s0
  · obtain ⟨n, h⟩ := h1 c1
    exact ⟨n + 1, ⟨fun _ => h, fun q => absurd c1 q⟩⟩
  · exact ⟨3, ⟨fun q => absurd q c1, fun _ => ⟨Or.inl rfl, h2 c1⟩⟩⟩
theorem sg_342_2144 {x3 : Int32} {s0 : Int32} {s1 : Int32} {M : px_Mem} {Q : px_Po} (h1 : (s1 = s0) → px_T 0 342 2285 [some (.ref 1000), some (.ref 0), some (.ref 56), some (.int x3)] [] M Q) (h2 : (¬ (s1 = s0)) → Q (some (.int 0)) M) : px_T 0 342 2144 [some (.ref 1000), some (.ref 0), some (.ref 56), some (.int x3)] [.int s0, .int s1] M Q := by
  by_cases c1 : s1 = s0
  · obtain ⟨n, h⟩ := h1 c1
    exact ⟨n + 1, ⟨fun _ => h, fun q => absurd c1 q⟩⟩
  · exact ⟨3, ⟨fun q => absurd q c1, fun _ => ⟨Or.inl rfl, h2 c1⟩⟩⟩
theorem sg_342_2217 {x3 : Int32} {s0 : Int32} {s1 : Int32} {M : px_Mem} {Q : px_Po} (h1 : (s1 = s0) → px_T 0 342 2285 [some (.ref 1000), some (.ref 0), some (.ref 56), some (.int x3)] [] M Q) (h2 : (¬ (s1 = s0)) → Q (some (.int 0)) M) : px_T 0 342 2217 [some (.ref 1000), some (.ref 0), some (.ref 56), some (.int x3)] [.int s0, .int s1] M Q := by
  by_cases c1 : s1 = s0
  · obtain ⟨n, h⟩ := h1 c1
    exact ⟨n + 1, ⟨fun _ => h, fun q => absurd c1 q⟩⟩
  · exact ⟨3, ⟨fun q => absurd q c1, fun _ => ⟨Or.inl rfl, h2 c1⟩⟩⟩
theorem sg_342_2280 {x3 : Int32} {s0 : Int32} {s1 : Int32} {M : px_Mem} {Q : px_Po} (h1 : (s1 = s0) → px_T 0 342 2285 [some (.ref 1000), some (.ref 0), some (.ref 56), some (.int x3)] [] M Q) (h2 : (¬ (s1 = s0)) → Q (some (.int 0)) M) : px_T 0 342 2280 [some (.ref 1000), some (.ref 0), some (.ref 56), some (.int x3)] [.int s0, .int s1] M Q := by
  by_cases c1 : s1 = s0
  · obtain ⟨n, h⟩ := h1 c1
    exact ⟨n + 1, ⟨fun _ => h, fun q => absurd c1 q⟩⟩
  · exact ⟨3, ⟨fun q => absurd q c1, fun _ => ⟨Or.inl rfl, h2 c1⟩⟩⟩
