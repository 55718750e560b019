theorem sg_331_107 {d0 : Option Value} {d1 : Option Value} {d2 : Option Value} {d3 : Option Value} {d4 : Option Value} {d5 : Option Value} {d6 : Option Value} {M : px_Mem} {Q : px_Po} (h1 : Q (some (.int (-7))) M) : px_T 0 331 107 [d0, d1, d2, d3, d4, d5, d6] [] M Q := by
  exact ⟨2, ⟨trivial, h1⟩⟩
theorem sg_331_89 {x1 : Int32} {x2 : Int32} {x3 : Int32} {x4 : Int32} {x5 : Int32} {d6 : Option Value} {M : px_Mem} {Q : px_Po} (h1 : vp_in x3 4) (h2 : ((lg_cmp (x4.toInt64 + x5.toInt64) ((M.1 88 x3.toNatClampNeg).toInt64)) ≤ 0) → px_T 0 331 113 [some (.ref 56), some (.int x1), some (.int x2), some (.int x3), some (.int x4), some (.int x5), some (.int 0)] [] M Q) (h3 : (¬ ((lg_cmp (x4.toInt64 + x5.toInt64) ((M.1 88 x3.toNatClampNeg).toInt64)) ≤ 0)) → px_T 0 331 107 [some (.ref 56), some (.int x1), some (.int x2), some (.int x3), some (.int x4), some (.int x5), d6] [] M Q) : px_T 0 331 89 [some (.ref 56), some (.int x1), some (.int x2), some (.int x3), some (.int x4), some (.int x5), d6] [] M Q := by
  by_cases c1 : (lg_cmp (x4.toInt64 + x5.toInt64) ((M.1 88 x3.toNatClampNeg).toInt64)) ≤ 0
  · obtain ⟨n, h⟩ := h2 c1
    exact ⟨n + 14, ⟨rfl, ⟨Or.inl ⟨0, 4, Or.inl rfl, rfl, h1⟩, ⟨fun _ => h, fun q => absurd c1 q⟩⟩⟩⟩
  · obtain ⟨n, h⟩ := h3 c1
    exact ⟨n + 12, ⟨rfl, ⟨Or.inl ⟨0, 4, Or.inl rfl, rfl, h1⟩, ⟨fun q => absurd q c1, fun _ => h⟩⟩⟩⟩
theorem sg_331_113 {x1 : Int32} {x2 : Int32} {x3 : Int32} {x4 : Int32} {x5 : Int32} {x6 : Int32} {M : px_Mem} {Q : px_Po} (h1 : (x5 ≤ x6) → px_T 0 331 150 [some (.ref 56), some (.int x1), some (.int x2), some (.int x3), some (.int x4), some (.int x5), some (.int 0)] [] M Q) (h2 : (¬ (x5 ≤ x6)) → vp_in (((60 * x1) + x2) + x6) 240) (h3 : (¬ (x5 ≤ x6)) → vp_in x6 60) (h4 : (¬ (x5 ≤ x6)) → px_T 0 331 113 [some (.ref 56), some (.int x1), some (.int x2), some (.int x3), some (.int x4), some (.int x5), some (.int (x6 + 1))] [] (px_wL M 91 x6.toNatClampNeg (M.2 90 ((((60 * x1) + x2) + x6).toNatClampNeg))) Q) : px_T 0 331 113 [some (.ref 56), some (.int x1), some (.int x2), some (.int x3), some (.int x4), some (.int x5), some (.int x6)] [] M Q := by
  by_cases c1 : x5 ≤ x6
  · obtain ⟨n, h⟩ := h1 c1
    exact ⟨n + 5, ⟨fun _ => h, fun q => absurd c1 q⟩⟩
  · obtain ⟨n, h⟩ := h4 c1
    exact ⟨n + 19, ⟨fun q => absurd q c1, fun _ => ⟨rfl, ⟨rfl, ⟨⟨240, rfl, (h2 c1)⟩, ⟨⟨60, rfl, (h3 c1)⟩, h⟩⟩⟩⟩⟩⟩
theorem sg_331_150 {d1 : Option Value} {d2 : Option Value} {x3 : Int32} {x4 : Int32} {x5 : Int32} {x6 : Int32} {M : px_Mem} {Q : px_Po} (h1 : (x5 ≤ x6) → Q (some (.int 0)) M) (h2 : (¬ (x5 ≤ x6)) → vp_in x6 60) (h3 : (¬ (x5 ≤ x6)) → vp_in (((60 * x3) + x4) + x6) 240) (h4 : (¬ (x5 ≤ x6)) → px_T 0 331 150 [some (.ref 56), d1, d2, some (.int x3), some (.int x4), some (.int x5), some (.int (x6 + 1))] [] (px_wL M 90 ((((60 * x3) + x4) + x6).toNatClampNeg) (M.2 91 x6.toNatClampNeg)) Q) : px_T 0 331 150 [some (.ref 56), d1, d2, some (.int x3), some (.int x4), some (.int x5), some (.int x6)] [] M Q := by
  by_cases c1 : x5 ≤ x6
  · exact ⟨5, ⟨fun _ => ⟨trivial, h1 c1⟩, fun q => absurd c1 q⟩⟩
  · obtain ⟨n, h⟩ := h4 c1
    exact ⟨n + 19, ⟨fun q => absurd q c1, fun _ => ⟨rfl, ⟨rfl, ⟨⟨60, rfl, (h2 c1)⟩, ⟨⟨240, rfl, (h3 c1)⟩, h⟩⟩⟩⟩⟩⟩
