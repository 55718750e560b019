theorem sg_58_3 {x1 : Int32} {x2 : Int32} {M : px_Mem} {Q : px_Po} (h1 : (x2 < 0) → Q none M) (h2 : (¬ (x2 < 0)) → ((900 : Int32) ≤ (M.1 1 1)) → Q none M) (h3 : (¬ (x2 < 0)) → (¬ ((900 : Int32) ≤ (M.1 1 1))) → vp_in (M.1 1 1) 900) (h4 : (¬ (x2 < 0)) → (¬ ((900 : Int32) ≤ (M.1 1 1))) → px_T 0 58 43 [some (.ref 1), some (.int x1), some (.int x2)] [] (px_wI (px_wI M 2 ((M.1 1 1).toNatClampNeg) (((x1.toUInt32 >>> (x2.toUInt32 &&& Int32.toUInt32 31)).toInt32) &&& 255)) 1 1 ((M.1 1 1) + 1)) Q) : px_T 0 58 3 [some (.ref 1), some (.int x1), some (.int x2)] [] M Q := by
  by_cases c1 : x2 < 0
  · exact ⟨3, ⟨fun _ => ⟨rfl, h1 c1⟩, fun q => absurd c1 q⟩⟩
  · by_cases c2 : (900 : Int32) ≤ (M.1 1 1)
    · exact ⟨7, ⟨fun q => absurd q c1, fun _ => ⟨rfl, ⟨fun _ => ⟨rfl, h2 c1 c2⟩, fun q => absurd c2 q⟩⟩⟩⟩
    · obtain ⟨n, h⟩ := h4 c1 c2
      exact ⟨n + 22, ⟨fun q => absurd q c1, fun _ => ⟨rfl, ⟨fun q => absurd q c2, fun _ => ⟨rfl, ⟨rfl, ⟨⟨900, rfl, (h3 c1 c2)⟩, ⟨rfl, ⟨rfl, h⟩⟩⟩⟩⟩⟩⟩⟩⟩
theorem sg_58_46 {y : Int32} {x1 : Int32} {M : px_Mem} {Q : px_Po} (h1 : px_T 0 58 3 [some (.ref 1), some (.int x1), some (.int y)] [] M Q) : px_T 0 58 46 [some (.ref 1), some (.int x1), some (.int y)] [] M Q := by
  obtain ⟨n, h⟩ := h1
  exact ⟨n + 1, h⟩
theorem sg_58_43 {x1 : Int32} {x2 : Int32} {M : px_Mem} {Q : px_Po} (h1 : px_T 0 58 3 [some (.ref 1), some (.int x1), some (.int (x2 + (Int32.ofInt (-8))))] [] M Q) : px_T 0 58 43 [some (.ref 1), some (.int x1), some (.int x2)] [] M Q :=
  px_T_ii (j := 2) (c := -8) (len := 3) rfl rfl (sg_58_46 h1)
theorem sg_59_0 {x1 : Int32} {M : px_Mem} {Q : px_Po} (h1 : (x1 < 0) → Q (some (.int 32)) M) (h2 : (¬ (x1 < 0)) → ((M.1 1 1) ≤ x1) → Q (some (.int 32)) M) (h3 : (¬ (x1 < 0)) → (¬ ((M.1 1 1) ≤ x1)) → vp_in x1 900) (h4 : (¬ (x1 < 0)) → (¬ ((M.1 1 1) ≤ x1)) → Q (some (.int (M.1 2 x1.toNatClampNeg))) M) : px_T 0 59 0 [some (.ref 1), some (.int x1)] [] M Q := by
  by_cases c1 : x1 < 0
  · exact ⟨4, ⟨fun _ => ⟨trivial, h1 c1⟩, fun q => absurd c1 q⟩⟩
  · by_cases c2 : (M.1 1 1) ≤ x1
    · exact ⟨8, ⟨fun q => absurd q c1, fun _ => ⟨rfl, ⟨fun _ => ⟨trivial, h2 c1 c2⟩, fun q => absurd c2 q⟩⟩⟩⟩
    · exact ⟨12, ⟨fun q => absurd q c1, fun _ => ⟨rfl, ⟨fun q => absurd q c2, fun _ => ⟨rfl, ⟨Or.inl ⟨0, 900, Or.inl rfl, rfl, (h3 c1 c2)⟩, ⟨trivial, h4 c1 c2⟩⟩⟩⟩⟩⟩⟩
