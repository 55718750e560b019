theorem sg_145_44 {d1 : Option Value} {M : px_Mem} {Q : px_Po} (h1 : Q (some (.int (M.1 4 2))) M) : px_T 0 145 44 [some (.ref 0), d1] [] M Q := by
  exact ⟨4, ⟨rfl, ⟨rfl, ⟨trivial, h1⟩⟩⟩⟩
theorem sg_145_52 {d1 : Option Value} {M : px_Mem} {Q : px_Po} (h1 : Q (some (.int (M.1 4 3))) M) : px_T 0 145 52 [some (.ref 0), d1] [] M Q := by
  exact ⟨4, ⟨rfl, ⟨rfl, ⟨trivial, h1⟩⟩⟩⟩
theorem sg_145_60 {d1 : Option Value} {M : px_Mem} {Q : px_Po} (h1 : Q (some (.int (M.1 4 4))) M) : px_T 0 145 60 [some (.ref 0), d1] [] M Q := by
  exact ⟨4, ⟨rfl, ⟨rfl, ⟨trivial, h1⟩⟩⟩⟩
theorem sg_145_68 {d1 : Option Value} {M : px_Mem} {Q : px_Po} (h1 : Q (some (.int (M.1 4 5))) M) : px_T 0 145 68 [some (.ref 0), d1] [] M Q := by
  exact ⟨4, ⟨rfl, ⟨rfl, ⟨trivial, h1⟩⟩⟩⟩
theorem sg_145_76 {d1 : Option Value} {M : px_Mem} {Q : px_Po} (h1 : Q (some (.int (M.1 4 1))) M) : px_T 0 145 76 [some (.ref 0), d1] [] M Q := by
  exact ⟨4, ⟨rfl, ⟨rfl, ⟨trivial, h1⟩⟩⟩⟩
theorem sg_145_84 {d1 : Option Value} {M : px_Mem} {Q : px_Po} (h1 : Q (some (.int (M.1 1 1))) M) : px_T 0 145 84 [some (.ref 0), d1] [] M Q := by
  exact ⟨4, ⟨rfl, ⟨rfl, ⟨trivial, h1⟩⟩⟩⟩
theorem sg_145_92 {d1 : Option Value} {M : px_Mem} {Q : px_Po} (h1 : px_T 0 162 0 [some (.ref 0), none, none] [] M (fun r M1 => px_T 0 145 96 [some (.ref 0), d1] (r.toList ++ []) M1 Q)) : px_T 0 145 92 [some (.ref 0), d1] [] M Q := by
  obtain ⟨n, h⟩ := px_T_cl (k := 145) (pc := 93) (y := 162) (st := [.ref 0]) rfl (h1)
  exact ⟨n + 2, ⟨rfl, h⟩⟩
theorem sg_145_97 {d0 : Option Value} {d1 : Option Value} {M : px_Mem} {Q : px_Po} (h1 : Q (some (.int (-1))) M) : px_T 0 145 97 [d0, d1] [] M Q := by
  exact ⟨2, ⟨trivial, h1⟩⟩
theorem sg_145_96 {d0 : Option Value} {d1 : Option Value} {s0 : Int32} {M : px_Mem} {Q : px_Po} (h1 : Q (some (.int s0)) M) : px_T 0 145 96 [d0, d1] [.int s0] M Q := by
  exact ⟨1, ⟨trivial, h1⟩⟩
theorem sg_146_0 {x1 : Int32} {M : px_Mem} {Q : px_Po} (h1 : (x1 < 0) → Q (some (.int (-2))) M) (h2 : (¬ (x1 < 0)) → (x1 < 3) → vp_in x1 3) (h3 : (¬ (x1 < 0)) → (x1 < 3) → px_T 0 57 0 [some (.ref (px_rf 8 x1.toNatClampNeg)), some (.ref 4)] [] M (fun r M1 => px_T 0 146 25 [some (.ref 0), some (.int x1)] (r.toList ++ []) M1 Q)) (h4 : (¬ (x1 < 0)) → (x1 < 3) → px_sh 0 (px_rf 8 x1.toNatClampNeg) = some (.inl 7)) (h5 : (¬ (x1 < 0)) → (¬ (x1 < 3)) → Q (some (.int (-2))) M) : px_T 0 146 0 [some (.ref 0), some (.int x1)] [] M Q := by
  by_cases c1 : x1 < 0
  · exact ⟨4, ⟨fun _ => ⟨trivial, h1 c1⟩, fun q => absurd c1 q⟩⟩
  · by_cases c2 : x1 < 3
    · obtain ⟨n, h⟩ := px_T_cl (k := 146) (pc := 22) (y := 57) (st := [.ref 4, .ref (px_rf 8 x1.toNatClampNeg)]) rfl (h3 c1 c2)
      exact ⟨n + 12, ⟨fun q => absurd q c1, fun _ => ⟨fun _ => ⟨rfl, ⟨⟨4, 3, Or.inl rfl, rfl, (h2 c1 c2)⟩, ⟨rfl, ⟨(h4 c1 c2), h⟩⟩⟩⟩, fun q => absurd c2 q⟩⟩⟩
    · exact ⟨7, ⟨fun q => absurd q c1, fun _ => ⟨fun q => absurd q c2, fun _ => ⟨trivial, h5 c1 c2⟩⟩⟩⟩
theorem sg_146_25 {x1 : Int32} {M : px_Mem} {Q : px_Po} (h1 : vp_in x1 3) (h2 : px_sh 0 (px_rf 8 x1.toNatClampNeg) = some (.inl 7)) (h3 : Q (some (.int 0)) (px_wI M (px_rf 8 x1.toNatClampNeg) 6 1)) : px_T 0 146 25 [some (.ref 0), some (.int x1)] [] M Q := by
  exact ⟨8, ⟨rfl, ⟨⟨4, 3, Or.inl rfl, rfl, h1⟩, ⟨h2, Or.inr rfl, ⟨trivial, h3⟩⟩⟩⟩⟩
theorem sg_147_0 {x1 : Int32} {M : px_Mem} {Q : px_Po} (h1 : (x1 < 0) → Q (some (.int (-2))) M) (h2 : (¬ (x1 < 0)) → (x1 < 3) → vp_in x1 3) (h3 : (¬ (x1 < 0)) → (x1 < 3) → px_sh 0 (px_rf 8 x1.toNatClampNeg) = some (.inl 7)) (h4 : (¬ (x1 < 0)) → (x1 < 3) → ((M.1 (px_rf 8 x1.toNatClampNeg) 6) = 0) → Q (some (.int (-6))) M) (h5 : (¬ (x1 < 0)) → (x1 < 3) → (¬ ((M.1 (px_rf 8 x1.toNatClampNeg) 6) = 0)) → px_T 0 57 0 [some (.ref 4), some (.ref (px_rf 8 x1.toNatClampNeg))] [] M (fun r M1 => px_T 0 147 40 [some (.ref 0), some (.int x1)] (r.toList ++ []) M1 Q)) (h6 : (¬ (x1 < 0)) → (¬ (x1 < 3)) → Q (some (.int (-2))) M) : px_T 0 147 0 [some (.ref 0), some (.int x1)] [] M Q := by
  by_cases c1 : x1 < 0
  · exact ⟨4, ⟨fun _ => ⟨trivial, h1 c1⟩, fun q => absurd c1 q⟩⟩
  · by_cases c2 : x1 < 3
    · by_cases c3 : (M.1 (px_rf 8 x1.toNatClampNeg) 6) = 0
      · exact ⟨13, ⟨fun q => absurd q c1, fun _ => ⟨fun _ => ⟨rfl, ⟨⟨4, 3, Or.inl rfl, rfl, (h2 c1 c2)⟩, ⟨(h3 c1 c2), ⟨fun q => absurd c3 q, fun _ => ⟨trivial, h4 c1 c2 c3⟩⟩⟩⟩⟩, fun q => absurd c2 q⟩⟩⟩
      · obtain ⟨n, h⟩ := px_T_cl (k := 147) (pc := 37) (y := 57) (st := [.ref (px_rf 8 x1.toNatClampNeg), .ref 4]) rfl (h5 c1 c2 c3)
        exact ⟨n + 18, ⟨fun q => absurd q c1, fun _ => ⟨fun _ => ⟨rfl, ⟨⟨4, 3, Or.inl rfl, rfl, (h2 c1 c2)⟩, ⟨(h3 c1 c2), ⟨fun _ => ⟨rfl, ⟨rfl, ⟨⟨4, 3, Or.inl rfl, rfl, (h2 c1 c2)⟩, ⟨rfl, h⟩⟩⟩⟩, fun q => absurd q c3⟩⟩⟩⟩, fun q => absurd c2 q⟩⟩⟩
    · exact ⟨7, ⟨fun q => absurd q c1, fun _ => ⟨fun q => absurd q c2, fun _ => ⟨trivial, h6 c1 c2⟩⟩⟩⟩
theorem sg_147_40 {d1 : Option Value} {M : px_Mem} {Q : px_Po} (h1 : px_T 0 163 0 [some (.ref 0)] [] M (fun r M1 => px_T 0 147 44 [some (.ref 0), d1] (r.toList ++ []) M1 Q)) : px_T 0 147 40 [some (.ref 0), d1] [] M Q := by
  obtain ⟨n, h⟩ := px_T_cl (k := 147) (pc := 41) (y := 163) (st := [.ref 0]) rfl (h1)
  exact ⟨n + 2, ⟨rfl, h⟩⟩
theorem sg_147_44 {d0 : Option Value} {d1 : Option Value} {M : px_Mem} {Q : px_Po} (h1 : Q (some (.int 0)) M) : px_T 0 147 44 [d0, d1] [] M Q := by
  exact ⟨2, ⟨trivial, h1⟩⟩
theorem sg_148_0 {x1 : Int32} {x2 : Int32} {x3 : Int32} {M : px_Mem} {Q : px_Po} (h1 : px_T 0 156 0 [some (.int x1)] [] M (fun r M1 => px_T 0 148 4 [some (.ref 0), some (.int x1), some (.int x2), some (.int x3)] (r.toList ++ []) M1 Q)) : px_T 0 148 0 [some (.ref 0), some (.int x1), some (.int x2), some (.int x3)] [] M Q := by
  obtain ⟨n, h⟩ := px_T_cl (k := 148) (pc := 1) (y := 156) (st := [.int x1]) rfl (h1)
  exact ⟨n + 2, h⟩
theorem sg_148_4 {x1 : Int32} {x2 : Int32} {x3 : Int32} {s0 : Int32} {M : px_Mem} {Q : px_Po} (h1 : (s0 = 0) → (x2 < 0) → Q (some (.int (-2))) M) (h2 : (s0 = 0) → (¬ (x2 < 0)) → ((4 : Int32) ≤ x2) → Q (some (.int (-2))) M) (h3 : (s0 = 0) → (¬ (x2 < 0)) → (¬ ((4 : Int32) ≤ x2)) → (x3 ≤ 60) → ((0 : Int32) ≤ x3) → vp_in x1 4) (h4 : (s0 = 0) → (¬ (x2 < 0)) → (¬ ((4 : Int32) ≤ x2)) → (x3 ≤ 60) → ((0 : Int32) ≤ x3) → px_T 0 36 0 [some (.ref (px_rf 15 x1.toNatClampNeg)), some (.int x2), some (.int x3)] [] M (fun r M1 => px_T 0 148 43 [some (.ref 0), some (.int x1), some (.int x2), some (.int x3)] (r.toList ++ []) M1 Q)) (h5 : (s0 = 0) → (¬ (x2 < 0)) → (¬ ((4 : Int32) ≤ x2)) → (x3 ≤ 60) → ((0 : Int32) ≤ x3) → px_sh 0 (px_rf 15 x1.toNatClampNeg) = some (.inl 4)) (h6 : (s0 = 0) → (¬ (x2 < 0)) → (¬ ((4 : Int32) ≤ x2)) → (x3 ≤ 60) → (¬ ((0 : Int32) ≤ x3)) → Q (some (.int (-3))) M) (h7 : (s0 = 0) → (¬ (x2 < 0)) → (¬ ((4 : Int32) ≤ x2)) → (¬ (x3 ≤ 60)) → Q (some (.int (-2))) M) (h8 : (¬ (s0 = 0)) → Q (some (.int (-2))) M) : px_T 0 148 4 [some (.ref 0), some (.int x1), some (.int x2), some (.int x3)] [.int s0] M Q := by
  by_cases c1 : s0 = 0
  · by_cases c2 : x2 < 0
    · exact ⟨5, ⟨fun q => absurd c1 q, fun _ => ⟨fun _ => ⟨trivial, h1 c1 c2⟩, fun q => absurd c2 q⟩⟩⟩
    · by_cases c3 : (4 : Int32) ≤ x2
      · exact ⟨8, ⟨fun q => absurd c1 q, fun _ => ⟨fun q => absurd q c2, fun _ => ⟨fun _ => ⟨trivial, h2 c1 c2 c3⟩, fun q => absurd c3 q⟩⟩⟩⟩
      · by_cases c4 : x3 ≤ 60
        · by_cases c5 : (0 : Int32) ≤ x3
          · obtain ⟨n, h⟩ := px_T_cl (k := 148) (pc := 40) (y := 36) (st := [.int x3, .int x2, .ref (px_rf 15 x1.toNatClampNeg)]) rfl (h4 c1 c2 c3 c4 c5)
            exact ⟨n + 18, ⟨fun q => absurd c1 q, fun _ => ⟨fun q => absurd q c2, fun _ => ⟨fun q => absurd q c3, fun _ => ⟨fun _ => ⟨fun _ => ⟨rfl, ⟨⟨5, 4, Or.inr (Or.inl rfl), rfl, (h3 c1 c2 c3 c4 c5)⟩, ⟨(h5 c1 c2 c3 c4 c5), h⟩⟩⟩, fun q => absurd c5 q⟩, fun q => absurd c4 q⟩⟩⟩⟩⟩
          · exact ⟨13, ⟨fun q => absurd c1 q, fun _ => ⟨fun q => absurd q c2, fun _ => ⟨fun q => absurd q c3, fun _ => ⟨fun _ => ⟨fun q => absurd q c5, fun _ => ⟨trivial, h6 c1 c2 c3 c4 c5⟩⟩, fun q => absurd c4 q⟩⟩⟩⟩⟩
        · exact ⟨11, ⟨fun q => absurd c1 q, fun _ => ⟨fun q => absurd q c2, fun _ => ⟨fun q => absurd q c3, fun _ => ⟨fun q => absurd q c4, fun _ => ⟨trivial, h7 c1 c2 c3 c4⟩⟩⟩⟩⟩⟩
  · exact ⟨3, ⟨fun _ => ⟨trivial, h8 c1⟩, fun q => absurd q c1⟩⟩
theorem sg_148_43 {d0 : Option Value} {d1 : Option Value} {d2 : Option Value} {d3 : Option Value} {M : px_Mem} {Q : px_Po} (h1 : Q (some (.int 0)) M) : px_T 0 148 43 [d0, d1, d2, d3] [] M Q := by
  exact ⟨2, ⟨trivial, h1⟩⟩
theorem sg_149_0 {x1 : Int32} {x2 : Int32} {x3 : Int64} {M : px_Mem} {Q : px_Po} (h1 : px_T 0 156 0 [some (.int x1)] [] M (fun r M1 => px_T 0 149 4 [some (.ref 0), some (.int x1), some (.int x2), some (.long x3), none, none] (r.toList ++ []) M1 Q)) : px_T 0 149 0 [some (.ref 0), some (.int x1), some (.int x2), some (.long x3), none, none] [] M Q := by
  obtain ⟨n, h⟩ := px_T_cl (k := 149) (pc := 1) (y := 156) (st := [.int x1]) rfl (h1)
  exact ⟨n + 2, h⟩
theorem sg_149_4 {x1 : Int32} {x2 : Int32} {x3 : Int64} {d5 : Option Value} {s0 : Int32} {M : px_Mem} {Q : px_Po} (h1 : (s0 = 0) → vp_in x1 4) (h2 : (s0 = 0) → px_sh 0 (px_rf 15 x1.toNatClampNeg) = some (.inl 4)) (h3 : (s0 = 0) → ((M.1 (px_rf 15 x1.toNatClampNeg) 1) = 0) → Q (some (.int (-6))) M) (h4 : (s0 = 0) → (¬ ((M.1 (px_rf 15 x1.toNatClampNeg) 1) = 0)) → (x2 < 0) → Q (some (.int (-7))) M) (h5 : (s0 = 0) → (¬ ((M.1 (px_rf 15 x1.toNatClampNeg) 1) = 0)) → (¬ (x2 < 0)) → (x2 < (M.1 (px_rf 15 x1.toNatClampNeg) 3)) → px_T 0 37 0 [some (.ref (px_rf 15 x1.toNatClampNeg)), some (.int x2), some (.long x3), none] [] M (fun r M1 => px_T 0 149 52 [some (.ref 0), some (.int x1), some (.int x2), some (.long x3), none, some (.ref (px_rf 15 x1.toNatClampNeg))] (r.toList ++ []) M1 Q)) (h6 : (s0 = 0) → (¬ ((M.1 (px_rf 15 x1.toNatClampNeg) 1) = 0)) → (¬ (x2 < 0)) → (¬ (x2 < (M.1 (px_rf 15 x1.toNatClampNeg) 3))) → Q (some (.int (-7))) M) (h7 : (¬ (s0 = 0)) → Q (some (.int (-2))) M) : px_T 0 149 4 [some (.ref 0), some (.int x1), some (.int x2), some (.long x3), none, d5] [.int s0] M Q := by
  by_cases c1 : s0 = 0
  · by_cases c2 : (M.1 (px_rf 15 x1.toNatClampNeg) 1) = 0
    · exact ⟨11, ⟨fun _ => ⟨rfl, ⟨⟨5, 4, Or.inr (Or.inl rfl), rfl, (h1 c1)⟩, ⟨(h2 c1), ⟨fun q => absurd c2 q, fun _ => ⟨trivial, h3 c1 c2⟩⟩⟩⟩⟩, fun q => absurd c1 q⟩⟩
    · by_cases c3 : x2 < 0
      · exact ⟨13, ⟨fun _ => ⟨rfl, ⟨⟨5, 4, Or.inr (Or.inl rfl), rfl, (h1 c1)⟩, ⟨(h2 c1), ⟨fun _ => ⟨fun _ => ⟨trivial, h4 c1 c2 c3⟩, fun q => absurd c3 q⟩, fun q => absurd q c2⟩⟩⟩⟩, fun q => absurd c1 q⟩⟩
      · by_cases c4 : x2 < (M.1 (px_rf 15 x1.toNatClampNeg) 3)
        · obtain ⟨n, h⟩ := px_T_cl (k := 149) (pc := 49) (y := 37) (st := [.long x3, .int x2, .ref (px_rf 15 x1.toNatClampNeg)]) rfl (h5 c1 c2 c3 c4)
          exact ⟨n + 19, ⟨fun _ => ⟨rfl, ⟨⟨5, 4, Or.inr (Or.inl rfl), rfl, (h1 c1)⟩, ⟨(h2 c1), ⟨fun _ => ⟨fun q => absurd q c3, fun _ => ⟨(h2 c1), ⟨fun _ => ⟨(h2 c1), h⟩, fun q => absurd c4 q⟩⟩⟩, fun q => absurd q c2⟩⟩⟩⟩, fun q => absurd c1 q⟩⟩
        · exact ⟨17, ⟨fun _ => ⟨rfl, ⟨⟨5, 4, Or.inr (Or.inl rfl), rfl, (h1 c1)⟩, ⟨(h2 c1), ⟨fun _ => ⟨fun q => absurd q c3, fun _ => ⟨(h2 c1), ⟨fun q => absurd q c4, fun _ => ⟨trivial, h6 c1 c2 c3 c4⟩⟩⟩⟩, fun q => absurd q c2⟩⟩⟩⟩, fun q => absurd c1 q⟩⟩
  · exact ⟨3, ⟨fun q => absurd q c1, fun _ => ⟨trivial, h7 c1⟩⟩⟩
theorem sg_149_52 {d0 : Option Value} {d1 : Option Value} {d2 : Option Value} {d3 : Option Value} {d5 : Option Value} {M : px_Mem} {Q : px_Po} (h1 : Q (some (.int 0)) M) : px_T 0 149 52 [d0, d1, d2, d3, none, d5] [] M Q := by
  exact ⟨2, ⟨trivial, h1⟩⟩
theorem sg_150_0 {x1 : Int32} {x2 : Int32} {x3 : Int32} {x4 : Int32} {x5 : Int32} {M : px_Mem} {Q : px_Po} (h1 : px_T 0 156 0 [some (.int x1)] [] M (fun r M1 => px_T 0 150 4 [some (.ref 0), some (.int x1), some (.int x2), some (.int x3), some (.int x4), some (.int x5), none, none] (r.toList ++ []) M1 Q)) : px_T 0 150 0 [some (.ref 0), some (.int x1), some (.int x2), some (.int x3), some (.int x4), some (.int x5), none, none] [] M Q := by
  obtain ⟨n, h⟩ := px_T_cl (k := 150) (pc := 1) (y := 156) (st := [.int x1]) rfl (h1)
  exact ⟨n + 2, h⟩
theorem sg_150_4 {x1 : Int32} {x2 : Int32} {x3 : Int32} {x4 : Int32} {x5 : Int32} {d6 : Option Value} {d7 : Option Value} {s0 : Int32} {M : px_Mem} {Q : px_Po} (h1 : (s0 = 0) → px_T 0 156 0 [some (.int x3)] [] M (fun r M1 => px_T 0 150 11 [some (.ref 0), some (.int x1), some (.int x2), some (.int x3), some (.int x4), some (.int x5), d6, d7] (r.toList ++ []) M1 Q)) (h2 : (¬ (s0 = 0)) → Q (some (.int (-2))) M) : px_T 0 150 4 [some (.ref 0), some (.int x1), some (.int x2), some (.int x3), some (.int x4), some (.int x5), d6, d7] [.int s0] M Q := by
  by_cases c1 : s0 = 0
  · obtain ⟨n, h⟩ := px_T_cl (k := 150) (pc := 8) (y := 156) (st := [.int x3]) rfl (h1 c1)
    exact ⟨n + 3, ⟨fun q => absurd c1 q, fun _ => h⟩⟩
  · exact ⟨3, ⟨fun _ => ⟨trivial, h2 c1⟩, fun q => absurd q c1⟩⟩
theorem sg_150_11 {x1 : Int32} {x2 : Int32} {x3 : Int32} {x4 : Int32} {x5 : Int32} {d6 : Option Value} {d7 : Option Value} {s0 : Int32} {M : px_Mem} {Q : px_Po} (h1 : (s0 = 0) → vp_in x1 4) (h2 : (s0 = 0) → vp_in x3 4) (h3 : (s0 = 0) → px_sh 0 (px_rf 15 x1.toNatClampNeg) = some (.inl 4)) (h4 : (s0 = 0) → ((M.1 (px_rf 15 x1.toNatClampNeg) 1) = 0) → Q (some (.int (-6))) M) (h5 : (s0 = 0) → (¬ ((M.1 (px_rf 15 x1.toNatClampNeg) 1) = 0)) → px_sh 0 (px_rf 15 x3.toNatClampNeg) = some (.inl 4)) (h6 : (s0 = 0) → (¬ ((M.1 (px_rf 15 x1.toNatClampNeg) 1) = 0)) → ((M.1 (px_rf 15 x3.toNatClampNeg) 1) = 0) → Q (some (.int (-6))) M) (h7 : (s0 = 0) → (¬ ((M.1 (px_rf 15 x1.toNatClampNeg) 1) = 0)) → (¬ ((M.1 (px_rf 15 x3.toNatClampNeg) 1) = 0)) → ((M.1 (px_rf 15 x1.toNatClampNeg) 2) = (M.1 (px_rf 15 x3.toNatClampNeg) 2)) → px_T 0 39 0 [some (.ref (px_rf 15 x1.toNatClampNeg)), some (.int x2), some (.int x5)] [] M (fun r M1 => px_T 0 150 76 [some (.ref 0), some (.int x1), some (.int x2), some (.int x3), some (.int x4), some (.int x5), some (.ref (px_rf 15 x1.toNatClampNeg)), some (.ref (px_rf 15 x3.toNatClampNeg))] (r.toList ++ []) M1 Q)) (h8 : (s0 = 0) → (¬ ((M.1 (px_rf 15 x1.toNatClampNeg) 1) = 0)) → (¬ ((M.1 (px_rf 15 x3.toNatClampNeg) 1) = 0)) → (¬ ((M.1 (px_rf 15 x1.toNatClampNeg) 2) = (M.1 (px_rf 15 x3.toNatClampNeg) 2))) → Q (some (.int (-8))) M) (h9 : (¬ (s0 = 0)) → Q (some (.int (-2))) M) : px_T 0 150 11 [some (.ref 0), some (.int x1), some (.int x2), some (.int x3), some (.int x4), some (.int x5), d6, d7] [.int s0] M Q := by
  by_cases c1 : s0 = 0
  · by_cases c2 : (M.1 (px_rf 15 x1.toNatClampNeg) 1) = 0
    · exact ⟨16, ⟨fun _ => ⟨rfl, ⟨⟨5, 4, Or.inr (Or.inl rfl), rfl, (h1 c1)⟩, ⟨rfl, ⟨⟨5, 4, Or.inr (Or.inl rfl), rfl, (h2 c1)⟩, ⟨(h3 c1), ⟨fun _ => ⟨trivial, h4 c1 c2⟩, fun q => absurd c2 q⟩⟩⟩⟩⟩⟩, fun q => absurd c1 q⟩⟩
    · by_cases c3 : (M.1 (px_rf 15 x3.toNatClampNeg) 1) = 0
      · exact ⟨19, ⟨fun _ => ⟨rfl, ⟨⟨5, 4, Or.inr (Or.inl rfl), rfl, (h1 c1)⟩, ⟨rfl, ⟨⟨5, 4, Or.inr (Or.inl rfl), rfl, (h2 c1)⟩, ⟨(h3 c1), ⟨fun q => absurd q c2, fun _ => ⟨(h5 c1 c2), ⟨fun q => absurd c3 q, fun _ => ⟨trivial, h6 c1 c2 c3⟩⟩⟩⟩⟩⟩⟩⟩⟩, fun q => absurd c1 q⟩⟩
      · by_cases c4 : (M.1 (px_rf 15 x1.toNatClampNeg) 2) = (M.1 (px_rf 15 x3.toNatClampNeg) 2)
        · obtain ⟨n, h⟩ := px_T_cl (k := 150) (pc := 73) (y := 39) (st := [.int x5, .int x2, .ref (px_rf 15 x1.toNatClampNeg)]) rfl (h7 c1 c2 c3 c4)
          exact ⟨n + 26, ⟨fun _ => ⟨rfl, ⟨⟨5, 4, Or.inr (Or.inl rfl), rfl, (h1 c1)⟩, ⟨rfl, ⟨⟨5, 4, Or.inr (Or.inl rfl), rfl, (h2 c1)⟩, ⟨(h3 c1), ⟨fun q => absurd q c2, fun _ => ⟨(h5 c1 c2), ⟨fun _ => ⟨(h3 c1), ⟨(h5 c1 c2), ⟨fun _ => ⟨(h3 c1), h⟩, fun q => absurd c4 q⟩⟩⟩, fun q => absurd q c3⟩⟩⟩⟩⟩⟩⟩⟩, fun q => absurd c1 q⟩⟩
        · exact ⟨24, ⟨fun _ => ⟨rfl, ⟨⟨5, 4, Or.inr (Or.inl rfl), rfl, (h1 c1)⟩, ⟨rfl, ⟨⟨5, 4, Or.inr (Or.inl rfl), rfl, (h2 c1)⟩, ⟨(h3 c1), ⟨fun q => absurd q c2, fun _ => ⟨(h5 c1 c2), ⟨fun _ => ⟨(h3 c1), ⟨(h5 c1 c2), ⟨fun q => absurd q c4, fun _ => ⟨trivial, h8 c1 c2 c3 c4⟩⟩⟩⟩, fun q => absurd q c3⟩⟩⟩⟩⟩⟩⟩⟩, fun q => absurd c1 q⟩⟩
  · exact ⟨3, ⟨fun q => absurd q c1, fun _ => ⟨trivial, h9 c1⟩⟩⟩
theorem sg_150_76 {d0 : Option Value} {d1 : Option Value} {x2 : Int32} {d3 : Option Value} {x4 : Int32} {x5 : Int32} {x6 : Nat} {x7 : Nat} {s0 : Int32} {M : px_Mem} {Q : px_Po} (h_x6 : px_isR x6) (h_x7 : px_isR x7) (h1 : (s0 = 0) → px_T 0 39 0 [some (.ref x7), some (.int x4), some (.int x5)] [] M (fun r M1 => px_T 0 150 88 [d0, d1, some (.int x2), d3, some (.int x4), some (.int x5), some (.ref x6), some (.ref x7)] (r.toList ++ []) M1 Q)) (h2 : (¬ (s0 = 0)) → Q (some (.int (-7))) M) : px_T 0 150 76 [d0, d1, some (.int x2), d3, some (.int x4), some (.int x5), some (.ref x6), some (.ref x7)] [.int s0] M Q := by
  rcases h_x6 with rfl | rfl | rfl | rfl
  · rcases h_x7 with rfl | rfl | rfl | rfl
    · by_cases c1 : s0 = 0
      · obtain ⟨n, h⟩ := px_T_cl (k := 150) (pc := 85) (y := 39) (st := [.int x5, .int x4, .ref 16]) rfl (h1 c1)
        exact ⟨n + 5, ⟨fun q => absurd c1 q, fun _ => ⟨rfl, h⟩⟩⟩
      · exact ⟨3, ⟨fun _ => ⟨trivial, h2 c1⟩, fun q => absurd q c1⟩⟩
    · by_cases c1 : s0 = 0
      · obtain ⟨n, h⟩ := px_T_cl (k := 150) (pc := 85) (y := 39) (st := [.int x5, .int x4, .ref 18]) rfl (h1 c1)
        exact ⟨n + 5, ⟨fun q => absurd c1 q, fun _ => ⟨rfl, h⟩⟩⟩
      · exact ⟨3, ⟨fun _ => ⟨trivial, h2 c1⟩, fun q => absurd q c1⟩⟩
    · by_cases c1 : s0 = 0
      · obtain ⟨n, h⟩ := px_T_cl (k := 150) (pc := 85) (y := 39) (st := [.int x5, .int x4, .ref 20]) rfl (h1 c1)
        exact ⟨n + 5, ⟨fun q => absurd c1 q, fun _ => ⟨rfl, h⟩⟩⟩
      · exact ⟨3, ⟨fun _ => ⟨trivial, h2 c1⟩, fun q => absurd q c1⟩⟩
    · by_cases c1 : s0 = 0
      · obtain ⟨n, h⟩ := px_T_cl (k := 150) (pc := 85) (y := 39) (st := [.int x5, .int x4, .ref 22]) rfl (h1 c1)
        exact ⟨n + 5, ⟨fun q => absurd c1 q, fun _ => ⟨rfl, h⟩⟩⟩
      · exact ⟨3, ⟨fun _ => ⟨trivial, h2 c1⟩, fun q => absurd q c1⟩⟩
  · rcases h_x7 with rfl | rfl | rfl | rfl
    · by_cases c1 : s0 = 0
      · obtain ⟨n, h⟩ := px_T_cl (k := 150) (pc := 85) (y := 39) (st := [.int x5, .int x4, .ref 16]) rfl (h1 c1)
        exact ⟨n + 5, ⟨fun q => absurd c1 q, fun _ => ⟨rfl, h⟩⟩⟩
      · exact ⟨3, ⟨fun _ => ⟨trivial, h2 c1⟩, fun q => absurd q c1⟩⟩
    · by_cases c1 : s0 = 0
      · obtain ⟨n, h⟩ := px_T_cl (k := 150) (pc := 85) (y := 39) (st := [.int x5, .int x4, .ref 18]) rfl (h1 c1)
        exact ⟨n + 5, ⟨fun q => absurd c1 q, fun _ => ⟨rfl, h⟩⟩⟩
      · exact ⟨3, ⟨fun _ => ⟨trivial, h2 c1⟩, fun q => absurd q c1⟩⟩
    · by_cases c1 : s0 = 0
      · obtain ⟨n, h⟩ := px_T_cl (k := 150) (pc := 85) (y := 39) (st := [.int x5, .int x4, .ref 20]) rfl (h1 c1)
        exact ⟨n + 5, ⟨fun q => absurd c1 q, fun _ => ⟨rfl, h⟩⟩⟩
      · exact ⟨3, ⟨fun _ => ⟨trivial, h2 c1⟩, fun q => absurd q c1⟩⟩
    · by_cases c1 : s0 = 0
      · obtain ⟨n, h⟩ := px_T_cl (k := 150) (pc := 85) (y := 39) (st := [.int x5, .int x4, .ref 22]) rfl (h1 c1)
        exact ⟨n + 5, ⟨fun q => absurd c1 q, fun _ => ⟨rfl, h⟩⟩⟩
      · exact ⟨3, ⟨fun _ => ⟨trivial, h2 c1⟩, fun q => absurd q c1⟩⟩
  · rcases h_x7 with rfl | rfl | rfl | rfl
    · by_cases c1 : s0 = 0
      · obtain ⟨n, h⟩ := px_T_cl (k := 150) (pc := 85) (y := 39) (st := [.int x5, .int x4, .ref 16]) rfl (h1 c1)
        exact ⟨n + 5, ⟨fun q => absurd c1 q, fun _ => ⟨rfl, h⟩⟩⟩
      · exact ⟨3, ⟨fun _ => ⟨trivial, h2 c1⟩, fun q => absurd q c1⟩⟩
    · by_cases c1 : s0 = 0
      · obtain ⟨n, h⟩ := px_T_cl (k := 150) (pc := 85) (y := 39) (st := [.int x5, .int x4, .ref 18]) rfl (h1 c1)
        exact ⟨n + 5, ⟨fun q => absurd c1 q, fun _ => ⟨rfl, h⟩⟩⟩
      · exact ⟨3, ⟨fun _ => ⟨trivial, h2 c1⟩, fun q => absurd q c1⟩⟩
    · by_cases c1 : s0 = 0
      · obtain ⟨n, h⟩ := px_T_cl (k := 150) (pc := 85) (y := 39) (st := [.int x5, .int x4, .ref 20]) rfl (h1 c1)
        exact ⟨n + 5, ⟨fun q => absurd c1 q, fun _ => ⟨rfl, h⟩⟩⟩
      · exact ⟨3, ⟨fun _ => ⟨trivial, h2 c1⟩, fun q => absurd q c1⟩⟩
    · by_cases c1 : s0 = 0
      · obtain ⟨n, h⟩ := px_T_cl (k := 150) (pc := 85) (y := 39) (st := [.int x5, .int x4, .ref 22]) rfl (h1 c1)
        exact ⟨n + 5, ⟨fun q => absurd c1 q, fun _ => ⟨rfl, h⟩⟩⟩
      · exact ⟨3, ⟨fun _ => ⟨trivial, h2 c1⟩, fun q => absurd q c1⟩⟩
  · rcases h_x7 with rfl | rfl | rfl | rfl
    · by_cases c1 : s0 = 0
      · obtain ⟨n, h⟩ := px_T_cl (k := 150) (pc := 85) (y := 39) (st := [.int x5, .int x4, .ref 16]) rfl (h1 c1)
        exact ⟨n + 5, ⟨fun q => absurd c1 q, fun _ => ⟨rfl, h⟩⟩⟩
      · exact ⟨3, ⟨fun _ => ⟨trivial, h2 c1⟩, fun q => absurd q c1⟩⟩
    · by_cases c1 : s0 = 0
      · obtain ⟨n, h⟩ := px_T_cl (k := 150) (pc := 85) (y := 39) (st := [.int x5, .int x4, .ref 18]) rfl (h1 c1)
        exact ⟨n + 5, ⟨fun q => absurd c1 q, fun _ => ⟨rfl, h⟩⟩⟩
      · exact ⟨3, ⟨fun _ => ⟨trivial, h2 c1⟩, fun q => absurd q c1⟩⟩
    · by_cases c1 : s0 = 0
      · obtain ⟨n, h⟩ := px_T_cl (k := 150) (pc := 85) (y := 39) (st := [.int x5, .int x4, .ref 20]) rfl (h1 c1)
        exact ⟨n + 5, ⟨fun q => absurd c1 q, fun _ => ⟨rfl, h⟩⟩⟩
      · exact ⟨3, ⟨fun _ => ⟨trivial, h2 c1⟩, fun q => absurd q c1⟩⟩
    · by_cases c1 : s0 = 0
      · obtain ⟨n, h⟩ := px_T_cl (k := 150) (pc := 85) (y := 39) (st := [.int x5, .int x4, .ref 22]) rfl (h1 c1)
        exact ⟨n + 5, ⟨fun q => absurd c1 q, fun _ => ⟨rfl, h⟩⟩⟩
      · exact ⟨3, ⟨fun _ => ⟨trivial, h2 c1⟩, fun q => absurd q c1⟩⟩
theorem sg_150_88 {d0 : Option Value} {d1 : Option Value} {x2 : Int32} {d3 : Option Value} {x4 : Int32} {x5 : Int32} {x6 : Nat} {x7 : Nat} {s0 : Int32} {M : px_Mem} {Q : px_Po} (h_x6 : px_isR x6) (h_x7 : px_isR x7) (h1 : (s0 = 0) → px_cp 0 1 (x7 + 1) (x6 + 1) x2 x4 x5) (h2 : (s0 = 0) → Q (some (.int 0)) (px_aL M (x7 + 1) (va_cpy (M.2 (x6 + 1)) (M.2 (x7 + 1)) x2.toNatClampNeg x4.toNatClampNeg x5.toNatClampNeg))) (h3 : (¬ (s0 = 0)) → Q (some (.int (-7))) M) : px_T 0 150 88 [d0, d1, some (.int x2), d3, some (.int x4), some (.int x5), some (.ref x6), some (.ref x7)] [.int s0] M Q := by
  rcases h_x6 with rfl | rfl | rfl | rfl
  · rcases h_x7 with rfl | rfl | rfl | rfl
    · by_cases c1 : s0 = 0
      · exact ⟨11, ⟨fun _ => ⟨rfl, ⟨rfl, ⟨(by decide), (by decide), (by decide), Or.inr ⟨(h1 c1), ⟨trivial, h2 c1⟩⟩⟩⟩⟩, fun q => absurd c1 q⟩⟩
      · exact ⟨3, ⟨fun q => absurd q c1, fun _ => ⟨trivial, h3 c1⟩⟩⟩
    · by_cases c1 : s0 = 0
      · exact ⟨11, ⟨fun _ => ⟨rfl, ⟨rfl, ⟨(by decide), (by decide), (by decide), Or.inr ⟨(h1 c1), ⟨trivial, h2 c1⟩⟩⟩⟩⟩, fun q => absurd c1 q⟩⟩
      · exact ⟨3, ⟨fun q => absurd q c1, fun _ => ⟨trivial, h3 c1⟩⟩⟩
    · by_cases c1 : s0 = 0
      · exact ⟨11, ⟨fun _ => ⟨rfl, ⟨rfl, ⟨(by decide), (by decide), (by decide), Or.inr ⟨(h1 c1), ⟨trivial, h2 c1⟩⟩⟩⟩⟩, fun q => absurd c1 q⟩⟩
      · exact ⟨3, ⟨fun q => absurd q c1, fun _ => ⟨trivial, h3 c1⟩⟩⟩
    · by_cases c1 : s0 = 0
      · exact ⟨11, ⟨fun _ => ⟨rfl, ⟨rfl, ⟨(by decide), (by decide), (by decide), Or.inr ⟨(h1 c1), ⟨trivial, h2 c1⟩⟩⟩⟩⟩, fun q => absurd c1 q⟩⟩
      · exact ⟨3, ⟨fun q => absurd q c1, fun _ => ⟨trivial, h3 c1⟩⟩⟩
  · rcases h_x7 with rfl | rfl | rfl | rfl
    · by_cases c1 : s0 = 0
      · exact ⟨11, ⟨fun _ => ⟨rfl, ⟨rfl, ⟨(by decide), (by decide), (by decide), Or.inr ⟨(h1 c1), ⟨trivial, h2 c1⟩⟩⟩⟩⟩, fun q => absurd c1 q⟩⟩
      · exact ⟨3, ⟨fun q => absurd q c1, fun _ => ⟨trivial, h3 c1⟩⟩⟩
    · by_cases c1 : s0 = 0
      · exact ⟨11, ⟨fun _ => ⟨rfl, ⟨rfl, ⟨(by decide), (by decide), (by decide), Or.inr ⟨(h1 c1), ⟨trivial, h2 c1⟩⟩⟩⟩⟩, fun q => absurd c1 q⟩⟩
      · exact ⟨3, ⟨fun q => absurd q c1, fun _ => ⟨trivial, h3 c1⟩⟩⟩
    · by_cases c1 : s0 = 0
      · exact ⟨11, ⟨fun _ => ⟨rfl, ⟨rfl, ⟨(by decide), (by decide), (by decide), Or.inr ⟨(h1 c1), ⟨trivial, h2 c1⟩⟩⟩⟩⟩, fun q => absurd c1 q⟩⟩
      · exact ⟨3, ⟨fun q => absurd q c1, fun _ => ⟨trivial, h3 c1⟩⟩⟩
    · by_cases c1 : s0 = 0
      · exact ⟨11, ⟨fun _ => ⟨rfl, ⟨rfl, ⟨(by decide), (by decide), (by decide), Or.inr ⟨(h1 c1), ⟨trivial, h2 c1⟩⟩⟩⟩⟩, fun q => absurd c1 q⟩⟩
      · exact ⟨3, ⟨fun q => absurd q c1, fun _ => ⟨trivial, h3 c1⟩⟩⟩
  · rcases h_x7 with rfl | rfl | rfl | rfl
    · by_cases c1 : s0 = 0
      · exact ⟨11, ⟨fun _ => ⟨rfl, ⟨rfl, ⟨(by decide), (by decide), (by decide), Or.inr ⟨(h1 c1), ⟨trivial, h2 c1⟩⟩⟩⟩⟩, fun q => absurd c1 q⟩⟩
      · exact ⟨3, ⟨fun q => absurd q c1, fun _ => ⟨trivial, h3 c1⟩⟩⟩
    · by_cases c1 : s0 = 0
      · exact ⟨11, ⟨fun _ => ⟨rfl, ⟨rfl, ⟨(by decide), (by decide), (by decide), Or.inr ⟨(h1 c1), ⟨trivial, h2 c1⟩⟩⟩⟩⟩, fun q => absurd c1 q⟩⟩
      · exact ⟨3, ⟨fun q => absurd q c1, fun _ => ⟨trivial, h3 c1⟩⟩⟩
    · by_cases c1 : s0 = 0
      · exact ⟨11, ⟨fun _ => ⟨rfl, ⟨rfl, ⟨(by decide), (by decide), (by decide), Or.inr ⟨(h1 c1), ⟨trivial, h2 c1⟩⟩⟩⟩⟩, fun q => absurd c1 q⟩⟩
      · exact ⟨3, ⟨fun q => absurd q c1, fun _ => ⟨trivial, h3 c1⟩⟩⟩
    · by_cases c1 : s0 = 0
      · exact ⟨11, ⟨fun _ => ⟨rfl, ⟨rfl, ⟨(by decide), (by decide), (by decide), Or.inr ⟨(h1 c1), ⟨trivial, h2 c1⟩⟩⟩⟩⟩, fun q => absurd c1 q⟩⟩
      · exact ⟨3, ⟨fun q => absurd q c1, fun _ => ⟨trivial, h3 c1⟩⟩⟩
  · rcases h_x7 with rfl | rfl | rfl | rfl
    · by_cases c1 : s0 = 0
      · exact ⟨11, ⟨fun _ => ⟨rfl, ⟨rfl, ⟨(by decide), (by decide), (by decide), Or.inr ⟨(h1 c1), ⟨trivial, h2 c1⟩⟩⟩⟩⟩, fun q => absurd c1 q⟩⟩
      · exact ⟨3, ⟨fun q => absurd q c1, fun _ => ⟨trivial, h3 c1⟩⟩⟩
    · by_cases c1 : s0 = 0
      · exact ⟨11, ⟨fun _ => ⟨rfl, ⟨rfl, ⟨(by decide), (by decide), (by decide), Or.inr ⟨(h1 c1), ⟨trivial, h2 c1⟩⟩⟩⟩⟩, fun q => absurd c1 q⟩⟩
      · exact ⟨3, ⟨fun q => absurd q c1, fun _ => ⟨trivial, h3 c1⟩⟩⟩
    · by_cases c1 : s0 = 0
      · exact ⟨11, ⟨fun _ => ⟨rfl, ⟨rfl, ⟨(by decide), (by decide), (by decide), Or.inr ⟨(h1 c1), ⟨trivial, h2 c1⟩⟩⟩⟩⟩, fun q => absurd c1 q⟩⟩
      · exact ⟨3, ⟨fun q => absurd q c1, fun _ => ⟨trivial, h3 c1⟩⟩⟩
    · by_cases c1 : s0 = 0
      · exact ⟨11, ⟨fun _ => ⟨rfl, ⟨rfl, ⟨(by decide), (by decide), (by decide), Or.inr ⟨(h1 c1), ⟨trivial, h2 c1⟩⟩⟩⟩⟩, fun q => absurd c1 q⟩⟩
      · exact ⟨3, ⟨fun q => absurd q c1, fun _ => ⟨trivial, h3 c1⟩⟩⟩
theorem sg_151_0 {M : px_Mem} {Q : px_Po} (h1 : ((M.1 4 1) = 0) → Q (some (.int 1)) M) (h2 : (¬ ((M.1 4 1) = 0)) → Q (some (.int 0)) M) : px_T 0 151 0 [some (.ref 0)] [] M Q := by
  by_cases c1 : (M.1 4 1) = 0
  · exact ⟨7, ⟨rfl, ⟨rfl, ⟨fun q => absurd c1 q, fun _ => ⟨Or.inr rfl, h1 c1⟩⟩⟩⟩⟩
  · exact ⟨6, ⟨rfl, ⟨rfl, ⟨fun _ => ⟨Or.inl rfl, h2 c1⟩, fun q => absurd q c1⟩⟩⟩⟩
theorem sg_152_0 {x1 : Int32} {M : px_Mem} {Q : px_Po} (h1 : px_T 0 151 0 [some (.ref 0)] [] M (fun r M1 => px_T 0 152 4 [some (.ref 0), some (.int x1)] (r.toList ++ []) M1 Q)) : px_T 0 152 0 [some (.ref 0), some (.int x1)] [] M Q := by
  obtain ⟨n, h⟩ := px_T_cl (k := 152) (pc := 1) (y := 151) (st := [.ref 0]) rfl (h1)
  exact ⟨n + 2, ⟨rfl, h⟩⟩
theorem sg_152_4 {x1 : Int32} {s0 : Int32} {M : px_Mem} {Q : px_Po} (h1 : (s0 = 0) → (x1 < 0) → Q (some (.int 1)) M) (h2 : (s0 = 0) → (¬ (x1 < 0)) → px_T 0 53 0 [some (.ref 4)] [] M (fun r M1 => px_T 0 152 19 [some (.ref 0), some (.int x1)] (r.toList ++ [.int x1]) M1 Q)) (h3 : (¬ (s0 = 0)) → Q (some (.int 1)) M) : px_T 0 152 4 [some (.ref 0), some (.int x1)] [.int s0] M Q := by
  by_cases c1 : s0 = 0
  · by_cases c2 : x1 < 0
    · exact ⟨6, ⟨fun q => absurd c1 q, fun _ => ⟨fun _ => ⟨Or.inr rfl, h1 c1 c2⟩, fun q => absurd c2 q⟩⟩⟩
    · obtain ⟨n, h⟩ := px_T_cl (k := 152) (pc := 16) (y := 53) (st := [.ref 4, .int x1]) rfl (h2 c1 c2)
      exact ⟨n + 7, ⟨fun q => absurd c1 q, fun _ => ⟨fun q => absurd q c2, fun _ => ⟨rfl, ⟨rfl, h⟩⟩⟩⟩⟩
  · exact ⟨4, ⟨fun _ => ⟨Or.inr rfl, h3 c1⟩, fun q => absurd q c1⟩⟩
theorem sg_152_19 {d0 : Option Value} {d1 : Option Value} {s0 : Int32} {s1 : Int32} {M : px_Mem} {Q : px_Po} (h1 : (s1 ≤ s0) → Q (some (.int 0)) M) (h2 : (¬ (s1 ≤ s0)) → Q (some (.int 1)) M) : px_T 0 152 19 [d0, d1] [.int s0, .int s1] M Q := by
  by_cases c1 : s1 ≤ s0
  · exact ⟨3, ⟨fun _ => ⟨Or.inl rfl, h1 c1⟩, fun q => absurd c1 q⟩⟩
  · exact ⟨4, ⟨fun q => absurd q c1, fun _ => ⟨Or.inr rfl, h2 c1⟩⟩⟩
theorem sg_153_0 {x0 : Int32} {M : px_Mem} {Q : px_Po} (h1 : (x0 < 1) → Q (some (.int 1)) M) (h2 : (¬ (x0 < 1)) → (x0 ≤ 15) → Q (some (.int 0)) M) (h3 : (¬ (x0 < 1)) → (¬ (x0 ≤ 15)) → Q (some (.int 1)) M) : px_T 0 153 0 [some (.int x0)] [] M Q := by
  by_cases c1 : x0 < 1
  · exact ⟨6, ⟨fun _ => ⟨Or.inr rfl, h1 c1⟩, fun q => absurd c1 q⟩⟩
  · by_cases c2 : x0 ≤ 15
    · exact ⟨8, ⟨fun q => absurd q c1, fun _ => ⟨fun _ => ⟨Or.inl rfl, h2 c1 c2⟩, fun q => absurd c2 q⟩⟩⟩
    · exact ⟨9, ⟨fun q => absurd q c1, fun _ => ⟨fun q => absurd q c2, fun _ => ⟨Or.inr rfl, h3 c1 c2⟩⟩⟩⟩
theorem sg_154_0 {x0 : Int32} {x1 : Int32} {M : px_Mem} {Q : px_Po} (h1 : px_T 0 153 0 [some (.int x0)] [] M (fun r M1 => px_T 0 154 4 [some (.int x0), some (.int x1)] (r.toList ++ []) M1 Q)) : px_T 0 154 0 [some (.int x0), some (.int x1)] [] M Q := by
  obtain ⟨n, h⟩ := px_T_cl (k := 154) (pc := 1) (y := 153) (st := [.int x0]) rfl (h1)
  exact ⟨n + 2, h⟩
theorem sg_154_4 {d0 : Option Value} {x1 : Int32} {s0 : Int32} {M : px_Mem} {Q : px_Po} (h1 : (s0 = 0) → (x1 < 0) → Q (some (.int 1)) M) (h2 : (s0 = 0) → (¬ (x1 < 0)) → (x1 < 8) → Q (some (.int 0)) M) (h3 : (s0 = 0) → (¬ (x1 < 0)) → (¬ (x1 < 8)) → Q (some (.int 1)) M) (h4 : (¬ (s0 = 0)) → Q (some (.int 1)) M) : px_T 0 154 4 [d0, some (.int x1)] [.int s0] M Q := by
  by_cases c1 : s0 = 0
  · by_cases c2 : x1 < 0
    · exact ⟨6, ⟨fun q => absurd c1 q, fun _ => ⟨fun _ => ⟨Or.inr rfl, h1 c1 c2⟩, fun q => absurd c2 q⟩⟩⟩
    · by_cases c3 : x1 < 8
      · exact ⟨8, ⟨fun q => absurd c1 q, fun _ => ⟨fun q => absurd q c2, fun _ => ⟨fun _ => ⟨Or.inl rfl, h2 c1 c2 c3⟩, fun q => absurd c3 q⟩⟩⟩⟩
      · exact ⟨9, ⟨fun q => absurd c1 q, fun _ => ⟨fun q => absurd q c2, fun _ => ⟨fun q => absurd q c3, fun _ => ⟨Or.inr rfl, h3 c1 c2 c3⟩⟩⟩⟩⟩
  · exact ⟨4, ⟨fun _ => ⟨Or.inr rfl, h4 c1⟩, fun q => absurd q c1⟩⟩
theorem sg_155_0 {x0 : Int32} {M : px_Mem} {Q : px_Po} (h1 : (x0 < 0) → Q (some (.int 1)) M) (h2 : (¬ (x0 < 0)) → (x0 < 200) → Q (some (.int 0)) M) (h3 : (¬ (x0 < 0)) → (¬ (x0 < 200)) → Q (some (.int 1)) M) : px_T 0 155 0 [some (.int x0)] [] M Q := by
  by_cases c1 : x0 < 0
  · exact ⟨5, ⟨fun _ => ⟨Or.inr rfl, h1 c1⟩, fun q => absurd c1 q⟩⟩
  · by_cases c2 : x0 < 200
    · exact ⟨7, ⟨fun q => absurd q c1, fun _ => ⟨fun _ => ⟨Or.inl rfl, h2 c1 c2⟩, fun q => absurd c2 q⟩⟩⟩
    · exact ⟨8, ⟨fun q => absurd q c1, fun _ => ⟨fun q => absurd q c2, fun _ => ⟨Or.inr rfl, h3 c1 c2⟩⟩⟩⟩
theorem sg_156_0 {x0 : Int32} {M : px_Mem} {Q : px_Po} (h1 : (x0 < 0) → Q (some (.int 1)) M) (h2 : (¬ (x0 < 0)) → (x0 < 4) → Q (some (.int 0)) M) (h3 : (¬ (x0 < 0)) → (¬ (x0 < 4)) → Q (some (.int 1)) M) : px_T 0 156 0 [some (.int x0)] [] M Q := by
  by_cases c1 : x0 < 0
  · exact ⟨5, ⟨fun _ => ⟨Or.inr rfl, h1 c1⟩, fun q => absurd c1 q⟩⟩
  · by_cases c2 : x0 < 4
    · exact ⟨7, ⟨fun q => absurd q c1, fun _ => ⟨fun _ => ⟨Or.inl rfl, h2 c1 c2⟩, fun q => absurd c2 q⟩⟩⟩
    · exact ⟨8, ⟨fun q => absurd q c1, fun _ => ⟨fun q => absurd q c2, fun _ => ⟨Or.inr rfl, h3 c1 c2⟩⟩⟩⟩
theorem sg_157_0 {x0 : Int32} {M : px_Mem} {Q : px_Po} (h1 : (x0 < 0) → Q (some (.int 1)) M) (h2 : (¬ (x0 < 0)) → (x0 ≤ 2000000000) → Q (some (.int 0)) M) (h3 : (¬ (x0 < 0)) → (¬ (x0 ≤ 2000000000)) → Q (some (.int 1)) M) : px_T 0 157 0 [some (.int x0)] [] M Q := by
  by_cases c1 : x0 < 0
  · exact ⟨5, ⟨fun _ => ⟨Or.inr rfl, h1 c1⟩, fun q => absurd c1 q⟩⟩
  · by_cases c2 : x0 ≤ 2000000000
    · exact ⟨7, ⟨fun q => absurd q c1, fun _ => ⟨fun _ => ⟨Or.inl rfl, h2 c1 c2⟩, fun q => absurd c2 q⟩⟩⟩
    · exact ⟨8, ⟨fun q => absurd q c1, fun _ => ⟨fun q => absurd q c2, fun _ => ⟨Or.inr rfl, h3 c1 c2⟩⟩⟩⟩
theorem sg_158_0 {x0 : Int32} {x1 : Int32} {M : px_Mem} {Q : px_Po} (h1 : (x0 < 2) → Q (some (.int 1)) M) (h2 : (¬ (x0 < 2)) → px_T 0 153 0 [some (.int x0)] [] M (fun r M1 => px_T 0 158 9 [some (.int x0), some (.int x1)] (r.toList ++ []) M1 Q)) : px_T 0 158 0 [some (.int x0), some (.int x1)] [] M Q := by
  by_cases c1 : x0 < 2
  · exact ⟨6, ⟨fun _ => ⟨Or.inr rfl, h1 c1⟩, fun q => absurd c1 q⟩⟩
  · obtain ⟨n, h⟩ := px_T_cl (k := 158) (pc := 6) (y := 153) (st := [.int x0]) rfl (h2 c1)
    exact ⟨n + 5, ⟨fun q => absurd q c1, fun _ => h⟩⟩
theorem sg_158_9 {x0 : Int32} {x1 : Int32} {s0 : Int32} {M : px_Mem} {Q : px_Po} (h1 : (s0 = 0) → (x1 < 2) → Q (some (.int 1)) M) (h2 : (s0 = 0) → (¬ (x1 < 2)) → px_T 0 153 0 [some (.int x1)] [] M (fun r M1 => px_T 0 158 21 [some (.int x0), some (.int x1)] (r.toList ++ []) M1 Q)) (h3 : (¬ (s0 = 0)) → Q (some (.int 1)) M) : px_T 0 158 9 [some (.int x0), some (.int x1)] [.int s0] M Q := by
  by_cases c1 : s0 = 0
  · by_cases c2 : x1 < 2
    · exact ⟨7, ⟨fun q => absurd c1 q, fun _ => ⟨fun _ => ⟨Or.inr rfl, h1 c1 c2⟩, fun q => absurd c2 q⟩⟩⟩
    · obtain ⟨n, h⟩ := px_T_cl (k := 158) (pc := 18) (y := 153) (st := [.int x1]) rfl (h2 c1 c2)
      exact ⟨n + 6, ⟨fun q => absurd c1 q, fun _ => ⟨fun q => absurd q c2, fun _ => h⟩⟩⟩
  · exact ⟨4, ⟨fun _ => ⟨Or.inr rfl, h3 c1⟩, fun q => absurd q c1⟩⟩
theorem sg_158_21 {x0 : Int32} {x1 : Int32} {s0 : Int32} {M : px_Mem} {Q : px_Po} (h1 : (s0 = 0) → (x0 = x1) → Q (some (.int 1)) M) (h2 : (s0 = 0) → (¬ (x0 = x1)) → Q (some (.int 0)) M) (h3 : (¬ (s0 = 0)) → Q (some (.int 1)) M) : px_T 0 158 21 [some (.int x0), some (.int x1)] [.int s0] M Q := by
  by_cases c1 : s0 = 0
  · by_cases c2 : x0 = x1
    · exact ⟨7, ⟨fun q => absurd c1 q, fun _ => ⟨fun q => absurd c2 q, fun _ => ⟨Or.inr rfl, h1 c1 c2⟩⟩⟩⟩
    · exact ⟨6, ⟨fun q => absurd c1 q, fun _ => ⟨fun _ => ⟨Or.inl rfl, h2 c1 c2⟩, fun q => absurd q c2⟩⟩⟩
  · exact ⟨4, ⟨fun _ => ⟨Or.inr rfl, h3 c1⟩, fun q => absurd q c1⟩⟩
theorem sg_159_0 {x1 : Int32} {x2 : Int32} {x3 : Int32} {M : px_Mem} {Q : px_Po} (h1 : px_T 0 152 0 [some (.ref 0), some (.int x1)] [] M (fun r M1 => px_T 0 159 5 [some (.ref 0), some (.int x1), some (.int x2), some (.int x3)] (r.toList ++ []) M1 Q)) : px_T 0 159 0 [some (.ref 0), some (.int x1), some (.int x2), some (.int x3)] [] M Q := by
  obtain ⟨n, h⟩ := px_T_cl (k := 159) (pc := 2) (y := 152) (st := [.int x1, .ref 0]) rfl (h1)
  exact ⟨n + 3, ⟨rfl, h⟩⟩
theorem sg_159_5 {x1 : Int32} {x2 : Int32} {x3 : Int32} {s0 : Int32} {M : px_Mem} {Q : px_Po} (h1 : (s0 = 0) → px_T 0 152 0 [some (.ref 0), some (.int x3)] [] M (fun r M1 => px_T 0 159 13 [some (.ref 0), some (.int x1), some (.int x2), some (.int x3)] (r.toList ++ []) M1 Q)) (h2 : (¬ (s0 = 0)) → Q (some (.int 1)) M) : px_T 0 159 5 [some (.ref 0), some (.int x1), some (.int x2), some (.int x3)] [.int s0] M Q := by
  by_cases c1 : s0 = 0
  · obtain ⟨n, h⟩ := px_T_cl (k := 159) (pc := 10) (y := 152) (st := [.int x3, .ref 0]) rfl (h1 c1)
    exact ⟨n + 4, ⟨fun q => absurd c1 q, fun _ => ⟨rfl, h⟩⟩⟩
  · exact ⟨4, ⟨fun _ => ⟨Or.inr rfl, h2 c1⟩, fun q => absurd q c1⟩⟩
theorem sg_159_13 {d0 : Option Value} {x1 : Int32} {x2 : Int32} {x3 : Int32} {s0 : Int32} {M : px_Mem} {Q : px_Po} (h1 : (s0 = 0) → (x3 ≤ x1) → Q (some (.int 1)) M) (h2 : (s0 = 0) → (¬ (x3 ≤ x1)) → (x2 < 1) → Q (some (.int 1)) M) (h3 : (s0 = 0) → (¬ (x3 ≤ x1)) → (¬ (x2 < 1)) → (x2 ≤ 40) → Q (some (.int 0)) M) (h4 : (s0 = 0) → (¬ (x3 ≤ x1)) → (¬ (x2 < 1)) → (¬ (x2 ≤ 40)) → Q (some (.int 1)) M) (h5 : (¬ (s0 = 0)) → Q (some (.int 1)) M) : px_T 0 159 13 [d0, some (.int x1), some (.int x2), some (.int x3)] [.int s0] M Q := by
  by_cases c1 : s0 = 0
  · by_cases c2 : x3 ≤ x1
    · exact ⟨7, ⟨fun q => absurd c1 q, fun _ => ⟨fun _ => ⟨Or.inr rfl, h1 c1 c2⟩, fun q => absurd c2 q⟩⟩⟩
    · by_cases c3 : x2 < 1
      · exact ⟨10, ⟨fun q => absurd c1 q, fun _ => ⟨fun q => absurd q c2, fun _ => ⟨fun _ => ⟨Or.inr rfl, h2 c1 c2 c3⟩, fun q => absurd c3 q⟩⟩⟩⟩
      · by_cases c4 : x2 ≤ 40
        · exact ⟨12, ⟨fun q => absurd c1 q, fun _ => ⟨fun q => absurd q c2, fun _ => ⟨fun q => absurd q c3, fun _ => ⟨fun _ => ⟨Or.inl rfl, h3 c1 c2 c3 c4⟩, fun q => absurd c4 q⟩⟩⟩⟩⟩
        · exact ⟨13, ⟨fun q => absurd c1 q, fun _ => ⟨fun q => absurd q c2, fun _ => ⟨fun q => absurd q c3, fun _ => ⟨fun q => absurd q c4, fun _ => ⟨Or.inr rfl, h4 c1 c2 c3 c4⟩⟩⟩⟩⟩⟩
  · exact ⟨4, ⟨fun _ => ⟨Or.inr rfl, h5 c1⟩, fun q => absurd q c1⟩⟩
theorem sg_160_0 {x1 : Int32} {x2 : Int32} {M : px_Mem} {Q : px_Po} (h1 : px_T 0 151 0 [some (.ref 0)] [] M (fun r M1 => px_T 0 160 4 [some (.ref 0), some (.int x1), some (.int x2)] (r.toList ++ []) M1 Q)) : px_T 0 160 0 [some (.ref 0), some (.int x1), some (.int x2)] [] M Q := by
  obtain ⟨n, h⟩ := px_T_cl (k := 160) (pc := 1) (y := 151) (st := [.ref 0]) rfl (h1)
  exact ⟨n + 2, ⟨rfl, h⟩⟩
theorem sg_160_4 {x1 : Int32} {x2 : Int32} {s0 : Int32} {M : px_Mem} {Q : px_Po} (h1 : (s0 = 0) → (x1 < 0) → Q (some (.int 1)) M) (h2 : (s0 = 0) → (¬ (x1 < 0)) → ((6 : Int32) < x1) → Q (some (.int 1)) M) (h3 : (s0 = 0) → (¬ (x1 < 0)) → (¬ ((6 : Int32) < x1)) → px_T 0 53 0 [some (.ref 4)] [] M (fun r M1 => px_T 0 160 25 [some (.ref 0), some (.int x1), some (.int x2)] (r.toList ++ [.int x1]) M1 Q)) (h4 : (¬ (s0 = 0)) → Q (some (.int 1)) M) : px_T 0 160 4 [some (.ref 0), some (.int x1), some (.int x2)] [.int s0] M Q := by
  by_cases c1 : s0 = 0
  · by_cases c2 : x1 < 0
    · exact ⟨6, ⟨fun q => absurd c1 q, fun _ => ⟨fun _ => ⟨Or.inr rfl, h1 c1 c2⟩, fun q => absurd c2 q⟩⟩⟩
    · by_cases c3 : (6 : Int32) < x1
      · exact ⟨9, ⟨fun q => absurd c1 q, fun _ => ⟨fun q => absurd q c2, fun _ => ⟨fun _ => ⟨Or.inr rfl, h2 c1 c2 c3⟩, fun q => absurd c3 q⟩⟩⟩⟩
      · obtain ⟨n, h⟩ := px_T_cl (k := 160) (pc := 22) (y := 53) (st := [.ref 4, .int x1]) rfl (h3 c1 c2 c3)
        exact ⟨n + 10, ⟨fun q => absurd c1 q, fun _ => ⟨fun q => absurd q c2, fun _ => ⟨fun q => absurd q c3, fun _ => ⟨rfl, ⟨rfl, h⟩⟩⟩⟩⟩⟩
  · exact ⟨4, ⟨fun _ => ⟨Or.inr rfl, h4 c1⟩, fun q => absurd q c1⟩⟩
theorem sg_160_25 {d0 : Option Value} {d1 : Option Value} {x2 : Int32} {s0 : Int32} {s1 : Int32} {M : px_Mem} {Q : px_Po} (h1 : (s0 < s1) → Q (some (.int 1)) M) (h2 : (¬ (s0 < s1)) → (x2 < 0) → Q (some (.int 1)) M) (h3 : (¬ (s0 < s1)) → (¬ (x2 < 0)) → (x2 ≤ 1) → Q (some (.int 0)) M) (h4 : (¬ (s0 < s1)) → (¬ (x2 < 0)) → (¬ (x2 ≤ 1)) → Q (some (.int 1)) M) : px_T 0 160 25 [d0, d1, some (.int x2)] [.int s0, .int s1] M Q := by
  by_cases c1 : s0 < s1
  · exact ⟨4, ⟨fun _ => ⟨Or.inr rfl, h1 c1⟩, fun q => absurd c1 q⟩⟩
  · by_cases c2 : x2 < 0
    · exact ⟨6, ⟨fun q => absurd q c1, fun _ => ⟨fun _ => ⟨Or.inr rfl, h2 c1 c2⟩, fun q => absurd c2 q⟩⟩⟩
    · by_cases c3 : x2 ≤ 1
      · exact ⟨8, ⟨fun q => absurd q c1, fun _ => ⟨fun q => absurd q c2, fun _ => ⟨fun _ => ⟨Or.inl rfl, h3 c1 c2 c3⟩, fun q => absurd c3 q⟩⟩⟩⟩
      · exact ⟨9, ⟨fun q => absurd q c1, fun _ => ⟨fun q => absurd q c2, fun _ => ⟨fun q => absurd q c3, fun _ => ⟨Or.inr rfl, h4 c1 c2 c3⟩⟩⟩⟩⟩
theorem sg_161_0 {x0 : Int32} {M : px_Mem} {Q : px_Po} (h1 : Q (some (.int (1 <<< ((x0 - 1) &&& 31)))) M) : px_T 0 161 0 [some (.int x0)] [] M Q := by
  exact ⟨6, ⟨trivial, h1⟩⟩
theorem sg_162_0 {M : px_Mem} {Q : px_Po} (h1 : px_T 0 162 4 [some (.ref 0), some (.int 0), some (.int 0)] [] M Q) : px_T 0 162 0 [some (.ref 0), none, none] [] M Q := by
  obtain ⟨n, h⟩ := h1
  exact ⟨n + 4, h⟩
theorem sg_162_4 {x1 : Int32} {x2 : Int32} {M : px_Mem} {Q : px_Po} (h1 : ((4 : Int32) ≤ x2) → Q (some (.int x1)) M) (h2 : (¬ ((4 : Int32) ≤ x2)) → vp_in x2 4) (h3 : (¬ ((4 : Int32) ≤ x2)) → px_sh 0 (px_rf 15 x2.toNatClampNeg) = some (.inl 4)) (h4 : (¬ ((4 : Int32) ≤ x2)) → ((M.1 (px_rf 15 x2.toNatClampNeg) 1) = 0) → px_T 0 162 4 [some (.ref 0), some (.int x1), some (.int (x2 + 1))] [] M Q) (h5 : (¬ ((4 : Int32) ≤ x2)) → (¬ ((M.1 (px_rf 15 x2.toNatClampNeg) 1) = 0)) → px_T 0 162 4 [some (.ref 0), some (.int (x1 + 1)), some (.int (x2 + 1))] [] M Q) : px_T 0 162 4 [some (.ref 0), some (.int x1), some (.int x2)] [] M Q := by
  by_cases c1 : (4 : Int32) ≤ x2
  · exact ⟨5, ⟨fun _ => ⟨trivial, h1 c1⟩, fun q => absurd c1 q⟩⟩
  · by_cases c2 : (M.1 (px_rf 15 x2.toNatClampNeg) 1) = 0
    · obtain ⟨n, h⟩ := h4 c1 c2
      exact ⟨n + 11, ⟨fun q => absurd q c1, fun _ => ⟨rfl, ⟨⟨5, 4, Or.inr (Or.inl rfl), rfl, (h2 c1)⟩, ⟨(h3 c1), ⟨fun _ => h, fun q => absurd c2 q⟩⟩⟩⟩⟩⟩
    · obtain ⟨n, h⟩ := h5 c1 c2
      exact ⟨n + 12, ⟨fun q => absurd q c1, fun _ => ⟨rfl, ⟨⟨5, 4, Or.inr (Or.inl rfl), rfl, (h2 c1)⟩, ⟨(h3 c1), ⟨fun q => absurd q c2, fun _ => h⟩⟩⟩⟩⟩⟩
theorem sg_163_0 {M : px_Mem} {Q : px_Po} (h1 : px_T 0 10 0 [some (.ref 28)] [] M (fun r M1 => px_T 0 163 7 [some (.ref 0)] (r.toList ++ []) M1 Q)) : px_T 0 163 0 [some (.ref 0)] [] M Q := by
  obtain ⟨n, h⟩ := px_T_cl (k := 163) (pc := 4) (y := 10) (st := [.ref 28]) rfl (h1)
  exact ⟨n + 3, ⟨rfl, ⟨rfl, h⟩⟩⟩
theorem sg_163_7 {M : px_Mem} {Q : px_Po} (h1 : px_T 0 43 0 [some (.ref 38)] [] M (fun r M1 => px_T 0 163 14 [some (.ref 0)] (r.toList ++ []) M1 Q)) : px_T 0 163 7 [some (.ref 0)] [] M Q := by
  obtain ⟨n, h⟩ := px_T_cl (k := 163) (pc := 11) (y := 43) (st := [.ref 38]) rfl (h1)
  exact ⟨n + 3, ⟨rfl, ⟨rfl, h⟩⟩⟩
theorem sg_163_14 {d0 : Option Value} {M : px_Mem} {Q : px_Po} (h1 : Q none M) : px_T 0 163 14 [d0] [] M Q := by
  exact ⟨1, ⟨rfl, h1⟩⟩
theorem sg_164_0 {x1 : Int32} {x2 : Int32} {x3 : Int32} {M : px_Mem} {Q : px_Po} (h1 : px_T 0 164 3 [some (.ref 0), some (.int x1), some (.int x2), some (.int x3), some (.int x3)] [] M Q) : px_T 0 164 0 [some (.ref 0), some (.int x1), some (.int x2), some (.int x3), none] [] M Q := by
  obtain ⟨n, h⟩ := h1
  exact ⟨n + 2, h⟩
theorem sg_164_3 {x1 : Int32} {x2 : Int32} {d3 : Option Value} {x4 : Int32} {M : px_Mem} {Q : px_Po} (h1 : px_T 0 53 0 [some (.ref 4)] [] M (fun r M1 => px_T 0 164 12 [some (.ref 0), some (.int x1), some (.int x2), d3, some (.int x4)] (r.toList ++ [.int x4]) M1 Q)) : px_T 0 164 3 [some (.ref 0), some (.int x1), some (.int x2), d3, some (.int x4)] [] M Q := by
  obtain ⟨n, h⟩ := px_T_cl (k := 164) (pc := 9) (y := 53) (st := [.ref 4, .int x4]) rfl (h1)
  exact ⟨n + 4, ⟨rfl, ⟨rfl, h⟩⟩⟩
theorem sg_164_12 {x1 : Int32} {x2 : Int32} {d3 : Option Value} {x4 : Int32} {s0 : Int32} {s1 : Int32} {M : px_Mem} {Q : px_Po} (h1 : (s0 < s1) → Q (some (.int (-1))) M) (h2 : (¬ (s0 < s1)) → px_T 0 11 0 [some (.ref 28), some (.int x4)] [] M (fun r M1 => px_T 0 164 24 [some (.ref 0), some (.int x1), some (.int x2), d3, some (.int x4)] (r.toList ++ []) M1 Q)) : px_T 0 164 12 [some (.ref 0), some (.int x1), some (.int x2), d3, some (.int x4)] [.int s0, .int s1] M Q := by
  by_cases c1 : s0 < s1
  · exact ⟨3, ⟨fun _ => ⟨trivial, h1 c1⟩, fun q => absurd c1 q⟩⟩
  · obtain ⟨n, h⟩ := px_T_cl (k := 164) (pc := 21) (y := 11) (st := [.int x4, .ref 28]) rfl (h2 c1)
    exact ⟨n + 5, ⟨fun q => absurd q c1, fun _ => ⟨rfl, ⟨rfl, h⟩⟩⟩⟩
theorem sg_164_24 {x1 : Int32} {x2 : Int32} {d3 : Option Value} {x4 : Int32} {s0 : Nat} {M : px_Mem} {Q : px_Po} (h_s0 : px_isW s0) (h1 : px_T 0 63 0 [some (.ref s0), some (.int x1)] [] M (fun r M1 => px_T 0 164 28 [some (.ref 0), some (.int x1), some (.int x2), d3, some (.int x4)] (r.toList ++ []) M1 Q)) : px_T 0 164 24 [some (.ref 0), some (.int x1), some (.int x2), d3, some (.int x4)] [.ref s0] M Q := by
  rcases h_s0 with rfl | rfl
  · obtain ⟨n, h⟩ := px_T_cl (k := 164) (pc := 25) (y := 63) (st := [.int x1, .ref 29]) rfl (h1)
    exact ⟨n + 2, ⟨rfl, h⟩⟩
  · obtain ⟨n, h⟩ := px_T_cl (k := 164) (pc := 25) (y := 63) (st := [.int x1, .ref 47]) rfl (h1)
    exact ⟨n + 2, ⟨rfl, h⟩⟩
theorem sg_164_28 {x1 : Int32} {x2 : Int32} {d3 : Option Value} {x4 : Int32} {s0 : Int32} {M : px_Mem} {Q : px_Po} (h1 : (s0 = x2) → Q (some (.int x4)) M) (h2 : (¬ (s0 = x2)) → px_T 0 164 3 [some (.ref 0), some (.int x1), some (.int x2), d3, some (.int (x4 + 1))] [] M Q) : px_T 0 164 28 [some (.ref 0), some (.int x1), some (.int x2), d3, some (.int x4)] [.int s0] M Q := by
  by_cases c1 : s0 = x2
  · exact ⟨4, ⟨fun q => absurd c1 q, fun _ => ⟨trivial, h1 c1⟩⟩⟩
  · obtain ⟨n, h⟩ := h2 c1
    exact ⟨n + 4, ⟨fun _ => h, fun q => absurd q c1⟩⟩
theorem sg_165_0 {x1 : Int32} {x2 : Int32} {M : px_Mem} {Q : px_Po} (h1 : px_T 0 60 0 [some (.ref 47)] [] M (fun r M1 => px_T 0 165 7 [some (.ref 0), some (.int x1), some (.int x2), none, none] (r.toList ++ []) M1 Q)) : px_T 0 165 0 [some (.ref 0), some (.int x1), some (.int x2), none, none] [] M Q := by
  obtain ⟨n, h⟩ := px_T_cl (k := 165) (pc := 4) (y := 60) (st := [.ref 47]) rfl (h1)
  exact ⟨n + 3, ⟨rfl, ⟨rfl, h⟩⟩⟩
theorem sg_165_7 {x1 : Int32} {x2 : Int32} {d3 : Option Value} {d4 : Option Value} {M : px_Mem} {Q : px_Po} (h1 : px_T 0 165 12 [some (.ref 0), some (.int x1), some (.int x2), some (.int 0), some (.int 0)] [] M Q) : px_T 0 165 7 [some (.ref 0), some (.int x1), some (.int x2), d3, d4] [] M Q := by
  obtain ⟨n, h⟩ := h1
  exact ⟨n + 4, h⟩
theorem sg_165_12 {x1 : Int32} {x2 : Int32} {x3 : Int32} {x4 : Int32} {M : px_Mem} {Q : px_Po} (h1 : px_T 0 53 0 [some (.ref 4)] [] M (fun r M1 => px_T 0 165 21 [some (.ref 0), some (.int x1), some (.int x2), some (.int x3), some (.int x4)] (r.toList ++ [.int x4]) M1 Q)) : px_T 0 165 12 [some (.ref 0), some (.int x1), some (.int x2), some (.int x3), some (.int x4)] [] M Q := by
  obtain ⟨n, h⟩ := px_T_cl (k := 165) (pc := 18) (y := 53) (st := [.ref 4, .int x4]) rfl (h1)
  exact ⟨n + 4, ⟨rfl, ⟨rfl, h⟩⟩⟩
theorem sg_165_21 {x1 : Int32} {x2 : Int32} {x3 : Int32} {x4 : Int32} {s0 : Int32} {s1 : Int32} {M : px_Mem} {Q : px_Po} (h1 : (s0 ≤ s1) → Q (some (.int x3)) M) (h2 : (¬ (s0 ≤ s1)) → (x4 = x1) → px_T 0 165 12 [some (.ref 0), some (.int x1), some (.int x2), some (.int x3), some (.int (x4 + 1))] [] M Q) (h3 : (¬ (s0 ≤ s1)) → (¬ (x4 = x1)) → px_T 0 54 0 [some (.ref 4), some (.int x4)] [] M (fun r M1 => px_T 0 165 43 [some (.ref 0), some (.int x1), some (.int x2), some (.int x3), some (.int x4)] (r.toList ++ [.ref 47]) M1 Q)) : px_T 0 165 21 [some (.ref 0), some (.int x1), some (.int x2), some (.int x3), some (.int x4)] [.int s0, .int s1] M Q := by
  by_cases c1 : s0 ≤ s1
  · exact ⟨3, ⟨fun _ => ⟨trivial, h1 c1⟩, fun q => absurd c1 q⟩⟩
  · by_cases c2 : x4 = x1
    · obtain ⟨n, h⟩ := h2 c1 c2
      exact ⟨n + 6, ⟨fun q => absurd q c1, fun _ => ⟨fun _ => h, fun q => absurd c2 q⟩⟩⟩
    · obtain ⟨n, h⟩ := px_T_cl (k := 165) (pc := 40) (y := 54) (st := [.int x4, .ref 4, .ref 47]) rfl (h3 c1 c2)
      exact ⟨n + 10, ⟨fun q => absurd q c1, fun _ => ⟨fun q => absurd q c2, fun _ => ⟨rfl, ⟨rfl, ⟨rfl, h⟩⟩⟩⟩⟩⟩
theorem sg_165_43 {x1 : Int32} {x2 : Int32} {x3 : Int32} {x4 : Int32} {s0 : Int32} {M : px_Mem} {Q : px_Po} (h1 : px_T 0 73 0 [some (.ref 47), some (.int s0), some (.int x2), none, none, none, none] [] M (fun r M1 => px_T 0 165 47 [some (.ref 0), some (.int x1), some (.int x2), some (.int x3), some (.int x4)] (r.toList ++ []) M1 Q)) : px_T 0 165 43 [some (.ref 0), some (.int x1), some (.int x2), some (.int x3), some (.int x4)] [.int s0, .ref 47] M Q := by
  obtain ⟨n, h⟩ := px_T_cl (k := 165) (pc := 44) (y := 73) (st := [.int x2, .int s0, .ref 47]) rfl (h1)
  exact ⟨n + 2, ⟨rfl, h⟩⟩
theorem sg_165_47 {x1 : Int32} {x2 : Int32} {x3 : Int32} {x4 : Int32} {s0 : Int32} {M : px_Mem} {Q : px_Po} (h1 : (s0 = 0) → px_T 0 165 12 [some (.ref 0), some (.int x1), some (.int x2), some (.int x3), some (.int (x4 + 1))] [] M Q) (h2 : (¬ (s0 = 0)) → px_T 0 165 12 [some (.ref 0), some (.int x1), some (.int x2), some (.int (x3 + 1)), some (.int (x4 + 1))] [] M Q) : px_T 0 165 47 [some (.ref 0), some (.int x1), some (.int x2), some (.int x3), some (.int x4)] [.int s0] M Q := by
  by_cases c1 : s0 = 0
  · obtain ⟨n, h⟩ := h1 c1
    exact ⟨n + 3, ⟨fun _ => h, fun q => absurd c1 q⟩⟩
  · obtain ⟨n, h⟩ := h2 c1
    exact ⟨n + 4, ⟨fun q => absurd q c1, fun _ => h⟩⟩
theorem sg_166_0 {x1 : Int32} {M : px_Mem} {Q : px_Po} (h1 : px_T 0 165 0 [some (.ref 0), some (.int (-1)), some (.int x1), none, none] [] M (fun r M1 => px_T 0 166 6 [some (.ref 0), some (.int x1)] (r.toList ++ []) M1 Q)) : px_T 0 166 0 [some (.ref 0), some (.int x1)] [] M Q := by
  obtain ⟨n, h⟩ := px_T_cl (k := 166) (pc := 3) (y := 165) (st := [.int x1, .int (-1), .ref 0]) rfl (h1)
  exact ⟨n + 4, ⟨rfl, h⟩⟩
theorem sg_166_6 {d1 : Option Value} {s0 : Int32} {M : px_Mem} {Q : px_Po} (h1 : px_T 0 16 0 [some (.ref 44), some (.ref 47), none] [] M (fun r M1 => px_T 0 166 18 [some (.ref 0), d1] (r.toList ++ []) M1 Q)) : px_T 0 166 6 [some (.ref 0), d1] [.int s0] M Q := by
  obtain ⟨n, h⟩ := px_T_cl (k := 166) (pc := 15) (y := 16) (st := [.ref 47, .ref 44]) rfl (h1)
  exact ⟨n + 6, ⟨rfl, ⟨rfl, ⟨rfl, h⟩⟩⟩⟩
theorem sg_166_18 {d1 : Option Value} {M : px_Mem} {Q : px_Po} (h1 : px_T 0 332 0 [some (.int (M.1 44 3))] [] M (fun r M1 => px_T 0 166 28 [some (.ref 0), d1] (r.toList ++ []) M1 Q)) : px_T 0 166 18 [some (.ref 0), d1] [] M Q := by
  obtain ⟨n, h⟩ := px_T_cl (k := 166) (pc := 25) (y := 332) (st := [.int (M.1 44 3)]) rfl (h1)
  exact ⟨n + 4, ⟨rfl, ⟨rfl, h⟩⟩⟩
theorem sg_166_28 {d0 : Option Value} {d1 : Option Value} {s0 : Int32} {M : px_Mem} {Q : px_Po} (h1 : Q (some (.int s0)) M) : px_T 0 166 28 [d0, d1] [.int s0] M Q := by
  exact ⟨1, ⟨trivial, h1⟩⟩
theorem sg_167_0 {x1 : Int32} {M : px_Mem} {Q : px_Po} (h1 : px_T 0 156 0 [some (.int x1)] [] M (fun r M1 => px_T 0 167 4 [some (.ref 0), some (.int x1)] (r.toList ++ []) M1 Q)) : px_T 0 167 0 [some (.ref 0), some (.int x1)] [] M Q := by
  obtain ⟨n, h⟩ := px_T_cl (k := 167) (pc := 1) (y := 156) (st := [.int x1]) rfl (h1)
  exact ⟨n + 2, h⟩
theorem sg_167_4 {x1 : Int32} {s0 : Int32} {M : px_Mem} {Q : px_Po} (h1 : (s0 = 0) → px_T 0 151 0 [some (.ref 0)] [] M (fun r M1 => px_T 0 167 11 [some (.ref 0), some (.int x1)] (r.toList ++ []) M1 Q)) (h2 : (¬ (s0 = 0)) → Q (some (.int (-2))) M) : px_T 0 167 4 [some (.ref 0), some (.int x1)] [.int s0] M Q := by
  by_cases c1 : s0 = 0
  · obtain ⟨n, h⟩ := px_T_cl (k := 167) (pc := 8) (y := 151) (st := [.ref 0]) rfl (h1 c1)
    exact ⟨n + 3, ⟨fun q => absurd c1 q, fun _ => ⟨rfl, h⟩⟩⟩
  · exact ⟨3, ⟨fun _ => ⟨trivial, h2 c1⟩, fun q => absurd q c1⟩⟩
theorem sg_167_11 {x1 : Int32} {s0 : Int32} {M : px_Mem} {Q : px_Po} (h1 : (s0 = 0) → vp_in x1 4) (h2 : (s0 = 0) → px_sh 0 (px_rf 15 x1.toNatClampNeg) = some (.inl 4)) (h3 : (s0 = 0) → ((M.1 (px_rf 15 x1.toNatClampNeg) 1) = 0) → Q (some (.int (-6))) M) (h4 : (s0 = 0) → (¬ ((M.1 (px_rf 15 x1.toNatClampNeg) 1) = 0)) → px_T 0 53 0 [some (.ref 4)] [] M (fun r M1 => px_T 0 167 49 [some (.ref 0), some (.int x1)] (r.toList ++ [.ref (px_rf 15 x1.toNatClampNeg), .ref 24]) M1 Q)) (h5 : (¬ (s0 = 0)) → Q (some (.int (-2))) M) : px_T 0 167 11 [some (.ref 0), some (.int x1)] [.int s0] M Q := by
  by_cases c1 : s0 = 0
  · by_cases c2 : (M.1 (px_rf 15 x1.toNatClampNeg) 1) = 0
    · exact ⟨9, ⟨fun _ => ⟨rfl, ⟨⟨5, 4, Or.inr (Or.inl rfl), rfl, (h1 c1)⟩, ⟨(h2 c1), ⟨fun q => absurd c2 q, fun _ => ⟨trivial, h3 c1 c2⟩⟩⟩⟩⟩, fun q => absurd c1 q⟩⟩
    · obtain ⟨n, h⟩ := px_T_cl (k := 167) (pc := 46) (y := 53) (st := [.ref 4, .ref (px_rf 15 x1.toNatClampNeg), .ref 24]) rfl (h4 c1 c2)
      exact ⟨n + 16, ⟨fun _ => ⟨rfl, ⟨⟨5, 4, Or.inr (Or.inl rfl), rfl, (h1 c1)⟩, ⟨(h2 c1), ⟨fun _ => ⟨rfl, ⟨rfl, ⟨⟨5, 4, Or.inr (Or.inl rfl), rfl, (h1 c1)⟩, ⟨rfl, ⟨rfl, h⟩⟩⟩⟩⟩, fun q => absurd q c2⟩⟩⟩⟩, fun q => absurd c1 q⟩⟩
  · exact ⟨3, ⟨fun q => absurd q c1, fun _ => ⟨trivial, h5 c1⟩⟩⟩
theorem sg_167_49 {d0 : Option Value} {d1 : Option Value} {s0 : Int32} {s1 : Nat} {M : px_Mem} {Q : px_Po} (h_s1 : px_isR s1) (h1 : px_T 0 40 0 [some (.ref 24), some (.ref s1), some (.int s0), none, none, none, none, none, none, none] [] M (fun r M1 => px_T 0 167 52 [d0, d1] (r.toList ++ []) M1 Q)) : px_T 0 167 49 [d0, d1] [.int s0, .ref s1, .ref 24] M Q := by
  rcases h_s1 with rfl | rfl | rfl | rfl
  · obtain ⟨n, h⟩ := px_T_cl (k := 167) (pc := 49) (y := 40) (st := [.int s0, .ref 16, .ref 24]) rfl (h1)
    exact ⟨n + 1, ⟨rfl, h⟩⟩
  · obtain ⟨n, h⟩ := px_T_cl (k := 167) (pc := 49) (y := 40) (st := [.int s0, .ref 18, .ref 24]) rfl (h1)
    exact ⟨n + 1, ⟨rfl, h⟩⟩
  · obtain ⟨n, h⟩ := px_T_cl (k := 167) (pc := 49) (y := 40) (st := [.int s0, .ref 20, .ref 24]) rfl (h1)
    exact ⟨n + 1, ⟨rfl, h⟩⟩
  · obtain ⟨n, h⟩ := px_T_cl (k := 167) (pc := 49) (y := 40) (st := [.int s0, .ref 22, .ref 24]) rfl (h1)
    exact ⟨n + 1, ⟨rfl, h⟩⟩
theorem sg_167_52 {d0 : Option Value} {d1 : Option Value} {s0 : Int32} {M : px_Mem} {Q : px_Po} (h1 : (s0 = 0) → Q (some (.int (-2))) M) (h2 : (¬ (s0 = 0)) → Q (some (.int 0)) M) : px_T 0 167 52 [d0, d1] [.int s0] M Q := by
  by_cases c1 : s0 = 0
  · exact ⟨3, ⟨fun _ => ⟨trivial, h1 c1⟩, fun q => absurd c1 q⟩⟩
  · exact ⟨4, ⟨fun q => absurd q c1, fun _ => ⟨trivial, h2 c1⟩⟩⟩
theorem sg_168_0 {x1 : Int32} {x2 : Int32} {M : px_Mem} {Q : px_Po} (h1 : px_T 0 60 0 [some (.ref 47)] [] M (fun r M1 => px_T 0 168 7 [some (.ref 0), some (.int x1), some (.int x2), none, none] (r.toList ++ []) M1 Q)) : px_T 0 168 0 [some (.ref 0), some (.int x1), some (.int x2), none, none] [] M Q := by
  obtain ⟨n, h⟩ := px_T_cl (k := 168) (pc := 4) (y := 60) (st := [.ref 47]) rfl (h1)
  exact ⟨n + 3, ⟨rfl, ⟨rfl, h⟩⟩⟩
theorem sg_168_7 {x1 : Int32} {x2 : Int32} {d3 : Option Value} {d4 : Option Value} {M : px_Mem} {Q : px_Po} (h1 : px_T 0 42 0 [some (.ref 24), some (.int 0), some (.int 0), some (.ref 47), none] [] M (fun r M1 => px_T 0 168 20 [some (.ref 0), some (.int x1), some (.int x2), d3, d4] (r.toList ++ []) M1 Q)) : px_T 0 168 7 [some (.ref 0), some (.int x1), some (.int x2), d3, d4] [] M Q := by
  obtain ⟨n, h⟩ := px_T_cl (k := 168) (pc := 17) (y := 42) (st := [.ref 47, .int 0, .int 0, .ref 24]) rfl (h1)
  exact ⟨n + 7, ⟨rfl, ⟨rfl, ⟨rfl, h⟩⟩⟩⟩
theorem sg_168_20 {x1 : Int32} {x2 : Int32} {d3 : Option Value} {d4 : Option Value} {s0 : Int32} {M : px_Mem} {Q : px_Po} (h1 : px_T 0 168 24 [some (.ref 0), some (.int x1), some (.int x2), some (.int s0), some (.int 0)] [] M Q) : px_T 0 168 20 [some (.ref 0), some (.int x1), some (.int x2), d3, d4] [.int s0] M Q := by
  obtain ⟨n, h⟩ := h1
  exact ⟨n + 3, h⟩
theorem sg_168_24 {x1 : Int32} {x2 : Int32} {x3 : Int32} {x4 : Int32} {M : px_Mem} {Q : px_Po} (h1 : px_T 0 53 0 [some (.ref 4)] [] M (fun r M1 => px_T 0 168 33 [some (.ref 0), some (.int x1), some (.int x2), some (.int x3), some (.int x4)] (r.toList ++ [.int x4]) M1 Q)) : px_T 0 168 24 [some (.ref 0), some (.int x1), some (.int x2), some (.int x3), some (.int x4)] [] M Q := by
  obtain ⟨n, h⟩ := px_T_cl (k := 168) (pc := 30) (y := 53) (st := [.ref 4, .int x4]) rfl (h1)
  exact ⟨n + 4, ⟨rfl, ⟨rfl, h⟩⟩⟩
theorem sg_168_33 {x1 : Int32} {x2 : Int32} {x3 : Int32} {x4 : Int32} {s0 : Int32} {s1 : Int32} {M : px_Mem} {Q : px_Po} (h1 : (s0 ≤ s1) → (x3 < 0) → Q (some (.int 0)) M) (h2 : (s0 ≤ s1) → (¬ (x3 < 0)) → Q (some (.int 1)) M) (h3 : (¬ (s0 ≤ s1)) → (x3 < 0) → (x3 < 0) → Q (some (.int 0)) M) (h4 : (¬ (s0 ≤ s1)) → (x3 < 0) → (¬ (x3 < 0)) → Q (some (.int 1)) M) (h5 : (¬ (s0 ≤ s1)) → (¬ (x3 < 0)) → ((M.1 24 3) ≤ x3) → (x3 < 0) → Q (some (.int 0)) M) (h6 : (¬ (s0 ≤ s1)) → (¬ (x3 < 0)) → ((M.1 24 3) ≤ x3) → (¬ (x3 < 0)) → Q (some (.int 1)) M) (h7 : (¬ (s0 ≤ s1)) → (¬ (x3 < 0)) → (¬ ((M.1 24 3) ≤ x3)) → (x4 = x1) → px_T 0 42 0 [some (.ref 24), some (.int x3), some (.int (x4 + 1)), some (.ref 47), none] [] M (fun r M1 => px_T 0 168 91 [some (.ref 0), some (.int x1), some (.int x2), some (.int x3), some (.int x4)] (r.toList ++ []) M1 Q)) (h8 : (¬ (s0 ≤ s1)) → (¬ (x3 < 0)) → (¬ ((M.1 24 3) ≤ x3)) → (¬ (x4 = x1)) → px_T 0 54 0 [some (.ref 4), some (.int x4)] [] M (fun r M1 => px_T 0 168 70 [some (.ref 0), some (.int x1), some (.int x2), some (.int x3), some (.int x4)] (r.toList ++ [.ref 47]) M1 Q)) : px_T 0 168 33 [some (.ref 0), some (.int x1), some (.int x2), some (.int x3), some (.int x4)] [.int s0, .int s1] M Q := by
  by_cases c1 : s0 ≤ s1
  · by_cases c2 : x3 < 0
    · exact ⟨5, ⟨fun _ => ⟨fun _ => ⟨Or.inl rfl, h1 c1 c2⟩, fun q => absurd c2 q⟩, fun q => absurd c1 q⟩⟩
    · exact ⟨6, ⟨fun _ => ⟨fun q => absurd q c2, fun _ => ⟨Or.inr rfl, h2 c1 c2⟩⟩, fun q => absurd c1 q⟩⟩
  · by_cases c3 : x3 < 0
    · by_cases c4 : x3 < 0
      · exact ⟨7, ⟨fun q => absurd q c1, fun _ => ⟨fun _ => ⟨fun _ => ⟨Or.inl rfl, h3 c1 c3 c4⟩, fun q => absurd c4 q⟩, fun q => absurd c3 q⟩⟩⟩
      · exact ⟨8, ⟨fun q => absurd q c1, fun _ => ⟨fun _ => ⟨fun q => absurd q c4, fun _ => ⟨Or.inr rfl, h4 c1 c3 c4⟩⟩, fun q => absurd c3 q⟩⟩⟩
    · by_cases c5 : (M.1 24 3) ≤ x3
      · by_cases c6 : x3 < 0
        · exact ⟨12, ⟨fun q => absurd q c1, fun _ => ⟨fun q => absurd q c3, fun _ => ⟨rfl, ⟨rfl, ⟨fun _ => ⟨fun _ => ⟨Or.inl rfl, h5 c1 c3 c5 c6⟩, fun q => absurd c6 q⟩, fun q => absurd c5 q⟩⟩⟩⟩⟩⟩
        · exact ⟨13, ⟨fun q => absurd q c1, fun _ => ⟨fun q => absurd q c3, fun _ => ⟨rfl, ⟨rfl, ⟨fun _ => ⟨fun q => absurd q c6, fun _ => ⟨Or.inr rfl, h6 c1 c3 c5 c6⟩⟩, fun q => absurd c5 q⟩⟩⟩⟩⟩⟩
      · by_cases c7 : x4 = x1
        · obtain ⟨n, h⟩ := px_T_cl (k := 168) (pc := 88) (y := 42) (st := [.ref 47, .int (x4 + 1), .int x3, .ref 24]) rfl (h7 c1 c3 c5 c7)
          exact ⟨n + 20, ⟨fun q => absurd q c1, fun _ => ⟨fun q => absurd q c3, fun _ => ⟨rfl, ⟨rfl, ⟨fun q => absurd q c5, fun _ => ⟨fun _ => ⟨rfl, ⟨rfl, ⟨rfl, h⟩⟩⟩, fun q => absurd c7 q⟩⟩⟩⟩⟩⟩⟩
        · obtain ⟨n, h⟩ := px_T_cl (k := 168) (pc := 67) (y := 54) (st := [.int x4, .ref 4, .ref 47]) rfl (h8 c1 c3 c5 c7)
          exact ⟨n + 17, ⟨fun q => absurd q c1, fun _ => ⟨fun q => absurd q c3, fun _ => ⟨rfl, ⟨rfl, ⟨fun q => absurd q c5, fun _ => ⟨fun q => absurd q c7, fun _ => ⟨rfl, ⟨rfl, ⟨rfl, h⟩⟩⟩⟩⟩⟩⟩⟩⟩⟩
theorem sg_168_91 {x1 : Int32} {x2 : Int32} {d3 : Option Value} {x4 : Int32} {s0 : Int32} {M : px_Mem} {Q : px_Po} (h1 : px_T 0 168 24 [some (.ref 0), some (.int x1), some (.int x2), some (.int s0), some (.int (x4 + 1))] [] M Q) : px_T 0 168 91 [some (.ref 0), some (.int x1), some (.int x2), d3, some (.int x4)] [.int s0] M Q := by
  obtain ⟨n, h⟩ := h1
  exact ⟨n + 3, h⟩
theorem sg_168_70 {x1 : Int32} {x2 : Int32} {x3 : Int32} {x4 : Int32} {s0 : Int32} {M : px_Mem} {Q : px_Po} (h1 : px_T 0 73 0 [some (.ref 47), some (.int s0), some (.int x2), none, none, none, none] [] M (fun r M1 => px_T 0 168 74 [some (.ref 0), some (.int x1), some (.int x2), some (.int x3), some (.int x4)] (r.toList ++ []) M1 Q)) : px_T 0 168 70 [some (.ref 0), some (.int x1), some (.int x2), some (.int x3), some (.int x4)] [.int s0, .ref 47] M Q := by
  obtain ⟨n, h⟩ := px_T_cl (k := 168) (pc := 71) (y := 73) (st := [.int x2, .int s0, .ref 47]) rfl (h1)
  exact ⟨n + 2, ⟨rfl, h⟩⟩
theorem sg_168_74 {x1 : Int32} {x2 : Int32} {x3 : Int32} {x4 : Int32} {s0 : Int32} {M : px_Mem} {Q : px_Po} (h1 : px_T 0 42 0 [some (.ref 24), some (.int x3), some (.int (x4 + 1)), some (.ref 47), none] [] M (fun r M1 => px_T 0 168 91 [some (.ref 0), some (.int x1), some (.int x2), some (.int x3), some (.int x4)] (r.toList ++ []) M1 Q)) : px_T 0 168 74 [some (.ref 0), some (.int x1), some (.int x2), some (.int x3), some (.int x4)] [.int s0] M Q := by
  obtain ⟨n, h⟩ := px_T_cl (k := 168) (pc := 88) (y := 42) (st := [.ref 47, .int (x4 + 1), .int x3, .ref 24]) rfl (h1)
  exact ⟨n + 10, ⟨rfl, ⟨rfl, ⟨rfl, h⟩⟩⟩⟩
theorem sg_169_0 {x1 : Int32} {M : px_Mem} {Q : px_Po} (h1 : px_T 0 60 0 [some (.ref 47)] [] M (fun r M1 => px_T 0 169 7 [some (.ref 0), some (.int x1), none, none, none] (r.toList ++ []) M1 Q)) : px_T 0 169 0 [some (.ref 0), some (.int x1), none, none, none] [] M Q := by
  obtain ⟨n, h⟩ := px_T_cl (k := 169) (pc := 4) (y := 60) (st := [.ref 47]) rfl (h1)
  exact ⟨n + 3, ⟨rfl, ⟨rfl, h⟩⟩⟩
theorem sg_169_7 {x1 : Int32} {d2 : Option Value} {d3 : Option Value} {d4 : Option Value} {M : px_Mem} {Q : px_Po} (h1 : px_T 0 169 13 [some (.ref 0), some (.int x1), some (.int (x1 ||| 1)), some (.int 0), d4] [] M Q) : px_T 0 169 7 [some (.ref 0), some (.int x1), d2, d3, d4] [] M Q := by
  obtain ⟨n, h⟩ := h1
  exact ⟨n + 6, h⟩
theorem sg_169_13 {d1 : Option Value} {x2 : Int32} {x3 : Int32} {d4 : Option Value} {M : px_Mem} {Q : px_Po} (h1 : px_T 0 53 0 [some (.ref 4)] [] M (fun r M1 => px_T 0 169 21 [some (.ref 0), d1, some (.int x2), some (.int x3), d4] (r.toList ++ [.int x3]) M1 Q)) : px_T 0 169 13 [some (.ref 0), d1, some (.int x2), some (.int x3), d4] [] M Q := by
  obtain ⟨n, h⟩ := px_T_cl (k := 169) (pc := 18) (y := 53) (st := [.ref 4, .int x3]) rfl (h1)
  exact ⟨n + 4, ⟨rfl, ⟨rfl, h⟩⟩⟩
theorem sg_169_21 {d1 : Option Value} {x2 : Int32} {x3 : Int32} {d4 : Option Value} {s0 : Int32} {s1 : Int32} {M : px_Mem} {Q : px_Po} (h1 : (s0 ≤ s1) → px_T 0 332 0 [some (.int (M.1 47 0))] [] M (fun r M1 => px_T 0 169 81 [some (.ref 0), d1, some (.int x2), some (.int x3), d4] (r.toList ++ []) M1 Q)) (h2 : (¬ (s0 ≤ s1)) → px_T 0 54 0 [some (.ref 4), some (.int x3)] [] M (fun r M1 => px_T 0 169 32 [some (.ref 0), d1, some (.int x2), some (.int x3), d4] (r.toList ++ []) M1 Q)) : px_T 0 169 21 [some (.ref 0), d1, some (.int x2), some (.int x3), d4] [.int s0, .int s1] M Q := by
  by_cases c1 : s0 ≤ s1
  · obtain ⟨n, h⟩ := px_T_cl (k := 169) (pc := 78) (y := 332) (st := [.int (M.1 47 0)]) rfl (h1 c1)
    exact ⟨n + 5, ⟨fun _ => ⟨rfl, ⟨rfl, h⟩⟩, fun q => absurd c1 q⟩⟩
  · obtain ⟨n, h⟩ := px_T_cl (k := 169) (pc := 29) (y := 54) (st := [.int x3, .ref 4]) rfl (h2 c1)
    exact ⟨n + 5, ⟨fun q => absurd q c1, fun _ => ⟨rfl, ⟨rfl, h⟩⟩⟩⟩
