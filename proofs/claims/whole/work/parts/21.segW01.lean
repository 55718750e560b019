theorem sg_74_34 {x0 : Nat} {x1 : Int32} {x2 : Int32} {d3 : Option Value} {s0 : Int32} {s1 : Int32} {s2 : Nat} {M : px_Mem} {Q : px_Po} (h_x0 : px_isW x0) (h_s2 : px_isW s2) (h1 : px_T 0 161 0 [some (.int x2)] [] (px_wI M s2 0 (s1 ||| s0)) (fun r M1 => px_T 0 74 47 [some (.ref x0), some (.int x1), some (.int x2), d3] (r.toList ++ [.int ((px_wI M s2 0 (s1 ||| s0)).1 x0 2), .ref x0]) M1 Q)) : px_T 0 74 34 [some (.ref x0), some (.int x1), some (.int x2), d3] [.int s0, .int s1, .ref s2] M Q := by
  rcases h_x0 with rfl | rfl
  · rcases h_s2 with rfl | rfl
    · obtain ⟨n, h⟩ := px_T_cl (k := 74) (pc := 44) (y := 161) (st := [.int x2, .int ((px_wI M 29 0 (s1 ||| s0)).1 29 2), .ref 29]) rfl (h1)
      exact ⟨n + 7, ⟨rfl, ⟨rfl, ⟨rfl, h⟩⟩⟩⟩
    · obtain ⟨n, h⟩ := px_T_cl (k := 74) (pc := 44) (y := 161) (st := [.int x2, .int ((px_wI M 47 0 (s1 ||| s0)).1 29 2), .ref 29]) rfl (h1)
      exact ⟨n + 7, ⟨rfl, ⟨rfl, ⟨rfl, h⟩⟩⟩⟩
  · rcases h_s2 with rfl | rfl
    · obtain ⟨n, h⟩ := px_T_cl (k := 74) (pc := 44) (y := 161) (st := [.int x2, .int ((px_wI M 29 0 (s1 ||| s0)).1 47 2), .ref 47]) rfl (h1)
      exact ⟨n + 7, ⟨rfl, ⟨rfl, ⟨rfl, h⟩⟩⟩⟩
    · obtain ⟨n, h⟩ := px_T_cl (k := 74) (pc := 44) (y := 161) (st := [.int x2, .int ((px_wI M 47 0 (s1 ||| s0)).1 47 2), .ref 47]) rfl (h1)
      exact ⟨n + 7, ⟨rfl, ⟨rfl, ⟨rfl, h⟩⟩⟩⟩
theorem sg_74_47 {x0 : Nat} {x1 : Int32} {x2 : Int32} {d3 : Option Value} {s0 : Int32} {s1 : Int32} {s2 : Nat} {M : px_Mem} {Q : px_Po} (h_x0 : px_isW x0) (h_s2 : px_isW s2) (h1 : vp_in x2 16) (h2 : vp_in x1 16) (h3 : px_T 0 74 81 [some (.ref x0), some (.int x1), some (.int x2), some (.int 0)] [] (px_wI (px_wI (px_wI (px_wI M s2 2 (s1 ||| s0)) (x0 + 1) x2.toNatClampNeg x1) (x0 + 2) x2.toNatClampNeg (M.1 (x0 + 2) x1.toNatClampNeg)) (x0 + 3) x2.toNatClampNeg 255) Q) : px_T 0 74 47 [some (.ref x0), some (.int x1), some (.int x2), d3] [.int s0, .int s1, .ref s2] M Q := by
  rcases h_x0 with rfl | rfl
  · rcases h_s2 with rfl | rfl
    · obtain ⟨n, h⟩ := h3
      exact ⟨n + 22, ⟨rfl, ⟨rfl, ⟨⟨16, rfl, h1⟩, ⟨rfl, ⟨rfl, ⟨Or.inl ⟨0, 16, Or.inl rfl, rfl, h2⟩, ⟨⟨16, rfl, h1⟩, ⟨rfl, ⟨⟨16, rfl, h1⟩, h⟩⟩⟩⟩⟩⟩⟩⟩⟩⟩
    · obtain ⟨n, h⟩ := h3
      exact ⟨n + 22, ⟨rfl, ⟨rfl, ⟨⟨16, rfl, h1⟩, ⟨rfl, ⟨rfl, ⟨Or.inl ⟨0, 16, Or.inl rfl, rfl, h2⟩, ⟨⟨16, rfl, h1⟩, ⟨rfl, ⟨⟨16, rfl, h1⟩, h⟩⟩⟩⟩⟩⟩⟩⟩⟩⟩
  · rcases h_s2 with rfl | rfl
    · obtain ⟨n, h⟩ := h3
      exact ⟨n + 22, ⟨rfl, ⟨rfl, ⟨⟨16, rfl, h1⟩, ⟨rfl, ⟨rfl, ⟨Or.inl ⟨0, 16, Or.inl rfl, rfl, h2⟩, ⟨⟨16, rfl, h1⟩, ⟨rfl, ⟨⟨16, rfl, h1⟩, h⟩⟩⟩⟩⟩⟩⟩⟩⟩⟩
    · obtain ⟨n, h⟩ := h3
      exact ⟨n + 22, ⟨rfl, ⟨rfl, ⟨⟨16, rfl, h1⟩, ⟨rfl, ⟨rfl, ⟨Or.inl ⟨0, 16, Or.inl rfl, rfl, h2⟩, ⟨⟨16, rfl, h1⟩, ⟨rfl, ⟨⟨16, rfl, h1⟩, h⟩⟩⟩⟩⟩⟩⟩⟩⟩⟩
theorem sg_74_81 {x0 : Nat} {x1 : Int32} {x2 : Int32} {x3 : Int32} {M : px_Mem} {Q : px_Po} (h_x0 : px_isW x0) (h1 : ((8 : Int32) ≤ x3) → Q (some (.int 0)) M) (h2 : (¬ ((8 : Int32) ≤ x3)) → px_T 0 68 0 [some (.ref x0), some (.int x1), some (.int x3), none] [] M (fun r M1 => px_T 0 74 96 [some (.ref x0), some (.int x1), some (.int x2), some (.int x3)] (r.toList ++ [.int x3, .int x2, .ref x0]) M1 Q)) : px_T 0 74 81 [some (.ref x0), some (.int x1), some (.int x2), some (.int x3)] [] M Q := by
  rcases h_x0 with rfl | rfl
  · by_cases c1 : (8 : Int32) ≤ x3
    · exact ⟨5, ⟨fun _ => ⟨trivial, h1 c1⟩, fun q => absurd c1 q⟩⟩
    · obtain ⟨n, h⟩ := px_T_cl (k := 74) (pc := 93) (y := 68) (st := [.int x3, .int x1, .ref 29, .int x3, .int x2, .ref 29]) rfl (h2 c1)
      exact ⟨n + 10, ⟨fun q => absurd q c1, fun _ => ⟨rfl, h⟩⟩⟩
  · by_cases c1 : (8 : Int32) ≤ x3
    · exact ⟨5, ⟨fun _ => ⟨trivial, h1 c1⟩, fun q => absurd c1 q⟩⟩
    · obtain ⟨n, h⟩ := px_T_cl (k := 74) (pc := 93) (y := 68) (st := [.int x3, .int x1, .ref 47, .int x3, .int x2, .ref 47]) rfl (h2 c1)
      exact ⟨n + 10, ⟨fun q => absurd q c1, fun _ => ⟨rfl, h⟩⟩⟩
theorem sg_74_96 {x0 : Nat} {x1 : Int32} {x2 : Int32} {x3 : Int32} {s0 : Int32} {s1 : Int32} {s2 : Int32} {s3 : Nat} {M : px_Mem} {Q : px_Po} (h_x0 : px_isW x0) (h_s3 : px_isW s3) (h1 : px_T 0 85 0 [some (.ref s3), some (.int s2), some (.int s1), some (.int s0), none] [] M (fun r M1 => px_T 0 74 99 [some (.ref x0), some (.int x1), some (.int x2), some (.int x3)] (r.toList ++ []) M1 Q)) : px_T 0 74 96 [some (.ref x0), some (.int x1), some (.int x2), some (.int x3)] [.int s0, .int s1, .int s2, .ref s3] M Q := by
  rcases h_x0 with rfl | rfl
  · rcases h_s3 with rfl | rfl
    · obtain ⟨n, h⟩ := px_T_cl (k := 74) (pc := 96) (y := 85) (st := [.int s0, .int s1, .int s2, .ref 29]) rfl (h1)
      exact ⟨n + 1, ⟨rfl, h⟩⟩
    · obtain ⟨n, h⟩ := px_T_cl (k := 74) (pc := 96) (y := 85) (st := [.int s0, .int s1, .int s2, .ref 47]) rfl (h1)
      exact ⟨n + 1, ⟨rfl, h⟩⟩
  · rcases h_s3 with rfl | rfl
    · obtain ⟨n, h⟩ := px_T_cl (k := 74) (pc := 96) (y := 85) (st := [.int s0, .int s1, .int s2, .ref 29]) rfl (h1)
      exact ⟨n + 1, ⟨rfl, h⟩⟩
    · obtain ⟨n, h⟩ := px_T_cl (k := 74) (pc := 96) (y := 85) (st := [.int s0, .int s1, .int s2, .ref 47]) rfl (h1)
      exact ⟨n + 1, ⟨rfl, h⟩⟩
theorem sg_74_99 {x0 : Nat} {x1 : Int32} {x2 : Int32} {x3 : Int32} {M : px_Mem} {Q : px_Po} (h_x0 : px_isW x0) (h1 : px_T 0 74 81 [some (.ref x0), some (.int x1), some (.int x2), some (.int (x3 + 1))] [] M Q) : px_T 0 74 99 [some (.ref x0), some (.int x1), some (.int x2), some (.int x3)] [] M Q := by
  rcases h_x0 with rfl | rfl
  · obtain ⟨n, h⟩ := h1
    exact ⟨n + 2, h⟩
  · obtain ⟨n, h⟩ := h1
    exact ⟨n + 2, h⟩
theorem sg_75_0 {x0 : Nat} {x1 : Int32} {M : px_Mem} {Q : px_Po} (h_x0 : px_isW x0) (h1 : vp_in x1 16) (h2 : ((M.1 (x0 + 2) x1.toNatClampNeg) = x1) → Q (some (.int 2)) M) (h3 : (¬ ((M.1 (x0 + 2) x1.toNatClampNeg) = x1)) → Q (some (.int 0)) (px_wI M (x0 + 2) x1.toNatClampNeg x1)) : px_T 0 75 0 [some (.ref x0), some (.int x1)] [] M Q := by
  rcases h_x0 with rfl | rfl
  · by_cases c1 : (M.1 (29 + 2) x1.toNatClampNeg) = x1
    · exact ⟨8, ⟨rfl, ⟨Or.inl ⟨0, 16, Or.inl rfl, rfl, h1⟩, ⟨fun q => absurd c1 q, fun _ => ⟨trivial, h2 c1⟩⟩⟩⟩⟩
    · exact ⟨13, ⟨rfl, ⟨Or.inl ⟨0, 16, Or.inl rfl, rfl, h1⟩, ⟨fun _ => ⟨rfl, ⟨⟨16, rfl, h1⟩, ⟨trivial, h3 c1⟩⟩⟩, fun q => absurd q c1⟩⟩⟩⟩
  · by_cases c1 : (M.1 (47 + 2) x1.toNatClampNeg) = x1
    · exact ⟨8, ⟨rfl, ⟨Or.inl ⟨0, 16, Or.inl rfl, rfl, h1⟩, ⟨fun q => absurd c1 q, fun _ => ⟨trivial, h2 c1⟩⟩⟩⟩⟩
    · exact ⟨13, ⟨rfl, ⟨Or.inl ⟨0, 16, Or.inl rfl, rfl, h1⟩, ⟨fun _ => ⟨rfl, ⟨⟨16, rfl, h1⟩, ⟨trivial, h3 c1⟩⟩⟩, fun q => absurd q c1⟩⟩⟩⟩
theorem sg_76_0 {x0 : Nat} {x1 : Int32} {x2 : Int32} {M : px_Mem} {Q : px_Po} (h_x0 : px_isW x0) (h1 : (x1 = 1) → Q (some (.int 2)) M) (h2 : (¬ (x1 = 1)) → px_T 0 161 0 [some (.int x1)] [] M (fun r M1 => px_T 0 76 16 [some (.ref x0), some (.int x1), some (.int x2), none, none] (r.toList ++ [.int (M.1 x0 0), .ref x0]) M1 Q)) : px_T 0 76 0 [some (.ref x0), some (.int x1), some (.int x2), none, none] [] M Q := by
  rcases h_x0 with rfl | rfl
  · by_cases c1 : x1 = 1
    · exact ⟨5, ⟨fun q => absurd c1 q, fun _ => ⟨trivial, h1 c1⟩⟩⟩
    · obtain ⟨n, h⟩ := px_T_cl (k := 76) (pc := 13) (y := 161) (st := [.int x1, .int (M.1 29 0), .ref 29]) rfl (h2 c1)
      exact ⟨n + 8, ⟨fun _ => ⟨rfl, ⟨rfl, h⟩⟩, fun q => absurd q c1⟩⟩
  · by_cases c1 : x1 = 1
    · exact ⟨5, ⟨fun q => absurd c1 q, fun _ => ⟨trivial, h1 c1⟩⟩⟩
    · obtain ⟨n, h⟩ := px_T_cl (k := 76) (pc := 13) (y := 161) (st := [.int x1, .int (M.1 47 0), .ref 47]) rfl (h2 c1)
      exact ⟨n + 8, ⟨fun _ => ⟨rfl, ⟨rfl, h⟩⟩, fun q => absurd q c1⟩⟩
theorem sg_76_16 {x0 : Nat} {x1 : Int32} {x2 : Int32} {d3 : Option Value} {d4 : Option Value} {s0 : Int32} {s1 : Int32} {s2 : Nat} {M : px_Mem} {Q : px_Po} (h_x0 : px_isW x0) (h_s2 : px_isW s2) (h1 : px_T 0 76 24 [some (.ref x0), some (.int x1), some (.int x2), some (.int 0), d4] [] (px_wI M s2 0 (s1 &&& (s0 ^^^ (-1)))) Q) : px_T 0 76 16 [some (.ref x0), some (.int x1), some (.int x2), d3, d4] [.int s0, .int s1, .ref s2] M Q := by
  rcases h_x0 with rfl | rfl
  · rcases h_s2 with rfl | rfl
    · obtain ⟨n, h⟩ := h1
      exact ⟨n + 6, ⟨rfl, h⟩⟩
    · obtain ⟨n, h⟩ := h1
      exact ⟨n + 6, ⟨rfl, h⟩⟩
  · rcases h_s2 with rfl | rfl
    · obtain ⟨n, h⟩ := h1
      exact ⟨n + 6, ⟨rfl, h⟩⟩
    · obtain ⟨n, h⟩ := h1
      exact ⟨n + 6, ⟨rfl, h⟩⟩
theorem sg_76_24 {x0 : Nat} {x1 : Int32} {x2 : Int32} {x3 : Int32} {d4 : Option Value} {M : px_Mem} {Q : px_Po} (h_x0 : px_isW x0) (h1 : ((8 : Int32) ≤ x3) → px_T 0 76 48 [some (.ref x0), some (.int x1), some (.int x2), some (.int 0), some (.int 1)] [] M Q) (h2 : (¬ ((8 : Int32) ≤ x3)) → px_T 0 85 0 [some (.ref x0), some (.int x1), some (.int x3), some (.int (-1)), none] [] M (fun r M1 => px_T 0 76 37 [some (.ref x0), some (.int x1), some (.int x2), some (.int x3), d4] (r.toList ++ []) M1 Q)) : px_T 0 76 24 [some (.ref x0), some (.int x1), some (.int x2), some (.int x3), d4] [] M Q := by
  rcases h_x0 with rfl | rfl
  · by_cases c1 : (8 : Int32) ≤ x3
    · obtain ⟨n, h⟩ := h1 c1
      exact ⟨n + 7, ⟨fun _ => h, fun q => absurd c1 q⟩⟩
    · obtain ⟨n, h⟩ := px_T_cl (k := 76) (pc := 34) (y := 85) (st := [.int (-1), .int x3, .int x1, .ref 29]) rfl (h2 c1)
      exact ⟨n + 8, ⟨fun q => absurd q c1, fun _ => ⟨rfl, h⟩⟩⟩
  · by_cases c1 : (8 : Int32) ≤ x3
    · obtain ⟨n, h⟩ := h1 c1
      exact ⟨n + 7, ⟨fun _ => h, fun q => absurd c1 q⟩⟩
    · obtain ⟨n, h⟩ := px_T_cl (k := 76) (pc := 34) (y := 85) (st := [.int (-1), .int x3, .int x1, .ref 47]) rfl (h2 c1)
      exact ⟨n + 8, ⟨fun q => absurd q c1, fun _ => ⟨rfl, h⟩⟩⟩
theorem sg_76_48 {x0 : Nat} {x1 : Int32} {x2 : Int32} {x3 : Int32} {x4 : Int32} {M : px_Mem} {Q : px_Po} (h_x0 : px_isW x0) (h1 : ((15 : Int32) < x4) → Q (some (.int 0)) M) (h2 : (¬ ((15 : Int32) < x4)) → px_T 0 64 0 [some (.ref x0), some (.int x4)] [] M (fun r M1 => px_T 0 76 61 [some (.ref x0), some (.int x1), some (.int x2), some (.int x3), some (.int x4)] (r.toList ++ []) M1 Q)) : px_T 0 76 48 [some (.ref x0), some (.int x1), some (.int x2), some (.int x3), some (.int x4)] [] M Q := by
  rcases h_x0 with rfl | rfl
  · by_cases c1 : (15 : Int32) < x4
    · exact ⟨5, ⟨fun _ => ⟨trivial, h1 c1⟩, fun q => absurd c1 q⟩⟩
    · obtain ⟨n, h⟩ := px_T_cl (k := 76) (pc := 58) (y := 64) (st := [.int x4, .ref 29]) rfl (h2 c1)
      exact ⟨n + 6, ⟨fun q => absurd q c1, fun _ => ⟨rfl, h⟩⟩⟩
  · by_cases c1 : (15 : Int32) < x4
    · exact ⟨5, ⟨fun _ => ⟨trivial, h1 c1⟩, fun q => absurd c1 q⟩⟩
    · obtain ⟨n, h⟩ := px_T_cl (k := 76) (pc := 58) (y := 64) (st := [.int x4, .ref 47]) rfl (h2 c1)
      exact ⟨n + 6, ⟨fun q => absurd q c1, fun _ => ⟨rfl, h⟩⟩⟩
theorem sg_76_37 {x0 : Nat} {x1 : Int32} {x2 : Int32} {x3 : Int32} {d4 : Option Value} {M : px_Mem} {Q : px_Po} (h_x0 : px_isW x0) (h1 : px_T 0 76 24 [some (.ref x0), some (.int x1), some (.int x2), some (.int (x3 + 1)), d4] [] M Q) : px_T 0 76 37 [some (.ref x0), some (.int x1), some (.int x2), some (.int x3), d4] [] M Q := by
  rcases h_x0 with rfl | rfl
  · obtain ⟨n, h⟩ := h1
    exact ⟨n + 2, h⟩
  · obtain ⟨n, h⟩ := h1
    exact ⟨n + 2, h⟩
theorem sg_76_61 {x0 : Nat} {x1 : Int32} {x2 : Int32} {x3 : Int32} {x4 : Int32} {s0 : Int32} {M : px_Mem} {Q : px_Po} (h_x0 : px_isW x0) (h1 : (s0 = x1) → vp_in x1 16) (h2 : (s0 = x1) → px_T 0 77 0 [some (.ref x0), some (.int x4), some (.int (M.1 (x0 + 1) x1.toNatClampNeg)), some (.int x3), some (.int x2), none, none] [] M (fun r M1 => px_T 0 76 85 [some (.ref x0), some (.int x1), some (.int x2), some (.int x3), some (.int x4)] (r.toList ++ [.int x4, .ref (x0 + 1)]) M1 Q)) (h3 : (¬ (s0 = x1)) → px_T 0 76 48 [some (.ref x0), some (.int x1), some (.int x2), some (.int x3), some (.int (x4 + 1))] [] M Q) : px_T 0 76 61 [some (.ref x0), some (.int x1), some (.int x2), some (.int x3), some (.int x4)] [.int s0] M Q := by
  rcases h_x0 with rfl | rfl
  · by_cases c1 : s0 = x1
    · obtain ⟨n, h⟩ := px_T_cl (k := 76) (pc := 82) (y := 77) (st := [.int x2, .int x3, .int (M.1 (29 + 1) x1.toNatClampNeg), .int x4, .ref 29, .int x4, .ref (29 + 1)]) rfl (h2 c1)
      exact ⟨n + 14, ⟨fun q => absurd c1 q, fun _ => ⟨rfl, ⟨rfl, ⟨Or.inl ⟨0, 16, Or.inl rfl, rfl, (h1 c1)⟩, ⟨rfl, h⟩⟩⟩⟩⟩⟩
    · obtain ⟨n, h⟩ := h3 c1
      exact ⟨n + 4, ⟨fun _ => h, fun q => absurd q c1⟩⟩
  · by_cases c1 : s0 = x1
    · obtain ⟨n, h⟩ := px_T_cl (k := 76) (pc := 82) (y := 77) (st := [.int x2, .int x3, .int (M.1 (47 + 1) x1.toNatClampNeg), .int x4, .ref 47, .int x4, .ref (47 + 1)]) rfl (h2 c1)
      exact ⟨n + 14, ⟨fun q => absurd c1 q, fun _ => ⟨rfl, ⟨rfl, ⟨Or.inl ⟨0, 16, Or.inl rfl, rfl, (h1 c1)⟩, ⟨rfl, h⟩⟩⟩⟩⟩⟩
    · obtain ⟨n, h⟩ := h3 c1
      exact ⟨n + 4, ⟨fun _ => h, fun q => absurd q c1⟩⟩
theorem sg_76_85 {x0 : Nat} {x1 : Int32} {x2 : Int32} {x3 : Int32} {x4 : Int32} {s0 : Int32} {s1 : Int32} {s2 : Nat} {M : px_Mem} {Q : px_Po} (h_x0 : px_isW x0) (h1 : px_at 0 0 s2 s1) (h2 : (x3 = 0) → px_T 0 76 48 [some (.ref x0), some (.int x1), some (.int x2), some (.int x4), some (.int (x4 + 1))] [] (px_wI M s2 s1.toNatClampNeg s0) Q) (h3 : (¬ (x3 = 0)) → px_T 0 76 48 [some (.ref x0), some (.int x1), some (.int x2), some (.int x3), some (.int (x4 + 1))] [] (px_wI M s2 s1.toNatClampNeg s0) Q) : px_T 0 76 85 [some (.ref x0), some (.int x1), some (.int x2), some (.int x3), some (.int x4)] [.int s0, .int s1, .ref s2] M Q := by
  rcases h_x0 with rfl | rfl
  · by_cases c1 : x3 = 0
    · obtain ⟨n, h⟩ := h2 c1
      exact ⟨n + 8, ⟨h1, ⟨fun q => absurd c1 q, fun _ => h⟩⟩⟩
    · obtain ⟨n, h⟩ := h3 c1
      exact ⟨n + 7, ⟨h1, ⟨fun _ => h, fun q => absurd q c1⟩⟩⟩
  · by_cases c1 : x3 = 0
    · obtain ⟨n, h⟩ := h2 c1
      exact ⟨n + 8, ⟨h1, ⟨fun q => absurd c1 q, fun _ => h⟩⟩⟩
    · obtain ⟨n, h⟩ := h3 c1
      exact ⟨n + 7, ⟨h1, ⟨fun _ => h, fun q => absurd q c1⟩⟩⟩
theorem sg_77_0 {x0 : Nat} {x1 : Int32} {x2 : Int32} {x3 : Int32} {x4 : Int32} {M : px_Mem} {Q : px_Po} (h_x0 : px_isW x0) (h1 : (x4 = 1) → Q (some (.int x2)) M) (h2 : (¬ (x4 = 1)) → (x4 = 3) → (x3 = 0) → Q (some (.int x2)) M) (h3 : (¬ (x4 = 1)) → (x4 = 3) → (¬ (x3 = 0)) → Q (some (.int x3)) M) (h4 : (¬ (x4 = 1)) → (¬ (x4 = 3)) → (x4 = 2) → vp_in x1 16) (h5 : (¬ (x4 = 1)) → (¬ (x4 = 3)) → (x4 = 2) → px_T 0 63 0 [some (.ref x0), some (.int (M.1 (x0 + 2) x1.toNatClampNeg))] [] M (fun r M1 => px_T 0 77 44 [some (.ref x0), some (.int x1), some (.int x2), some (.int x3), some (.int x4), some (.int (M.1 (x0 + 2) x1.toNatClampNeg)), none] (r.toList ++ []) M1 Q)) (h6 : (¬ (x4 = 1)) → (¬ (x4 = 3)) → (¬ (x4 = 2)) → Q (some (.int 1)) M) : px_T 0 77 0 [some (.ref x0), some (.int x1), some (.int x2), some (.int x3), some (.int x4), none, none] [] M Q := by
  rcases h_x0 with rfl | rfl
  · by_cases c1 : x4 = 1
    · exact ⟨5, ⟨fun q => absurd c1 q, fun _ => ⟨trivial, h1 c1⟩⟩⟩
    · by_cases c2 : x4 = 3
      · by_cases c3 : x3 = 0
        · exact ⟨11, ⟨fun _ => ⟨fun q => absurd c2 q, fun _ => ⟨fun q => absurd c3 q, fun _ => ⟨trivial, h2 c1 c2 c3⟩⟩⟩, fun q => absurd q c1⟩⟩
        · exact ⟨10, ⟨fun _ => ⟨fun q => absurd c2 q, fun _ => ⟨fun _ => ⟨trivial, h3 c1 c2 c3⟩, fun q => absurd q c3⟩⟩, fun q => absurd q c1⟩⟩
      · by_cases c4 : x4 = 2
        · obtain ⟨n, h⟩ := px_T_cl (k := 77) (pc := 41) (y := 63) (st := [.int (M.1 (29 + 2) x1.toNatClampNeg), .ref 29]) rfl (h5 c1 c2 c4)
          exact ⟨n + 17, ⟨fun _ => ⟨fun _ => ⟨fun q => absurd c4 q, fun _ => ⟨rfl, ⟨Or.inl ⟨0, 16, Or.inl rfl, rfl, (h4 c1 c2 c4)⟩, ⟨rfl, h⟩⟩⟩⟩, fun q => absurd q c2⟩, fun q => absurd q c1⟩⟩
        · exact ⟨11, ⟨fun _ => ⟨fun _ => ⟨fun _ => ⟨trivial, h6 c1 c2 c4⟩, fun q => absurd q c4⟩, fun q => absurd q c2⟩, fun q => absurd q c1⟩⟩
  · by_cases c1 : x4 = 1
    · exact ⟨5, ⟨fun q => absurd c1 q, fun _ => ⟨trivial, h1 c1⟩⟩⟩
    · by_cases c2 : x4 = 3
      · by_cases c3 : x3 = 0
        · exact ⟨11, ⟨fun _ => ⟨fun q => absurd c2 q, fun _ => ⟨fun q => absurd c3 q, fun _ => ⟨trivial, h2 c1 c2 c3⟩⟩⟩, fun q => absurd q c1⟩⟩
        · exact ⟨10, ⟨fun _ => ⟨fun q => absurd c2 q, fun _ => ⟨fun _ => ⟨trivial, h3 c1 c2 c3⟩, fun q => absurd q c3⟩⟩, fun q => absurd q c1⟩⟩
      · by_cases c4 : x4 = 2
        · obtain ⟨n, h⟩ := px_T_cl (k := 77) (pc := 41) (y := 63) (st := [.int (M.1 (47 + 2) x1.toNatClampNeg), .ref 47]) rfl (h5 c1 c2 c4)
          exact ⟨n + 17, ⟨fun _ => ⟨fun _ => ⟨fun q => absurd c4 q, fun _ => ⟨rfl, ⟨Or.inl ⟨0, 16, Or.inl rfl, rfl, (h4 c1 c2 c4)⟩, ⟨rfl, h⟩⟩⟩⟩, fun q => absurd q c2⟩, fun q => absurd q c1⟩⟩
        · exact ⟨11, ⟨fun _ => ⟨fun _ => ⟨fun _ => ⟨trivial, h6 c1 c2 c4⟩, fun q => absurd q c4⟩, fun q => absurd q c2⟩, fun q => absurd q c1⟩⟩
theorem sg_77_44 {x0 : Nat} {x1 : Int32} {d2 : Option Value} {d3 : Option Value} {d4 : Option Value} {x5 : Int32} {d6 : Option Value} {s0 : Int32} {M : px_Mem} {Q : px_Po} (h_x0 : px_isW x0) (h1 : (s0 = 0) → Q (some (.int 1)) M) (h2 : (¬ (s0 = 0)) → (x5 = x1) → Q (some (.int 1)) M) (h3 : (¬ (s0 = 0)) → (¬ (x5 = x1)) → px_T 0 66 0 [some (.ref x0), some (.int x5), some (.int x1), none, none] [] M (fun r M1 => px_T 0 77 60 [some (.ref x0), some (.int x1), d2, d3, d4, some (.int x5), d6] (r.toList ++ []) M1 Q)) : px_T 0 77 44 [some (.ref x0), some (.int x1), d2, d3, d4, some (.int x5), d6] [.int s0] M Q := by
  rcases h_x0 with rfl | rfl
  · by_cases c1 : s0 = 0
    · exact ⟨7, ⟨fun _ => ⟨fun _ => ⟨trivial, h1 c1⟩, fun q => absurd (by decide) q⟩, fun q => absurd c1 q⟩⟩
    · by_cases c2 : x5 = x1
      · exact ⟨10, ⟨fun q => absurd q c1, fun _ => ⟨fun _ => ⟨fun _ => ⟨trivial, h2 c1 c2⟩, fun q => absurd (by decide) q⟩, fun q => absurd c2 q⟩⟩⟩
      · obtain ⟨n, h⟩ := px_T_cl (k := 77) (pc := 57) (y := 66) (st := [.int x1, .int x5, .ref 29]) rfl (h3 c1 c2)
        exact ⟨n + 8, ⟨fun q => absurd q c1, fun _ => ⟨fun q => absurd q c2, fun _ => ⟨rfl, h⟩⟩⟩⟩
  · by_cases c1 : s0 = 0
    · exact ⟨7, ⟨fun _ => ⟨fun _ => ⟨trivial, h1 c1⟩, fun q => absurd (by decide) q⟩, fun q => absurd c1 q⟩⟩
    · by_cases c2 : x5 = x1
      · exact ⟨10, ⟨fun q => absurd q c1, fun _ => ⟨fun _ => ⟨fun _ => ⟨trivial, h2 c1 c2⟩, fun q => absurd (by decide) q⟩, fun q => absurd c2 q⟩⟩⟩
      · obtain ⟨n, h⟩ := px_T_cl (k := 77) (pc := 57) (y := 66) (st := [.int x1, .int x5, .ref 47]) rfl (h3 c1 c2)
        exact ⟨n + 8, ⟨fun q => absurd q c1, fun _ => ⟨fun q => absurd q c2, fun _ => ⟨rfl, h⟩⟩⟩⟩
theorem sg_77_60 {d0 : Option Value} {d1 : Option Value} {d2 : Option Value} {d3 : Option Value} {d4 : Option Value} {x5 : Int32} {d6 : Option Value} {s0 : Int32} {M : px_Mem} {Q : px_Po} (h1 : (s0 = 0) → Q (some (.int x5)) M) (h2 : (¬ (s0 = 0)) → Q (some (.int 1)) M) : px_T 0 77 60 [d0, d1, d2, d3, d4, some (.int x5), d6] [.int s0] M Q := by
  by_cases c1 : s0 = 0
  · exact ⟨9, ⟨fun q => absurd c1 q, fun _ => ⟨fun q => absurd q (by decide), fun _ => ⟨trivial, h1 c1⟩⟩⟩⟩
  · exact ⟨7, ⟨fun _ => ⟨fun _ => ⟨trivial, h2 c1⟩, fun q => absurd (by decide) q⟩, fun q => absurd q c1⟩⟩
theorem sg_78_0 {x0 : Nat} {x1 : Int32} {x2 : Int32} {M : px_Mem} {Q : px_Po} (h_x0 : px_isW x0) (h1 : px_T 0 68 0 [some (.ref x0), some (.int x1), some (.int x2), none] [] M (fun r M1 => px_T 0 78 6 [some (.ref x0), some (.int x1), some (.int x2)] (r.toList ++ []) M1 Q)) : px_T 0 78 0 [some (.ref x0), some (.int x1), some (.int x2)] [] M Q := by
  rcases h_x0 with rfl | rfl
  · obtain ⟨n, h⟩ := px_T_cl (k := 78) (pc := 3) (y := 68) (st := [.int x2, .int x1, .ref 29]) rfl (h1)
    exact ⟨n + 4, ⟨rfl, h⟩⟩
  · obtain ⟨n, h⟩ := px_T_cl (k := 78) (pc := 3) (y := 68) (st := [.int x2, .int x1, .ref 47]) rfl (h1)
    exact ⟨n + 4, ⟨rfl, h⟩⟩
theorem sg_78_6 {x0 : Nat} {x1 : Int32} {x2 : Int32} {s0 : Int32} {M : px_Mem} {Q : px_Po} (h_x0 : px_isW x0) (h1 : (s0 < 0) → px_T 0 84 0 [some (.ref x0), some (.int 0)] [] M (fun r M1 => px_T 0 78 19 [some (.ref x0), some (.int x1), some (.int x2)] (r.toList ++ [.int x2, .int x1, .ref x0]) M1 Q)) (h2 : (¬ (s0 < 0)) → Q (some (.int 3)) M) : px_T 0 78 6 [some (.ref x0), some (.int x1), some (.int x2)] [.int s0] M Q := by
  rcases h_x0 with rfl | rfl
  · by_cases c1 : s0 < 0
    · obtain ⟨n, h⟩ := px_T_cl (k := 78) (pc := 16) (y := 84) (st := [.int 0, .ref 29, .int x2, .int x1, .ref 29]) rfl (h1 c1)
      exact ⟨n + 7, ⟨fun _ => ⟨rfl, h⟩, fun q => absurd c1 q⟩⟩
    · exact ⟨3, ⟨fun q => absurd q c1, fun _ => ⟨trivial, h2 c1⟩⟩⟩
  · by_cases c1 : s0 < 0
    · obtain ⟨n, h⟩ := px_T_cl (k := 78) (pc := 16) (y := 84) (st := [.int 0, .ref 47, .int x2, .int x1, .ref 47]) rfl (h1 c1)
      exact ⟨n + 7, ⟨fun _ => ⟨rfl, h⟩, fun q => absurd c1 q⟩⟩
    · exact ⟨3, ⟨fun q => absurd q c1, fun _ => ⟨trivial, h2 c1⟩⟩⟩
theorem sg_78_19 {d0 : Option Value} {d1 : Option Value} {d2 : Option Value} {s0 : Int32} {s1 : Int32} {s2 : Int32} {s3 : Nat} {M : px_Mem} {Q : px_Po} (h_s3 : px_isW s3) (h1 : px_T 0 85 0 [some (.ref s3), some (.int s2), some (.int s1), some (.int s0), none] [] M (fun r M1 => px_T 0 78 22 [d0, d1, d2] (r.toList ++ []) M1 Q)) : px_T 0 78 19 [d0, d1, d2] [.int s0, .int s1, .int s2, .ref s3] M Q := by
  rcases h_s3 with rfl | rfl
  · obtain ⟨n, h⟩ := px_T_cl (k := 78) (pc := 19) (y := 85) (st := [.int s0, .int s1, .int s2, .ref 29]) rfl (h1)
    exact ⟨n + 1, ⟨rfl, h⟩⟩
  · obtain ⟨n, h⟩ := px_T_cl (k := 78) (pc := 19) (y := 85) (st := [.int s0, .int s1, .int s2, .ref 47]) rfl (h1)
    exact ⟨n + 1, ⟨rfl, h⟩⟩
theorem sg_78_22 {d0 : Option Value} {d1 : Option Value} {d2 : Option Value} {M : px_Mem} {Q : px_Po} (h1 : Q (some (.int 0)) M) : px_T 0 78 22 [d0, d1, d2] [] M Q := by
  exact ⟨2, ⟨trivial, h1⟩⟩
theorem sg_79_0 {x0 : Nat} {x1 : Int32} {x2 : Int32} {x3 : Int32} {M : px_Mem} {Q : px_Po} (h_x0 : px_isW x0) (h1 : (x2 = x3) → Q (some (.int 3)) M) (h2 : (¬ (x2 = x3)) → px_T 0 68 0 [some (.ref x0), some (.int x1), some (.int x2), none] [] M (fun r M1 => px_T 0 79 11 [some (.ref x0), some (.int x1), some (.int x2), some (.int x3)] (r.toList ++ []) M1 Q)) : px_T 0 79 0 [some (.ref x0), some (.int x1), some (.int x2), some (.int x3)] [] M Q := by
  rcases h_x0 with rfl | rfl
  · by_cases c1 : x2 = x3
    · exact ⟨5, ⟨fun _ => ⟨trivial, h1 c1⟩, fun q => absurd c1 q⟩⟩
    · obtain ⟨n, h⟩ := px_T_cl (k := 79) (pc := 8) (y := 68) (st := [.int x2, .int x1, .ref 29]) rfl (h2 c1)
      exact ⟨n + 7, ⟨fun q => absurd q c1, fun _ => ⟨rfl, h⟩⟩⟩
  · by_cases c1 : x2 = x3
    · exact ⟨5, ⟨fun _ => ⟨trivial, h1 c1⟩, fun q => absurd c1 q⟩⟩
    · obtain ⟨n, h⟩ := px_T_cl (k := 79) (pc := 8) (y := 68) (st := [.int x2, .int x1, .ref 47]) rfl (h2 c1)
      exact ⟨n + 7, ⟨fun q => absurd q c1, fun _ => ⟨rfl, h⟩⟩⟩
theorem sg_79_11 {x0 : Nat} {x1 : Int32} {x2 : Int32} {x3 : Int32} {s0 : Int32} {M : px_Mem} {Q : px_Po} (h_x0 : px_isW x0) (h1 : ((0 : Int32) ≤ s0) → Q (some (.int 3)) M) (h2 : (¬ ((0 : Int32) ≤ s0)) → px_T 0 68 0 [some (.ref x0), some (.int x1), some (.int x3), none] [] M (fun r M1 => px_T 0 79 20 [some (.ref x0), some (.int x1), some (.int x2), some (.int x3)] (r.toList ++ []) M1 Q)) : px_T 0 79 11 [some (.ref x0), some (.int x1), some (.int x2), some (.int x3)] [.int s0] M Q := by
  rcases h_x0 with rfl | rfl
  · by_cases c1 : (0 : Int32) ≤ s0
    · exact ⟨3, ⟨fun _ => ⟨trivial, h1 c1⟩, fun q => absurd c1 q⟩⟩
    · obtain ⟨n, h⟩ := px_T_cl (k := 79) (pc := 17) (y := 68) (st := [.int x3, .int x1, .ref 29]) rfl (h2 c1)
      exact ⟨n + 5, ⟨fun q => absurd q c1, fun _ => ⟨rfl, h⟩⟩⟩
  · by_cases c1 : (0 : Int32) ≤ s0
    · exact ⟨3, ⟨fun _ => ⟨trivial, h1 c1⟩, fun q => absurd c1 q⟩⟩
    · obtain ⟨n, h⟩ := px_T_cl (k := 79) (pc := 17) (y := 68) (st := [.int x3, .int x1, .ref 47]) rfl (h2 c1)
      exact ⟨n + 5, ⟨fun q => absurd q c1, fun _ => ⟨rfl, h⟩⟩⟩
theorem sg_79_20 {x0 : Nat} {x1 : Int32} {x2 : Int32} {x3 : Int32} {s0 : Int32} {M : px_Mem} {Q : px_Po} (h_x0 : px_isW x0) (h1 : (s0 < 0) → px_T 0 84 0 [some (.ref x0), some (.int 1)] [] M (fun r M1 => px_T 0 79 33 [some (.ref x0), some (.int x1), some (.int x2), some (.int x3)] (r.toList ++ [.int x2, .int x1, .ref x0]) M1 Q)) (h2 : (¬ (s0 < 0)) → Q (some (.int 3)) M) : px_T 0 79 20 [some (.ref x0), some (.int x1), some (.int x2), some (.int x3)] [.int s0] M Q := by
  rcases h_x0 with rfl | rfl
  · by_cases c1 : s0 < 0
    · obtain ⟨n, h⟩ := px_T_cl (k := 79) (pc := 30) (y := 84) (st := [.int 1, .ref 29, .int x2, .int x1, .ref 29]) rfl (h1 c1)
      exact ⟨n + 7, ⟨fun _ => ⟨rfl, h⟩, fun q => absurd c1 q⟩⟩
    · exact ⟨3, ⟨fun q => absurd q c1, fun _ => ⟨trivial, h2 c1⟩⟩⟩
  · by_cases c1 : s0 < 0
    · obtain ⟨n, h⟩ := px_T_cl (k := 79) (pc := 30) (y := 84) (st := [.int 1, .ref 47, .int x2, .int x1, .ref 47]) rfl (h1 c1)
      exact ⟨n + 7, ⟨fun _ => ⟨rfl, h⟩, fun q => absurd c1 q⟩⟩
    · exact ⟨3, ⟨fun q => absurd q c1, fun _ => ⟨trivial, h2 c1⟩⟩⟩
theorem sg_79_33 {x0 : Nat} {x1 : Int32} {d2 : Option Value} {x3 : Int32} {s0 : Int32} {s1 : Int32} {s2 : Int32} {s3 : Nat} {M : px_Mem} {Q : px_Po} (h_x0 : px_isW x0) (h_s3 : px_isW s3) (h1 : px_T 0 85 0 [some (.ref s3), some (.int s2), some (.int s1), some (.int s0), none] [] M (fun r M1 => px_T 0 79 36 [some (.ref x0), some (.int x1), d2, some (.int x3)] (r.toList ++ []) M1 Q)) : px_T 0 79 33 [some (.ref x0), some (.int x1), d2, some (.int x3)] [.int s0, .int s1, .int s2, .ref s3] M Q := by
  rcases h_x0 with rfl | rfl
  · rcases h_s3 with rfl | rfl
    · obtain ⟨n, h⟩ := px_T_cl (k := 79) (pc := 33) (y := 85) (st := [.int s0, .int s1, .int s2, .ref 29]) rfl (h1)
      exact ⟨n + 1, ⟨rfl, h⟩⟩
    · obtain ⟨n, h⟩ := px_T_cl (k := 79) (pc := 33) (y := 85) (st := [.int s0, .int s1, .int s2, .ref 47]) rfl (h1)
      exact ⟨n + 1, ⟨rfl, h⟩⟩
  · rcases h_s3 with rfl | rfl
    · obtain ⟨n, h⟩ := px_T_cl (k := 79) (pc := 33) (y := 85) (st := [.int s0, .int s1, .int s2, .ref 29]) rfl (h1)
      exact ⟨n + 1, ⟨rfl, h⟩⟩
    · obtain ⟨n, h⟩ := px_T_cl (k := 79) (pc := 33) (y := 85) (st := [.int s0, .int s1, .int s2, .ref 47]) rfl (h1)
      exact ⟨n + 1, ⟨rfl, h⟩⟩
theorem sg_79_36 {x0 : Nat} {x1 : Int32} {d2 : Option Value} {x3 : Int32} {M : px_Mem} {Q : px_Po} (h_x0 : px_isW x0) (h1 : px_T 0 84 0 [some (.ref x0), some (.int 2)] [] M (fun r M1 => px_T 0 79 44 [some (.ref x0), some (.int x1), d2, some (.int x3)] (r.toList ++ [.int x3, .int x1, .ref x0]) M1 Q)) : px_T 0 79 36 [some (.ref x0), some (.int x1), d2, some (.int x3)] [] M Q := by
  rcases h_x0 with rfl | rfl
  · obtain ⟨n, h⟩ := px_T_cl (k := 79) (pc := 41) (y := 84) (st := [.int 2, .ref 29, .int x3, .int x1, .ref 29]) rfl (h1)
    exact ⟨n + 6, ⟨rfl, h⟩⟩
  · obtain ⟨n, h⟩ := px_T_cl (k := 79) (pc := 41) (y := 84) (st := [.int 2, .ref 47, .int x3, .int x1, .ref 47]) rfl (h1)
    exact ⟨n + 6, ⟨rfl, h⟩⟩
theorem sg_79_44 {d0 : Option Value} {d1 : Option Value} {d2 : Option Value} {d3 : Option Value} {s0 : Int32} {s1 : Int32} {s2 : Int32} {s3 : Nat} {M : px_Mem} {Q : px_Po} (h_s3 : px_isW s3) (h1 : px_T 0 85 0 [some (.ref s3), some (.int s2), some (.int s1), some (.int s0), none] [] M (fun r M1 => px_T 0 79 47 [d0, d1, d2, d3] (r.toList ++ []) M1 Q)) : px_T 0 79 44 [d0, d1, d2, d3] [.int s0, .int s1, .int s2, .ref s3] M Q := by
  rcases h_s3 with rfl | rfl
  · obtain ⟨n, h⟩ := px_T_cl (k := 79) (pc := 44) (y := 85) (st := [.int s0, .int s1, .int s2, .ref 29]) rfl (h1)
    exact ⟨n + 1, ⟨rfl, h⟩⟩
  · obtain ⟨n, h⟩ := px_T_cl (k := 79) (pc := 44) (y := 85) (st := [.int s0, .int s1, .int s2, .ref 47]) rfl (h1)
    exact ⟨n + 1, ⟨rfl, h⟩⟩
theorem sg_79_47 {d0 : Option Value} {d1 : Option Value} {d2 : Option Value} {d3 : Option Value} {M : px_Mem} {Q : px_Po} (h1 : Q (some (.int 0)) M) : px_T 0 79 47 [d0, d1, d2, d3] [] M Q := by
  exact ⟨2, ⟨trivial, h1⟩⟩
theorem sg_80_0 {x0 : Nat} {x1 : Int32} {x2 : Int32} {x3 : Int32} {M : px_Mem} {Q : px_Po} (h_x0 : px_isW x0) (h1 : px_T 0 68 0 [some (.ref x0), some (.int x1), some (.int x2), none] [] M (fun r M1 => px_T 0 80 6 [some (.ref x0), some (.int x1), some (.int x2), some (.int x3)] (r.toList ++ []) M1 Q)) : px_T 0 80 0 [some (.ref x0), some (.int x1), some (.int x2), some (.int x3)] [] M Q := by
  rcases h_x0 with rfl | rfl
  · obtain ⟨n, h⟩ := px_T_cl (k := 80) (pc := 3) (y := 68) (st := [.int x2, .int x1, .ref 29]) rfl (h1)
    exact ⟨n + 4, ⟨rfl, h⟩⟩
  · obtain ⟨n, h⟩ := px_T_cl (k := 80) (pc := 3) (y := 68) (st := [.int x2, .int x1, .ref 47]) rfl (h1)
    exact ⟨n + 4, ⟨rfl, h⟩⟩
theorem sg_80_6 {x0 : Nat} {x1 : Int32} {x2 : Int32} {x3 : Int32} {s0 : Int32} {M : px_Mem} {Q : px_Po} (h_x0 : px_isW x0) (h1 : (s0 < 0) → Q (some (.int 3)) M) (h2 : (¬ (s0 < 0)) → px_T 0 68 0 [some (.ref x0), some (.int x1), some (.int x3), none] [] M (fun r M1 => px_T 0 80 15 [some (.ref x0), some (.int x1), some (.int x2), some (.int x3)] (r.toList ++ []) M1 Q)) : px_T 0 80 6 [some (.ref x0), some (.int x1), some (.int x2), some (.int x3)] [.int s0] M Q := by
  rcases h_x0 with rfl | rfl
  · by_cases c1 : s0 < 0
    · exact ⟨3, ⟨fun _ => ⟨trivial, h1 c1⟩, fun q => absurd c1 q⟩⟩
    · obtain ⟨n, h⟩ := px_T_cl (k := 80) (pc := 12) (y := 68) (st := [.int x3, .int x1, .ref 29]) rfl (h2 c1)
      exact ⟨n + 5, ⟨fun q => absurd q c1, fun _ => ⟨rfl, h⟩⟩⟩
  · by_cases c1 : s0 < 0
    · exact ⟨3, ⟨fun _ => ⟨trivial, h1 c1⟩, fun q => absurd c1 q⟩⟩
    · obtain ⟨n, h⟩ := px_T_cl (k := 80) (pc := 12) (y := 68) (st := [.int x3, .int x1, .ref 47]) rfl (h2 c1)
      exact ⟨n + 5, ⟨fun q => absurd q c1, fun _ => ⟨rfl, h⟩⟩⟩
theorem sg_80_15 {x0 : Nat} {x1 : Int32} {x2 : Int32} {x3 : Int32} {s0 : Int32} {M : px_Mem} {Q : px_Po} (h_x0 : px_isW x0) (h1 : (s0 < 0) → px_T 0 68 0 [some (.ref x0), some (.int x1), some (.int x2), none] [] M (fun r M1 => px_T 0 80 29 [some (.ref x0), some (.int x1), some (.int x2), some (.int x3)] (r.toList ++ [.int x3, .int x1, .ref x0]) M1 Q)) (h2 : (¬ (s0 < 0)) → Q (some (.int 3)) M) : px_T 0 80 15 [some (.ref x0), some (.int x1), some (.int x2), some (.int x3)] [.int s0] M Q := by
  rcases h_x0 with rfl | rfl
  · by_cases c1 : s0 < 0
    · obtain ⟨n, h⟩ := px_T_cl (k := 80) (pc := 26) (y := 68) (st := [.int x2, .int x1, .ref 29, .int x3, .int x1, .ref 29]) rfl (h1 c1)
      exact ⟨n + 8, ⟨fun _ => ⟨rfl, h⟩, fun q => absurd c1 q⟩⟩
    · exact ⟨3, ⟨fun q => absurd q c1, fun _ => ⟨trivial, h2 c1⟩⟩⟩
  · by_cases c1 : s0 < 0
    · obtain ⟨n, h⟩ := px_T_cl (k := 80) (pc := 26) (y := 68) (st := [.int x2, .int x1, .ref 47, .int x3, .int x1, .ref 47]) rfl (h1 c1)
      exact ⟨n + 8, ⟨fun _ => ⟨rfl, h⟩, fun q => absurd c1 q⟩⟩
    · exact ⟨3, ⟨fun q => absurd q c1, fun _ => ⟨trivial, h2 c1⟩⟩⟩
theorem sg_80_29 {d0 : Option Value} {d1 : Option Value} {d2 : Option Value} {d3 : Option Value} {s0 : Int32} {s1 : Int32} {s2 : Int32} {s3 : Nat} {M : px_Mem} {Q : px_Po} (h_s3 : px_isW s3) (h1 : px_T 0 85 0 [some (.ref s3), some (.int s2), some (.int s1), some (.int s0), none] [] M (fun r M1 => px_T 0 80 32 [d0, d1, d2, d3] (r.toList ++ []) M1 Q)) : px_T 0 80 29 [d0, d1, d2, d3] [.int s0, .int s1, .int s2, .ref s3] M Q := by
  rcases h_s3 with rfl | rfl
  · obtain ⟨n, h⟩ := px_T_cl (k := 80) (pc := 29) (y := 85) (st := [.int s0, .int s1, .int s2, .ref 29]) rfl (h1)
    exact ⟨n + 1, ⟨rfl, h⟩⟩
  · obtain ⟨n, h⟩ := px_T_cl (k := 80) (pc := 29) (y := 85) (st := [.int s0, .int s1, .int s2, .ref 47]) rfl (h1)
    exact ⟨n + 1, ⟨rfl, h⟩⟩
theorem sg_80_32 {d0 : Option Value} {d1 : Option Value} {d2 : Option Value} {d3 : Option Value} {M : px_Mem} {Q : px_Po} (h1 : Q (some (.int 0)) M) : px_T 0 80 32 [d0, d1, d2, d3] [] M Q := by
  exact ⟨2, ⟨trivial, h1⟩⟩
theorem sg_81_0 {x0 : Nat} {x1 : Int32} {x2 : Int32} {M : px_Mem} {Q : px_Po} (h_x0 : px_isW x0) (h1 : px_T 0 68 0 [some (.ref x0), some (.int x1), some (.int x2), none] [] M (fun r M1 => px_T 0 81 6 [some (.ref x0), some (.int x1), some (.int x2)] (r.toList ++ []) M1 Q)) : px_T 0 81 0 [some (.ref x0), some (.int x1), some (.int x2)] [] M Q := by
  rcases h_x0 with rfl | rfl
  · obtain ⟨n, h⟩ := px_T_cl (k := 81) (pc := 3) (y := 68) (st := [.int x2, .int x1, .ref 29]) rfl (h1)
    exact ⟨n + 4, ⟨rfl, h⟩⟩
  · obtain ⟨n, h⟩ := px_T_cl (k := 81) (pc := 3) (y := 68) (st := [.int x2, .int x1, .ref 47]) rfl (h1)
    exact ⟨n + 4, ⟨rfl, h⟩⟩
theorem sg_81_6 {x0 : Nat} {x1 : Int32} {x2 : Int32} {s0 : Int32} {M : px_Mem} {Q : px_Po} (h_x0 : px_isW x0) (h1 : ((0 : Int32) ≤ s0) → px_T 0 85 0 [some (.ref x0), some (.int x1), some (.int x2), some (.int (-1)), none] [] M (fun r M1 => px_T 0 81 18 [some (.ref x0), some (.int x1), some (.int x2)] (r.toList ++ []) M1 Q)) (h2 : (¬ ((0 : Int32) ≤ s0)) → Q (some (.int 3)) M) : px_T 0 81 6 [some (.ref x0), some (.int x1), some (.int x2)] [.int s0] M Q := by
  rcases h_x0 with rfl | rfl
  · by_cases c1 : (0 : Int32) ≤ s0
    · obtain ⟨n, h⟩ := px_T_cl (k := 81) (pc := 15) (y := 85) (st := [.int (-1), .int x2, .int x1, .ref 29]) rfl (h1 c1)
      exact ⟨n + 6, ⟨fun _ => ⟨rfl, h⟩, fun q => absurd c1 q⟩⟩
    · exact ⟨3, ⟨fun q => absurd q c1, fun _ => ⟨trivial, h2 c1⟩⟩⟩
  · by_cases c1 : (0 : Int32) ≤ s0
    · obtain ⟨n, h⟩ := px_T_cl (k := 81) (pc := 15) (y := 85) (st := [.int (-1), .int x2, .int x1, .ref 47]) rfl (h1 c1)
      exact ⟨n + 6, ⟨fun _ => ⟨rfl, h⟩, fun q => absurd c1 q⟩⟩
    · exact ⟨3, ⟨fun q => absurd q c1, fun _ => ⟨trivial, h2 c1⟩⟩⟩
theorem sg_81_18 {d0 : Option Value} {d1 : Option Value} {d2 : Option Value} {M : px_Mem} {Q : px_Po} (h1 : Q (some (.int 0)) M) : px_T 0 81 18 [d0, d1, d2] [] M Q := by
  exact ⟨2, ⟨trivial, h1⟩⟩
set_option maxRecDepth 20000 in
theorem sg_82_0 {x0 : Nat} {x1 : Int32} {x2 : Int32} {M : px_Mem} {Q : px_Po} (h_x0 : px_isW x0) (h1 : ((0 : Int32) ≤ x1) → px_T 0 71 0 [some (.ref x0), some (.int x1)] [] M (fun r M1 => px_T 0 82 11 [some (.ref x0), some (.int x1), some (.int x2), none] (r.toList ++ []) M1 Q)) (h2 : (¬ ((0 : Int32) ≤ x1)) → Q (some (.int 3)) M) : px_T 0 82 0 [some (.ref x0), some (.int x1), some (.int x2), none] [] M Q := by
  rcases h_x0 with rfl | rfl
  · by_cases c1 : (0 : Int32) ≤ x1
    · obtain ⟨n, h⟩ := px_T_cl (k := 82) (pc := 8) (y := 71) (st := [.int x1, .ref 29]) rfl (h1 c1)
      exact ⟨n + 5, ⟨fun _ => ⟨rfl, h⟩, fun q => absurd c1 q⟩⟩
    · exact ⟨4, ⟨fun q => absurd q c1, fun _ => ⟨trivial, h2 c1⟩⟩⟩
  · by_cases c1 : (0 : Int32) ≤ x1
    · obtain ⟨n, h⟩ := px_T_cl (k := 82) (pc := 8) (y := 71) (st := [.int x1, .ref 47]) rfl (h1 c1)
      exact ⟨n + 5, ⟨fun _ => ⟨rfl, h⟩, fun q => absurd c1 q⟩⟩
    · exact ⟨4, ⟨fun q => absurd q c1, fun _ => ⟨trivial, h2 c1⟩⟩⟩
set_option maxRecDepth 20000 in
theorem sg_82_11 {x0 : Nat} {x1 : Int32} {x2 : Int32} {d3 : Option Value} {s0 : Int32} {M : px_Mem} {Q : px_Po} (h_x0 : px_isW x0) (h1 : (s0 < 0) → Q (some (.int 4)) M) (h2 : (¬ (s0 < 0)) → (s0 = x1) → Q (some (.int 4)) M) (h3 : (¬ (s0 < 0)) → (¬ (s0 = x1)) → vp_in s0 200) (h4 : (¬ (s0 < 0)) → (¬ (s0 = x1)) → ((M.1 (x0 + 6) s0.toNatClampNeg) = 0) → Q (some (.int 5)) M) (h5 : (¬ (s0 < 0)) → (¬ (s0 = x1)) → (¬ ((M.1 (x0 + 6) s0.toNatClampNeg) = 0)) → (((M.1 (x0 + 7) s0.toNatClampNeg) + x2) ≤ 60) → Q (some (.int 0)) (px_wI M (x0 + 7) s0.toNatClampNeg ((M.1 (x0 + 7) s0.toNatClampNeg) + x2))) (h6 : (¬ (s0 < 0)) → (¬ (s0 = x1)) → (¬ ((M.1 (x0 + 6) s0.toNatClampNeg) = 0)) → (¬ (((M.1 (x0 + 7) s0.toNatClampNeg) + x2) ≤ 60)) → Q (some (.int 6)) M) : px_T 0 82 11 [some (.ref x0), some (.int x1), some (.int x2), d3] [.int s0] M Q := by
  rcases h_x0 with rfl | rfl
  · by_cases c1 : s0 < 0
    · exact ⟨5, ⟨fun _ => ⟨trivial, h1 c1⟩, fun q => absurd c1 q⟩⟩
    · by_cases c2 : s0 = x1
      · exact ⟨8, ⟨fun q => absurd q c1, fun _ => ⟨fun q => absurd c2 q, fun _ => ⟨trivial, h2 c1 c2⟩⟩⟩⟩
      · by_cases c3 : (M.1 (29 + 6) s0.toNatClampNeg) = 0
        · exact ⟨13, ⟨fun q => absurd q c1, fun _ => ⟨fun _ => ⟨rfl, ⟨Or.inl ⟨0, 200, Or.inl rfl, rfl, (h3 c1 c2)⟩, ⟨fun q => absurd c3 q, fun _ => ⟨trivial, h4 c1 c2 c3⟩⟩⟩⟩, fun q => absurd q c2⟩⟩⟩
        · by_cases c4 : ((M.1 (29 + 7) s0.toNatClampNeg) + x2) ≤ 60
          · exact ⟨29, ⟨fun q => absurd q c1, fun _ => ⟨fun _ => ⟨rfl, ⟨Or.inl ⟨0, 200, Or.inl rfl, rfl, (h3 c1 c2)⟩, ⟨fun _ => ⟨rfl, ⟨Or.inl ⟨0, 200, Or.inl rfl, rfl, (h3 c1 c2)⟩, ⟨fun _ => ⟨rfl, ⟨Or.inl ⟨0, 200, Or.inl rfl, rfl, (h3 c1 c2)⟩, ⟨⟨200, rfl, (h3 c1 c2)⟩, ⟨trivial, h5 c1 c2 c3 c4⟩⟩⟩⟩, fun q => absurd c4 q⟩⟩⟩, fun q => absurd q c3⟩⟩⟩, fun q => absurd q c2⟩⟩⟩
          · exact ⟨21, ⟨fun q => absurd q c1, fun _ => ⟨fun _ => ⟨rfl, ⟨Or.inl ⟨0, 200, Or.inl rfl, rfl, (h3 c1 c2)⟩, ⟨fun _ => ⟨rfl, ⟨Or.inl ⟨0, 200, Or.inl rfl, rfl, (h3 c1 c2)⟩, ⟨fun q => absurd q c4, fun _ => ⟨trivial, h6 c1 c2 c3 c4⟩⟩⟩⟩, fun q => absurd q c3⟩⟩⟩, fun q => absurd q c2⟩⟩⟩
  · by_cases c1 : s0 < 0
    · exact ⟨5, ⟨fun _ => ⟨trivial, h1 c1⟩, fun q => absurd c1 q⟩⟩
    · by_cases c2 : s0 = x1
      · exact ⟨8, ⟨fun q => absurd q c1, fun _ => ⟨fun q => absurd c2 q, fun _ => ⟨trivial, h2 c1 c2⟩⟩⟩⟩
      · by_cases c3 : (M.1 (47 + 6) s0.toNatClampNeg) = 0
        · exact ⟨13, ⟨fun q => absurd q c1, fun _ => ⟨fun _ => ⟨rfl, ⟨Or.inl ⟨0, 200, Or.inl rfl, rfl, (h3 c1 c2)⟩, ⟨fun q => absurd c3 q, fun _ => ⟨trivial, h4 c1 c2 c3⟩⟩⟩⟩, fun q => absurd q c2⟩⟩⟩
        · by_cases c4 : ((M.1 (47 + 7) s0.toNatClampNeg) + x2) ≤ 60
          · exact ⟨29, ⟨fun q => absurd q c1, fun _ => ⟨fun _ => ⟨rfl, ⟨Or.inl ⟨0, 200, Or.inl rfl, rfl, (h3 c1 c2)⟩, ⟨fun _ => ⟨rfl, ⟨Or.inl ⟨0, 200, Or.inl rfl, rfl, (h3 c1 c2)⟩, ⟨fun _ => ⟨rfl, ⟨Or.inl ⟨0, 200, Or.inl rfl, rfl, (h3 c1 c2)⟩, ⟨⟨200, rfl, (h3 c1 c2)⟩, ⟨trivial, h5 c1 c2 c3 c4⟩⟩⟩⟩, fun q => absurd c4 q⟩⟩⟩, fun q => absurd q c3⟩⟩⟩, fun q => absurd q c2⟩⟩⟩
          · exact ⟨21, ⟨fun q => absurd q c1, fun _ => ⟨fun _ => ⟨rfl, ⟨Or.inl ⟨0, 200, Or.inl rfl, rfl, (h3 c1 c2)⟩, ⟨fun _ => ⟨rfl, ⟨Or.inl ⟨0, 200, Or.inl rfl, rfl, (h3 c1 c2)⟩, ⟨fun q => absurd q c4, fun _ => ⟨trivial, h6 c1 c2 c3 c4⟩⟩⟩⟩, fun q => absurd q c3⟩⟩⟩, fun q => absurd q c2⟩⟩⟩
set_option maxRecDepth 20000 in
theorem sg_83_0 {x0 : Nat} {x1 : Int32} {x2 : Int32} {M : px_Mem} {Q : px_Po} (h_x0 : px_isW x0) (h1 : ((0 : Int32) ≤ x1) → px_T 0 71 0 [some (.ref x0), some (.int x1)] [] M (fun r M1 => px_T 0 83 11 [some (.ref x0), some (.int x1), some (.int x2), none] (r.toList ++ []) M1 Q)) (h2 : (¬ ((0 : Int32) ≤ x1)) → Q (some (.int 3)) M) : px_T 0 83 0 [some (.ref x0), some (.int x1), some (.int x2), none] [] M Q := by
  rcases h_x0 with rfl | rfl
  · by_cases c1 : (0 : Int32) ≤ x1
    · obtain ⟨n, h⟩ := px_T_cl (k := 83) (pc := 8) (y := 71) (st := [.int x1, .ref 29]) rfl (h1 c1)
      exact ⟨n + 5, ⟨fun _ => ⟨rfl, h⟩, fun q => absurd c1 q⟩⟩
    · exact ⟨4, ⟨fun q => absurd q c1, fun _ => ⟨trivial, h2 c1⟩⟩⟩
  · by_cases c1 : (0 : Int32) ≤ x1
    · obtain ⟨n, h⟩ := px_T_cl (k := 83) (pc := 8) (y := 71) (st := [.int x1, .ref 47]) rfl (h1 c1)
      exact ⟨n + 5, ⟨fun _ => ⟨rfl, h⟩, fun q => absurd c1 q⟩⟩
    · exact ⟨4, ⟨fun q => absurd q c1, fun _ => ⟨trivial, h2 c1⟩⟩⟩
set_option maxRecDepth 20000 in
theorem sg_83_11 {x0 : Nat} {x1 : Int32} {x2 : Int32} {d3 : Option Value} {s0 : Int32} {M : px_Mem} {Q : px_Po} (h_x0 : px_isW x0) (h1 : (s0 < 0) → Q (some (.int 4)) M) (h2 : (¬ (s0 < 0)) → (s0 = x1) → vp_in s0 200) (h3 : (¬ (s0 < 0)) → (s0 = x1) → (x2 ≤ (M.1 (x0 + 7) s0.toNatClampNeg)) → Q (some (.int 0)) (px_wI M (x0 + 7) s0.toNatClampNeg ((M.1 (x0 + 7) s0.toNatClampNeg) - (if (M.1 (x0 + 7) s0.toNatClampNeg) < x2 then M.1 (x0 + 7) s0.toNatClampNeg else x2)))) (h4 : (¬ (s0 < 0)) → (s0 = x1) → (¬ (x2 ≤ (M.1 (x0 + 7) s0.toNatClampNeg))) → vp_in (s0 + 1) 200) (h5 : (¬ (s0 < 0)) → (s0 = x1) → (¬ (x2 ≤ (M.1 (x0 + 7) s0.toNatClampNeg))) → ((M.1 (x0 + 6) ((s0 + 1).toNatClampNeg)) ≤ 0) → Q (some (.int 0)) (px_wI M (x0 + 7) s0.toNatClampNeg ((M.1 (x0 + 7) s0.toNatClampNeg) - (if (M.1 (x0 + 7) s0.toNatClampNeg) < x2 then M.1 (x0 + 7) s0.toNatClampNeg else x2)))) (h6 : (¬ (s0 < 0)) → (s0 = x1) → (¬ (x2 ≤ (M.1 (x0 + 7) s0.toNatClampNeg))) → (¬ ((M.1 (x0 + 6) ((s0 + 1).toNatClampNeg)) ≤ 0)) → Q (some (.int 5)) M) (h7 : (¬ (s0 < 0)) → (¬ (s0 = x1)) → Q (some (.int 4)) M) : px_T 0 83 11 [some (.ref x0), some (.int x1), some (.int x2), d3] [.int s0] M Q := by
  rcases h_x0 with rfl | rfl
  · by_cases c1 : s0 < 0
    · exact ⟨5, ⟨fun _ => ⟨trivial, h1 c1⟩, fun q => absurd c1 q⟩⟩
    · by_cases c2 : s0 = x1
      · by_cases c3 : x2 ≤ (M.1 (29 + 7) s0.toNatClampNeg)
        · exact ⟨27, ⟨fun q => absurd q c1, fun _ => ⟨fun _ => ⟨rfl, ⟨Or.inl ⟨0, 200, Or.inl rfl, rfl, (h2 c1 c2)⟩, ⟨fun _ => ⟨rfl, ⟨Or.inl ⟨0, 200, Or.inl rfl, rfl, (h2 c1 c2)⟩, ⟨rfl, ⟨Or.inl ⟨0, 200, Or.inl rfl, rfl, (h2 c1 c2)⟩, ⟨(Nat.le_of_ble_eq_true rfl), (Nat.le_of_ble_eq_true rfl), (Nat.le_of_ble_eq_true rfl), ⟨⟨200, rfl, (h2 c1 c2)⟩, ⟨trivial, h3 c1 c2 c3⟩⟩⟩⟩⟩⟩⟩, fun q => absurd c3 q⟩⟩⟩, fun q => absurd c2 q⟩⟩⟩
        · by_cases c4 : (M.1 (29 + 6) ((s0 + 1).toNatClampNeg)) ≤ 0
          · exact ⟨34, ⟨fun q => absurd q c1, fun _ => ⟨fun _ => ⟨rfl, ⟨Or.inl ⟨0, 200, Or.inl rfl, rfl, (h2 c1 c2)⟩, ⟨fun q => absurd q c3, fun _ => ⟨rfl, ⟨Or.inl ⟨0, 200, Or.inl rfl, rfl, (h4 c1 c2 c3)⟩, ⟨fun _ => ⟨rfl, ⟨Or.inl ⟨0, 200, Or.inl rfl, rfl, (h2 c1 c2)⟩, ⟨rfl, ⟨Or.inl ⟨0, 200, Or.inl rfl, rfl, (h2 c1 c2)⟩, ⟨(Nat.le_of_ble_eq_true rfl), (Nat.le_of_ble_eq_true rfl), (Nat.le_of_ble_eq_true rfl), ⟨⟨200, rfl, (h2 c1 c2)⟩, ⟨trivial, h5 c1 c2 c3 c4⟩⟩⟩⟩⟩⟩⟩, fun q => absurd c4 q⟩⟩⟩⟩⟩⟩, fun q => absurd c2 q⟩⟩⟩
          · exact ⟨21, ⟨fun q => absurd q c1, fun _ => ⟨fun _ => ⟨rfl, ⟨Or.inl ⟨0, 200, Or.inl rfl, rfl, (h2 c1 c2)⟩, ⟨fun q => absurd q c3, fun _ => ⟨rfl, ⟨Or.inl ⟨0, 200, Or.inl rfl, rfl, (h4 c1 c2 c3)⟩, ⟨fun q => absurd q c4, fun _ => ⟨trivial, h6 c1 c2 c3 c4⟩⟩⟩⟩⟩⟩⟩, fun q => absurd c2 q⟩⟩⟩
      · exact ⟨8, ⟨fun q => absurd q c1, fun _ => ⟨fun q => absurd q c2, fun _ => ⟨trivial, h7 c1 c2⟩⟩⟩⟩
  · by_cases c1 : s0 < 0
    · exact ⟨5, ⟨fun _ => ⟨trivial, h1 c1⟩, fun q => absurd c1 q⟩⟩
    · by_cases c2 : s0 = x1
      · by_cases c3 : x2 ≤ (M.1 (47 + 7) s0.toNatClampNeg)
        · exact ⟨27, ⟨fun q => absurd q c1, fun _ => ⟨fun _ => ⟨rfl, ⟨Or.inl ⟨0, 200, Or.inl rfl, rfl, (h2 c1 c2)⟩, ⟨fun _ => ⟨rfl, ⟨Or.inl ⟨0, 200, Or.inl rfl, rfl, (h2 c1 c2)⟩, ⟨rfl, ⟨Or.inl ⟨0, 200, Or.inl rfl, rfl, (h2 c1 c2)⟩, ⟨(Nat.le_of_ble_eq_true rfl), (Nat.le_of_ble_eq_true rfl), (Nat.le_of_ble_eq_true rfl), ⟨⟨200, rfl, (h2 c1 c2)⟩, ⟨trivial, h3 c1 c2 c3⟩⟩⟩⟩⟩⟩⟩, fun q => absurd c3 q⟩⟩⟩, fun q => absurd c2 q⟩⟩⟩
        · by_cases c4 : (M.1 (47 + 6) ((s0 + 1).toNatClampNeg)) ≤ 0
          · exact ⟨34, ⟨fun q => absurd q c1, fun _ => ⟨fun _ => ⟨rfl, ⟨Or.inl ⟨0, 200, Or.inl rfl, rfl, (h2 c1 c2)⟩, ⟨fun q => absurd q c3, fun _ => ⟨rfl, ⟨Or.inl ⟨0, 200, Or.inl rfl, rfl, (h4 c1 c2 c3)⟩, ⟨fun _ => ⟨rfl, ⟨Or.inl ⟨0, 200, Or.inl rfl, rfl, (h2 c1 c2)⟩, ⟨rfl, ⟨Or.inl ⟨0, 200, Or.inl rfl, rfl, (h2 c1 c2)⟩, ⟨(Nat.le_of_ble_eq_true rfl), (Nat.le_of_ble_eq_true rfl), (Nat.le_of_ble_eq_true rfl), ⟨⟨200, rfl, (h2 c1 c2)⟩, ⟨trivial, h5 c1 c2 c3 c4⟩⟩⟩⟩⟩⟩⟩, fun q => absurd c4 q⟩⟩⟩⟩⟩⟩, fun q => absurd c2 q⟩⟩⟩
          · exact ⟨21, ⟨fun q => absurd q c1, fun _ => ⟨fun _ => ⟨rfl, ⟨Or.inl ⟨0, 200, Or.inl rfl, rfl, (h2 c1 c2)⟩, ⟨fun q => absurd q c3, fun _ => ⟨rfl, ⟨Or.inl ⟨0, 200, Or.inl rfl, rfl, (h4 c1 c2 c3)⟩, ⟨fun q => absurd q c4, fun _ => ⟨trivial, h6 c1 c2 c3 c4⟩⟩⟩⟩⟩⟩⟩, fun q => absurd c2 q⟩⟩⟩
      · exact ⟨8, ⟨fun q => absurd q c1, fun _ => ⟨fun q => absurd q c2, fun _ => ⟨trivial, h7 c1 c2⟩⟩⟩⟩
theorem sg_84_0 {x0 : Nat} {x1 : Int32} {M : px_Mem} {Q : px_Po} (h_x0 : px_isW x0) (h1 : ((M.1 x0 1) < 200) → vp_in (M.1 x0 1) 200) (h2 : ((M.1 x0 1) < 200) → Q (some (.int (((M.1 x0 1) + 1) - 1))) (px_wI (px_wI (px_wI M (x0 + 5) ((M.1 x0 1).toNatClampNeg) x1) (x0 + 7) ((M.1 x0 1).toNatClampNeg) 0) x0 1 ((M.1 x0 1) + 1))) (h3 : (¬ ((M.1 x0 1) < 200)) → Q (some (.int (-1))) M) : px_T 0 84 0 [some (.ref x0), some (.int x1)] [] M Q := by
  rcases h_x0 with rfl | rfl
  · by_cases c1 : (M.1 29 1) < 200
    · exact ⟨27, ⟨rfl, ⟨fun _ => ⟨rfl, ⟨rfl, ⟨⟨200, rfl, (h1 c1)⟩, ⟨rfl, ⟨rfl, ⟨⟨200, rfl, (h1 c1)⟩, ⟨rfl, ⟨rfl, ⟨rfl, ⟨trivial, h2 c1⟩⟩⟩⟩⟩⟩⟩⟩⟩⟩, fun q => absurd c1 q⟩⟩⟩
    · exact ⟨6, ⟨rfl, ⟨fun q => absurd q c1, fun _ => ⟨trivial, h3 c1⟩⟩⟩⟩
  · by_cases c1 : (M.1 47 1) < 200
    · exact ⟨27, ⟨rfl, ⟨fun _ => ⟨rfl, ⟨rfl, ⟨⟨200, rfl, (h1 c1)⟩, ⟨rfl, ⟨rfl, ⟨⟨200, rfl, (h1 c1)⟩, ⟨rfl, ⟨rfl, ⟨rfl, ⟨trivial, h2 c1⟩⟩⟩⟩⟩⟩⟩⟩⟩⟩, fun q => absurd c1 q⟩⟩⟩
    · exact ⟨6, ⟨rfl, ⟨fun q => absurd q c1, fun _ => ⟨trivial, h3 c1⟩⟩⟩⟩
set_option maxRecDepth 20000 in
theorem sg_85_0 {x0 : Nat} {x1 : Int32} {x2 : Int32} {x3 : Int32} {M : px_Mem} {Q : px_Po} (h_x0 : px_isW x0) (h1 : (((x1 * 8) + x2) < 0) → Q none M) (h2 : (¬ (((x1 * 8) + x2) < 0)) → (((x1 * 8) + x2) < 128) → vp_in ((x1 * 8) + x2) 128) (h3 : (¬ (((x1 * 8) + x2) < 0)) → (((x1 * 8) + x2) < 128) → ((M.1 (x0 + 4) (((x1 * 8) + x2).toNatClampNeg)) < 0) → px_T 0 85 63 [some (.ref x0), some (.int x1), some (.int x2), some (.int x3), some (.int ((x1 * 8) + x2))] [] M Q) (h4 : (¬ (((x1 * 8) + x2) < 0)) → (((x1 * 8) + x2) < 128) → (¬ ((M.1 (x0 + 4) (((x1 * 8) + x2).toNatClampNeg)) < 0)) → ((200 : Int32) ≤ (M.1 (x0 + 4) (((x1 * 8) + x2).toNatClampNeg))) → px_T 0 85 63 [some (.ref x0), some (.int x1), some (.int x2), some (.int x3), some (.int ((x1 * 8) + x2))] [] M Q) (h5 : (¬ (((x1 * 8) + x2) < 0)) → (((x1 * 8) + x2) < 128) → (¬ ((M.1 (x0 + 4) (((x1 * 8) + x2).toNatClampNeg)) < 0)) → (¬ ((200 : Int32) ≤ (M.1 (x0 + 4) (((x1 * 8) + x2).toNatClampNeg)))) → vp_in (M.1 (x0 + 4) (((x1 * 8) + x2).toNatClampNeg)) 200) (h6 : (¬ (((x1 * 8) + x2) < 0)) → (((x1 * 8) + x2) < 128) → (¬ ((M.1 (x0 + 4) (((x1 * 8) + x2).toNatClampNeg)) < 0)) → (¬ ((200 : Int32) ≤ (M.1 (x0 + 4) (((x1 * 8) + x2).toNatClampNeg)))) → px_T 0 85 63 [some (.ref x0), some (.int x1), some (.int x2), some (.int x3), some (.int ((x1 * 8) + x2))] [] (px_wI M (x0 + 6) ((M.1 (x0 + 4) (((x1 * 8) + x2).toNatClampNeg)).toNatClampNeg) ((M.1 (x0 + 6) ((M.1 (x0 + 4) (((x1 * 8) + x2).toNatClampNeg)).toNatClampNeg)) - 1)) Q) (h7 : (¬ (((x1 * 8) + x2) < 0)) → (¬ (((x1 * 8) + x2) < 128)) → Q none M) : px_T 0 85 0 [some (.ref x0), some (.int x1), some (.int x2), some (.int x3), none] [] M Q := by
  rcases h_x0 with rfl | rfl
  · by_cases c1 : ((x1 * 8) + x2) < 0
    · exact ⟨9, ⟨fun _ => ⟨rfl, h1 c1⟩, fun q => absurd c1 q⟩⟩
    · by_cases c2 : ((x1 * 8) + x2) < 128
      · by_cases c3 : (M.1 (29 + 4) (((x1 * 8) + x2).toNatClampNeg)) < 0
        · obtain ⟨n, h⟩ := h3 c1 c2 c3
          exact ⟨n + 18, ⟨fun q => absurd q c1, fun _ => ⟨rfl, (Or.inl ⟨0, 128, rfl, (by decide), ⟨fun _ => ⟨rfl, ⟨Or.inl ⟨0, 128, Or.inl rfl, rfl, (h2 c1 c2)⟩, ⟨fun _ => h, fun q => absurd c3 q⟩⟩⟩, fun q => absurd c2 q⟩⟩)⟩⟩⟩
        · by_cases c4 : (200 : Int32) ≤ (M.1 (29 + 4) (((x1 * 8) + x2).toNatClampNeg))
          · obtain ⟨n, h⟩ := h4 c1 c2 c3 c4
            exact ⟨n + 24, ⟨fun q => absurd q c1, fun _ => ⟨rfl, (Or.inl ⟨0, 128, rfl, (by decide), ⟨fun _ => ⟨rfl, ⟨Or.inl ⟨0, 128, Or.inl rfl, rfl, (h2 c1 c2)⟩, ⟨fun q => absurd q c3, fun _ => ⟨rfl, ⟨Or.inl ⟨0, 128, Or.inl rfl, rfl, (h2 c1 c2)⟩, ⟨fun _ => h, fun q => absurd c4 q⟩⟩⟩⟩⟩⟩, fun q => absurd c2 q⟩⟩)⟩⟩⟩
          · obtain ⟨n, h⟩ := h6 c1 c2 c3 c4
            exact ⟨n + 35, ⟨fun q => absurd q c1, fun _ => ⟨rfl, (Or.inl ⟨0, 128, rfl, (by decide), ⟨fun _ => ⟨rfl, ⟨Or.inl ⟨0, 128, Or.inl rfl, rfl, (h2 c1 c2)⟩, ⟨fun q => absurd q c3, fun _ => ⟨rfl, ⟨Or.inl ⟨0, 128, Or.inl rfl, rfl, (h2 c1 c2)⟩, ⟨fun q => absurd q c4, fun _ => ⟨rfl, ⟨rfl, ⟨Or.inl ⟨0, 128, Or.inl rfl, rfl, (h2 c1 c2)⟩, ⟨Or.inl ⟨0, 200, Or.inl rfl, rfl, (h5 c1 c2 c3 c4)⟩, ⟨⟨200, rfl, (h5 c1 c2 c3 c4)⟩, h⟩⟩⟩⟩⟩⟩⟩⟩⟩⟩⟩, fun q => absurd c2 q⟩⟩)⟩⟩⟩
      · exact ⟨14, ⟨fun q => absurd q c1, fun _ => ⟨rfl, (Or.inl ⟨0, 128, rfl, (by decide), ⟨fun q => absurd q c2, fun _ => ⟨rfl, h7 c1 c2⟩⟩⟩)⟩⟩⟩
  · by_cases c1 : ((x1 * 8) + x2) < 0
    · exact ⟨9, ⟨fun _ => ⟨rfl, h1 c1⟩, fun q => absurd c1 q⟩⟩
    · by_cases c2 : ((x1 * 8) + x2) < 128
      · by_cases c3 : (M.1 (47 + 4) (((x1 * 8) + x2).toNatClampNeg)) < 0
        · obtain ⟨n, h⟩ := h3 c1 c2 c3
          exact ⟨n + 18, ⟨fun q => absurd q c1, fun _ => ⟨rfl, (Or.inl ⟨0, 128, rfl, (by decide), ⟨fun _ => ⟨rfl, ⟨Or.inl ⟨0, 128, Or.inl rfl, rfl, (h2 c1 c2)⟩, ⟨fun _ => h, fun q => absurd c3 q⟩⟩⟩, fun q => absurd c2 q⟩⟩)⟩⟩⟩
        · by_cases c4 : (200 : Int32) ≤ (M.1 (47 + 4) (((x1 * 8) + x2).toNatClampNeg))
          · obtain ⟨n, h⟩ := h4 c1 c2 c3 c4
            exact ⟨n + 24, ⟨fun q => absurd q c1, fun _ => ⟨rfl, (Or.inl ⟨0, 128, rfl, (by decide), ⟨fun _ => ⟨rfl, ⟨Or.inl ⟨0, 128, Or.inl rfl, rfl, (h2 c1 c2)⟩, ⟨fun q => absurd q c3, fun _ => ⟨rfl, ⟨Or.inl ⟨0, 128, Or.inl rfl, rfl, (h2 c1 c2)⟩, ⟨fun _ => h, fun q => absurd c4 q⟩⟩⟩⟩⟩⟩, fun q => absurd c2 q⟩⟩)⟩⟩⟩
          · obtain ⟨n, h⟩ := h6 c1 c2 c3 c4
            exact ⟨n + 35, ⟨fun q => absurd q c1, fun _ => ⟨rfl, (Or.inl ⟨0, 128, rfl, (by decide), ⟨fun _ => ⟨rfl, ⟨Or.inl ⟨0, 128, Or.inl rfl, rfl, (h2 c1 c2)⟩, ⟨fun q => absurd q c3, fun _ => ⟨rfl, ⟨Or.inl ⟨0, 128, Or.inl rfl, rfl, (h2 c1 c2)⟩, ⟨fun q => absurd q c4, fun _ => ⟨rfl, ⟨rfl, ⟨Or.inl ⟨0, 128, Or.inl rfl, rfl, (h2 c1 c2)⟩, ⟨Or.inl ⟨0, 200, Or.inl rfl, rfl, (h5 c1 c2 c3 c4)⟩, ⟨⟨200, rfl, (h5 c1 c2 c3 c4)⟩, h⟩⟩⟩⟩⟩⟩⟩⟩⟩⟩⟩, fun q => absurd c2 q⟩⟩)⟩⟩⟩
      · exact ⟨14, ⟨fun q => absurd q c1, fun _ => ⟨rfl, (Or.inl ⟨0, 128, rfl, (by decide), ⟨fun q => absurd q c2, fun _ => ⟨rfl, h7 c1 c2⟩⟩⟩)⟩⟩⟩
set_option maxRecDepth 20000 in
theorem sg_85_63 {x0 : Nat} {d1 : Option Value} {d2 : Option Value} {x3 : Int32} {x4 : Int32} {M : px_Mem} {Q : px_Po} (h_x0 : px_isW x0) (h1 : vp_in x4 128) (h2 : (x3 < 0) → Q none (px_wI M (x0 + 4) x4.toNatClampNeg x3)) (h3 : (¬ (x3 < 0)) → ((200 : Int32) ≤ x3) → Q none (px_wI M (x0 + 4) x4.toNatClampNeg x3)) (h4 : (¬ (x3 < 0)) → (¬ ((200 : Int32) ≤ x3)) → vp_in x3 200) (h5 : (¬ (x3 < 0)) → (¬ ((200 : Int32) ≤ x3)) → Q none (px_wI (px_wI M (x0 + 4) x4.toNatClampNeg x3) (x0 + 6) x3.toNatClampNeg ((M.1 (x0 + 6) x3.toNatClampNeg) + 1))) : px_T 0 85 63 [some (.ref x0), d1, d2, some (.int x3), some (.int x4)] [] M Q := by
  rcases h_x0 with rfl | rfl
  · by_cases c1 : x3 < 0
    · exact ⟨8, ⟨rfl, ⟨⟨128, rfl, h1⟩, ⟨fun _ => ⟨rfl, h2 c1⟩, fun q => absurd c1 q⟩⟩⟩⟩
    · by_cases c2 : (200 : Int32) ≤ x3
      · exact ⟨11, ⟨rfl, ⟨⟨128, rfl, h1⟩, ⟨fun q => absurd q c1, fun _ => ⟨fun _ => ⟨rfl, h3 c1 c2⟩, fun q => absurd c2 q⟩⟩⟩⟩⟩
      · exact ⟨19, ⟨rfl, ⟨⟨128, rfl, h1⟩, ⟨fun q => absurd q c1, fun _ => ⟨fun q => absurd q c2, fun _ => ⟨rfl, ⟨Or.inl ⟨0, 200, Or.inl rfl, rfl, (h4 c1 c2)⟩, ⟨⟨200, rfl, (h4 c1 c2)⟩, ⟨rfl, h5 c1 c2⟩⟩⟩⟩⟩⟩⟩⟩⟩
  · by_cases c1 : x3 < 0
    · exact ⟨8, ⟨rfl, ⟨⟨128, rfl, h1⟩, ⟨fun _ => ⟨rfl, h2 c1⟩, fun q => absurd c1 q⟩⟩⟩⟩
    · by_cases c2 : (200 : Int32) ≤ x3
      · exact ⟨11, ⟨rfl, ⟨⟨128, rfl, h1⟩, ⟨fun q => absurd q c1, fun _ => ⟨fun _ => ⟨rfl, h3 c1 c2⟩, fun q => absurd c2 q⟩⟩⟩⟩⟩
      · exact ⟨19, ⟨rfl, ⟨⟨128, rfl, h1⟩, ⟨fun q => absurd q c1, fun _ => ⟨fun q => absurd q c2, fun _ => ⟨rfl, ⟨Or.inl ⟨0, 200, Or.inl rfl, rfl, (h4 c1 c2)⟩, ⟨⟨200, rfl, (h4 c1 c2)⟩, ⟨rfl, h5 c1 c2⟩⟩⟩⟩⟩⟩⟩⟩⟩
set_option maxRecDepth 20000 in
theorem sg_332_0 {x0 : Int32} {M : px_Mem} {Q : px_Po} (h1 : Q (some (.int ((((((((x0 - (((x0.toUInt32 >>> ((1 : Int32).toUInt32 &&& Int32.toUInt32 31)).toInt32) &&& 1431655765)) &&& 858993459) + ((((x0 - (((x0.toUInt32 >>> ((1 : Int32).toUInt32 &&& Int32.toUInt32 31)).toInt32) &&& 1431655765)).toUInt32 >>> ((2 : Int32).toUInt32 &&& Int32.toUInt32 31)).toInt32) &&& 858993459)) + (((((x0 - (((x0.toUInt32 >>> ((1 : Int32).toUInt32 &&& Int32.toUInt32 31)).toInt32) &&& 1431655765)) &&& 858993459) + ((((x0 - (((x0.toUInt32 >>> ((1 : Int32).toUInt32 &&& Int32.toUInt32 31)).toInt32) &&& 1431655765)).toUInt32 >>> ((2 : Int32).toUInt32 &&& Int32.toUInt32 31)).toInt32) &&& 858993459)).toUInt32 >>> ((4 : Int32).toUInt32 &&& Int32.toUInt32 31)).toInt32)) &&& 252645135) + (((((((x0 - (((x0.toUInt32 >>> ((1 : Int32).toUInt32 &&& Int32.toUInt32 31)).toInt32) &&& 1431655765)) &&& 858993459) + ((((x0 - (((x0.toUInt32 >>> ((1 : Int32).toUInt32 &&& Int32.toUInt32 31)).toInt32) &&& 1431655765)).toUInt32 >>> ((2 : Int32).toUInt32 &&& Int32.toUInt32 31)).toInt32) &&& 858993459)) + (((((x0 - (((x0.toUInt32 >>> ((1 : Int32).toUInt32 &&& Int32.toUInt32 31)).toInt32) &&& 1431655765)) &&& 858993459) + ((((x0 - (((x0.toUInt32 >>> ((1 : Int32).toUInt32 &&& Int32.toUInt32 31)).toInt32) &&& 1431655765)).toUInt32 >>> ((2 : Int32).toUInt32 &&& Int32.toUInt32 31)).toInt32) &&& 858993459)).toUInt32 >>> ((4 : Int32).toUInt32 &&& Int32.toUInt32 31)).toInt32)) &&& 252645135).toUInt32 >>> ((8 : Int32).toUInt32 &&& Int32.toUInt32 31)).toInt32)) + ((((((((x0 - (((x0.toUInt32 >>> ((1 : Int32).toUInt32 &&& Int32.toUInt32 31)).toInt32) &&& 1431655765)) &&& 858993459) + ((((x0 - (((x0.toUInt32 >>> ((1 : Int32).toUInt32 &&& Int32.toUInt32 31)).toInt32) &&& 1431655765)).toUInt32 >>> ((2 : Int32).toUInt32 &&& Int32.toUInt32 31)).toInt32) &&& 858993459)) + (((((x0 - (((x0.toUInt32 >>> ((1 : Int32).toUInt32 &&& Int32.toUInt32 31)).toInt32) &&& 1431655765)) &&& 858993459) + ((((x0 - (((x0.toUInt32 >>> ((1 : Int32).toUInt32 &&& Int32.toUInt32 31)).toInt32) &&& 1431655765)).toUInt32 >>> ((2 : Int32).toUInt32 &&& Int32.toUInt32 31)).toInt32) &&& 858993459)).toUInt32 >>> ((4 : Int32).toUInt32 &&& Int32.toUInt32 31)).toInt32)) &&& 252645135) + (((((((x0 - (((x0.toUInt32 >>> ((1 : Int32).toUInt32 &&& Int32.toUInt32 31)).toInt32) &&& 1431655765)) &&& 858993459) + ((((x0 - (((x0.toUInt32 >>> ((1 : Int32).toUInt32 &&& Int32.toUInt32 31)).toInt32) &&& 1431655765)).toUInt32 >>> ((2 : Int32).toUInt32 &&& Int32.toUInt32 31)).toInt32) &&& 858993459)) + (((((x0 - (((x0.toUInt32 >>> ((1 : Int32).toUInt32 &&& Int32.toUInt32 31)).toInt32) &&& 1431655765)) &&& 858993459) + ((((x0 - (((x0.toUInt32 >>> ((1 : Int32).toUInt32 &&& Int32.toUInt32 31)).toInt32) &&& 1431655765)).toUInt32 >>> ((2 : Int32).toUInt32 &&& Int32.toUInt32 31)).toInt32) &&& 858993459)).toUInt32 >>> ((4 : Int32).toUInt32 &&& Int32.toUInt32 31)).toInt32)) &&& 252645135).toUInt32 >>> ((8 : Int32).toUInt32 &&& Int32.toUInt32 31)).toInt32)).toUInt32 >>> ((16 : Int32).toUInt32 &&& Int32.toUInt32 31)).toInt32)) &&& 63))) M) : px_T 0 332 0 [some (.int x0)] [] M Q := by
  exact ⟨42, ⟨trivial, h1⟩⟩
theorem sg_333_0 {x0 : Nat} {npx_rfx00 : Nat} {M : px_Mem} {Q : px_Po} (h1 : px_sh 0 x0 = some (.inl 12)) (h2 : px_sh 0 (px_rf x0 0) = some (.inr (2, npx_rfx00))) (h3 : px_T 0 335 0 [some (.ref x0)] [] M (fun r M1 => px_T 0 333 9 [some (.ref x0)] (r.toList ++ [.int (Int32.ofNat npx_rfx00)]) M1 Q)) : px_T 0 333 0 [some (.ref x0)] [] M Q := by
  obtain ⟨n, h⟩ := px_T_cl (k := 333) (pc := 6) (y := 335) (st := [.ref x0, .int (Int32.ofNat npx_rfx00)]) rfl (h3)
  exact ⟨n + 5, ⟨h1, (Or.inl ⟨2, npx_rfx00, h2, (by decide), ⟨h1, h⟩⟩)⟩⟩
theorem sg_333_9 {d0 : Option Value} {s0 : Int32} {s1 : Int32} {M : px_Mem} {Q : px_Po} (h1 : Q (some (.int (s1 >>> (s0 &&& 31)))) M) : px_T 0 333 9 [d0] [.int s0, .int s1] M Q := by
  exact ⟨2, ⟨trivial, h1⟩⟩
theorem sg_334_0 {x0 : Nat} {x1 : Int32} {M : px_Mem} {Q : px_Po} (h1 : px_T 0 336 0 [some (.ref x0)] [] M (fun r M1 => px_T 0 334 4 [some (.ref x0), some (.int x1)] (r.toList ++ []) M1 Q)) (h2 : px_sh 0 x0 = some (.inl 12)) : px_T 0 334 0 [some (.ref x0), some (.int x1)] [] M Q := by
  obtain ⟨n, h⟩ := px_T_cl (k := 334) (pc := 1) (y := 336) (st := [.ref x0]) rfl (h1)
  exact ⟨n + 2, ⟨h2, h⟩⟩
theorem sg_334_4 {x0 : Nat} {x1 : Int32} {s0 : Int32} {M : px_Mem} {Q : px_Po} (h1 : (s0 = 0) → px_sh 0 x0 = some (.inl 12)) (h2 : (s0 = 0) → False) (h3 : (¬ (s0 = 0)) → px_sh 0 x0 = some (.inl 12)) (h4 : (¬ (s0 = 0)) → px_T 0 338 0 [some (.ref (px_rf x0 0)), some (.int x1)] [] M (fun r M1 => px_T 0 334 15 [some (.ref x0), some (.int x1)] (r.toList ++ []) M1 Q)) : px_T 0 334 4 [some (.ref x0), some (.int x1)] [.int s0] M Q := by
  by_cases c1 : s0 = 0
  · exact (h2 c1).elim
  · obtain ⟨n, h⟩ := px_T_cl (k := 334) (pc := 12) (y := 338) (st := [.int x1, .ref (px_rf x0 0)]) rfl (h4 c1)
    exact ⟨n + 5, ⟨fun q => absurd q c1, fun _ => ⟨(h3 c1), h⟩⟩⟩
theorem sg_334_15 {d0 : Option Value} {d1 : Option Value} {s0 : Int32} {M : px_Mem} {Q : px_Po} (h1 : narrow .char (.int s0) = .int s0) (h2 : Q (some (.int s0)) M) : px_T 0 334 15 [d0, d1] [.int s0] M Q := by
  exact ⟨1, ⟨h1, h2⟩⟩
theorem sg_335_0 {x0 : Nat} {M : px_Mem} {Q : px_Po} (h1 : px_sh 0 x0 = some (.inl 12)) (h2 : narrow .byte (.int (M.1 x0 1)) = .int (M.1 x0 1)) (h3 : Q (some (.int (M.1 x0 1))) M) : px_T 0 335 0 [some (.ref x0)] [] M Q := by
  exact ⟨6, ⟨rfl, ⟨fun q => absurd q (by decide), fun _ => ⟨h1, ⟨h2, h3⟩⟩⟩⟩⟩
theorem sg_336_0 {x0 : Nat} {M : px_Mem} {Q : px_Po} (h1 : px_sh 0 x0 = some (.inl 12)) (h2 : ((M.1 x0 1) = 0) → Q (some (.int 1)) M) (h3 : (¬ ((M.1 x0 1) = 0)) → Q (some (.int 0)) M) : px_T 0 336 0 [some (.ref x0)] [] M Q := by
  by_cases c1 : (M.1 x0 1) = 0
  · exact ⟨8, ⟨rfl, ⟨fun q => absurd q (by decide), fun _ => ⟨h1, ⟨fun q => absurd c1 q, fun _ => ⟨Or.inr rfl, h2 c1⟩⟩⟩⟩⟩⟩
  · exact ⟨7, ⟨rfl, ⟨fun q => absurd q (by decide), fun _ => ⟨h1, ⟨fun _ => ⟨Or.inl rfl, h3 c1⟩, fun q => absurd q c1⟩⟩⟩⟩⟩
theorem sg_337_0 {x0 : Int32} {x1 : Int32} {M : px_Mem} {Q : px_Po} (h1 : px_T 0 341 0 [some (.int x0), some (.int x1), some (.ref 1003)] [] M (fun r M1 => px_T 0 337 8 [some (.int x0), some (.int x1)] (r.toList ++ []) M1 Q)) : px_T 0 337 0 [some (.int x0), some (.int x1)] [] M Q := by
  obtain ⟨n, h⟩ := px_T_cl (k := 337) (pc := 5) (y := 341) (st := [.ref 1003, .int x1, .int x0]) rfl (h1)
  exact ⟨n + 4, ⟨rfl, h⟩⟩
theorem sg_337_8 {d0 : Option Value} {d1 : Option Value} {s0 : Int32} {M : px_Mem} {Q : px_Po} (h1 : Q none M) : px_T 0 337 8 [d0, d1] [.int s0] M Q := by
  exact ⟨2, ⟨rfl, h1⟩⟩
theorem sg_338_0 {x0 : Nat} {x1 : Int32} {nx0 : Nat} {M : px_Mem} {Q : px_Po} (h1 : px_sh 0 x0 = some (.inr (2, nx0))) (h2 : px_T 0 337 0 [some (.int x1), some (.int (Int32.ofNat nx0))] [] M (fun r M1 => px_T 0 338 6 [some (.ref x0), some (.int x1)] (r.toList ++ []) M1 Q)) : px_T 0 338 0 [some (.ref x0), some (.int x1)] [] M Q := by
  obtain ⟨n, h⟩ := px_T_cl (k := 338) (pc := 3) (y := 337) (st := [.int (Int32.ofNat nx0), .int x1]) rfl (h2)
  exact ⟨n + 4, (Or.inl ⟨2, nx0, h1, (by decide), h⟩)⟩
theorem sg_338_6 {x0 : Nat} {x1 : Int32} {M : px_Mem} {Q : px_Po} (h1 : px_ba 0 x0 x1) (h2 : narrow .char (.int ((((M.1 x0 x1.toNatClampNeg) &&& 255).toUInt32 % 65536).toInt32)) = .int ((((M.1 x0 x1.toNatClampNeg) &&& 255).toUInt32 % 65536).toInt32)) (h3 : Q (some (.int ((((M.1 x0 x1.toNatClampNeg) &&& 255).toUInt32 % 65536).toInt32))) M) : px_T 0 338 6 [some (.ref x0), some (.int x1)] [] M Q := by
  exact ⟨7, ⟨h1, ⟨h2, h3⟩⟩⟩
theorem sg_339_0 {x0 : Nat} {x1 : Int64} {nx0 : Nat} {M : px_Mem} {Q : px_Po} (h1 : px_sh 0 x0 = some (.inr (1, nx0))) (h2 : px_T 0 339 6 [some (.ref x0), some (.long x1), none, some (.int 0), some (.int (Int32.ofNat nx0))] [] M Q) : px_T 0 339 0 [some (.ref x0), some (.long x1), none, none, none] [] M Q := by
  obtain ⟨n, h⟩ := h2
  exact ⟨n + 5, (Or.inl ⟨1, nx0, h1, (by decide), h⟩)⟩
theorem sg_339_6 {x0 : Nat} {x1 : Int64} {x3 : Int32} {x4 : Int32} {M : px_Mem} {Q : px_Po} (h1 : (x4 ≤ x3) → Q none M) (h2 : (¬ (x4 ≤ x3)) → px_at 0 1 x0 x3) (h3 : (¬ (x4 ≤ x3)) → px_T 0 339 6 [some (.ref x0), some (.long x1), none, some (.int (x3 + 1)), some (.int x4)] [] (px_wL M x0 x3.toNatClampNeg x1) Q) : px_T 0 339 6 [some (.ref x0), some (.long x1), none, some (.int x3), some (.int x4)] [] M Q := by
  by_cases c1 : x4 ≤ x3
  · exact ⟨4, ⟨fun _ => ⟨rfl, h1 c1⟩, fun q => absurd c1 q⟩⟩
  · obtain ⟨n, h⟩ := h3 c1
    exact ⟨n + 9, ⟨fun q => absurd q c1, fun _ => ⟨(h2 c1), h⟩⟩⟩
theorem sg_340_0 {g : Nat} {x0 : Nat} {x1 : Int32} {nx0 : Nat} {M : px_Mem} {Q : px_Po} (h1 : px_sh g x0 = some (.inr (0, nx0))) (h2 : px_T g 340 5 [some (.ref x0), some (.int x1), some (.int 0), some (.int (Int32.ofNat nx0))] [] M Q) : px_T g 340 0 [some (.ref x0), some (.int x1), none, none] [] M Q := by
  obtain ⟨n, h⟩ := h2
  exact ⟨n + 5, (Or.inl ⟨0, nx0, h1, (by decide), h⟩)⟩
theorem sg_340_5 {g : Nat} {x0 : Nat} {x1 : Int32} {x2 : Int32} {x3 : Int32} {M : px_Mem} {Q : px_Po} (h1 : (x3 ≤ x2) → Q none M) (h2 : (¬ (x3 ≤ x2)) → px_at g 0 x0 x2) (h3 : (¬ (x3 ≤ x2)) → px_T g 340 5 [some (.ref x0), some (.int x1), some (.int (x2 + 1)), some (.int x3)] [] (px_wI M x0 x2.toNatClampNeg x1) Q) : px_T g 340 5 [some (.ref x0), some (.int x1), some (.int x2), some (.int x3)] [] M Q := by
  by_cases c1 : x3 ≤ x2
  · exact ⟨4, ⟨fun _ => ⟨rfl, h1 c1⟩, fun q => absurd c1 q⟩⟩
  · obtain ⟨n, h⟩ := h3 c1
    exact ⟨n + 9, ⟨fun q => absurd q c1, fun _ => ⟨(h2 c1), h⟩⟩⟩
theorem sg_341_0 {x0 : Int32} {x1 : Int32} {x2 : Nat} {M : px_Mem} {Q : px_Po} (h1 : (x0 < 0) → False) (h2 : (¬ (x0 < 0)) → (x0 < x1) → Q (some (.int x0)) M) (h3 : (¬ (x0 < 0)) → (¬ (x0 < x1)) → False) : px_T 0 341 0 [some (.int x0), some (.int x1), some (.ref x2)] [] M Q := by
  by_cases c1 : x0 < 0
  · exact (h1 c1).elim
  · by_cases c2 : x0 < x1
    · exact ⟨7, ⟨fun q => absurd q c1, fun _ => ⟨fun _ => ⟨trivial, h2 c1 c2⟩, fun q => absurd c2 q⟩⟩⟩
    · exact (h3 c1 c2).elim
