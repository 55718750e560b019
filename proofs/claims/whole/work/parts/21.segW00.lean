theorem sg_60_0 {g : Nat} {x0 : Nat} {M : px_Mem} {Q : px_Po} (h1 : px_sh g x0 = some (.inl 9)) (h2 : px_T g 340 0 [some (.ref (px_rf x0 3)), some (.int 0), none, none] [] (px_wI (px_wI (px_wI M x0 0 1) x0 2 1) x0 1 0) (fun r M1 => px_T g 60 23 [some (.ref x0)] (r.toList ++ []) M1 Q)) : px_T g 60 0 [some (.ref x0)] [] M Q := by
  obtain ⟨n, h⟩ := px_T_cl (k := 60) (pc := 20) (y := 340) (st := [.int 0, .ref (px_rf x0 3)]) rfl (h2)
  exact ⟨n + 13, ⟨h1, ⟨h1, ⟨h1, ⟨h1, h⟩⟩⟩⟩⟩
theorem sg_60_23 {g : Nat} {x0 : Nat} {M : px_Mem} {Q : px_Po} (h1 : px_sh g x0 = some (.inl 9)) (h2 : px_T g 340 0 [some (.ref (px_rf x0 4)), some (.int 0), none, none] [] M (fun r M1 => px_T g 60 31 [some (.ref x0)] (r.toList ++ []) M1 Q)) : px_T g 60 23 [some (.ref x0)] [] M Q := by
  obtain ⟨n, h⟩ := px_T_cl (k := 60) (pc := 28) (y := 340) (st := [.int 0, .ref (px_rf x0 4)]) rfl (h2)
  exact ⟨n + 4, ⟨h1, h⟩⟩
theorem sg_60_31 {g : Nat} {x0 : Nat} {M : px_Mem} {Q : px_Po} (h1 : px_sh g x0 = some (.inl 9)) (h2 : px_at g 0 (px_rf x0 4) 1) (h3 : px_T g 340 0 [some (.ref (px_rf x0 5)), some (.int 0), none, none] [] (px_wI M (px_rf x0 4) 1 1) (fun r M1 => px_T g 60 46 [some (.ref x0)] (r.toList ++ []) M1 Q)) : px_T g 60 31 [some (.ref x0)] [] M Q := by
  obtain ⟨n, h⟩ := px_T_cl (k := 60) (pc := 43) (y := 340) (st := [.int 0, .ref (px_rf x0 5)]) rfl (h3)
  exact ⟨n + 9, ⟨h1, ⟨h2, ⟨h1, h⟩⟩⟩⟩
theorem sg_60_46 {g : Nat} {x0 : Nat} {M : px_Mem} {Q : px_Po} (h1 : px_sh g x0 = some (.inl 9)) (h2 : px_T g 340 0 [some (.ref (px_rf x0 6)), some (.int (-1)), none, none] [] M (fun r M1 => px_T g 60 54 [some (.ref x0)] (r.toList ++ []) M1 Q)) : px_T g 60 46 [some (.ref x0)] [] M Q := by
  obtain ⟨n, h⟩ := px_T_cl (k := 60) (pc := 51) (y := 340) (st := [.int (-1), .ref (px_rf x0 6)]) rfl (h2)
  exact ⟨n + 4, ⟨h1, h⟩⟩
theorem sg_60_54 {g : Nat} {x0 : Nat} {M : px_Mem} {Q : px_Po} (h1 : px_sh g x0 = some (.inl 9)) (h2 : px_T g 340 0 [some (.ref (px_rf x0 8)), some (.int 0), none, none] [] M (fun r M1 => px_T g 60 62 [some (.ref x0)] (r.toList ++ []) M1 Q)) : px_T g 60 54 [some (.ref x0)] [] M Q := by
  obtain ⟨n, h⟩ := px_T_cl (k := 60) (pc := 59) (y := 340) (st := [.int 0, .ref (px_rf x0 8)]) rfl (h2)
  exact ⟨n + 4, ⟨h1, h⟩⟩
theorem sg_60_62 {g : Nat} {d0 : Option Value} {M : px_Mem} {Q : px_Po} (h1 : Q none M) : px_T g 60 62 [d0] [] M Q := by
  exact ⟨1, ⟨rfl, h1⟩⟩
set_option maxRecDepth 20000 in
theorem sg_61_0 {x0 : Nat} {x1 : Nat} {M : px_Mem} {Q : px_Po} (h_x0 : px_isW x0) (h_x1 : px_isW x1) (h1 : Q none (px_aI (px_aI (px_aI (px_aI (px_aI (px_aI (px_aI (px_wI (px_wI (px_wI M x0 0 (M.1 x1 0)) x0 2 ((px_wI M x0 0 (M.1 x1 0)).1 x1 2)) x0 1 ((px_wI (px_wI M x0 0 (M.1 x1 0)) x0 2 ((px_wI M x0 0 (M.1 x1 0)).1 x1 2)).1 x1 1)) (x0 + 1) (va_cpy (M.1 (x1 + 1)) (M.1 (x0 + 1)) 0 0 16)) (x0 + 2) (va_cpy (M.1 (x1 + 2)) (M.1 (x0 + 2)) 0 0 16)) (x0 + 3) (va_cpy (M.1 (x1 + 3)) (M.1 (x0 + 3)) 0 0 16)) (x0 + 4) (va_cpy (M.1 (x1 + 4)) (M.1 (x0 + 4)) 0 0 128)) (x0 + 5) (va_cpy (M.1 (x1 + 5)) (M.1 (x0 + 5)) 0 0 200)) (x0 + 6) (va_cpy (M.1 (x1 + 6)) (M.1 (x0 + 6)) 0 0 200)) (x0 + 7) (va_cpy (M.1 (x1 + 7)) (M.1 (x0 + 7)) 0 0 200))) : px_T 0 61 0 [some (.ref x0), some (.ref x1)] [] M Q := by
  rcases h_x0 with rfl | rfl
  · rcases h_x1 with rfl | rfl
    · exact ⟨83, ⟨rfl, ⟨rfl, ⟨rfl, ⟨rfl, ⟨rfl, ⟨rfl, ⟨rfl, ⟨rfl, ⟨rfl, (Or.inl ⟨0, 16, rfl, (by decide), ⟨(by decide), (by decide), (by decide), Or.inl ⟨⟨16, 16, rfl, rfl, (by decide), (by decide), (by decide), (by decide), (by decide)⟩, ⟨rfl, ⟨rfl, ⟨rfl, (Or.inl ⟨0, 16, rfl, (by decide), ⟨(by decide), (by decide), (by decide), Or.inl ⟨⟨16, 16, rfl, rfl, (by decide), (by decide), (by decide), (by decide), (by decide)⟩, ⟨rfl, ⟨rfl, ⟨rfl, (Or.inl ⟨0, 16, rfl, (by decide), ⟨(by decide), (by decide), (by decide), Or.inl ⟨⟨16, 16, rfl, rfl, (by decide), (by decide), (by decide), (by decide), (by decide)⟩, ⟨rfl, ⟨rfl, ⟨rfl, (Or.inl ⟨0, 128, rfl, (by decide), ⟨(by decide), (by decide), (by decide), Or.inl ⟨⟨128, 128, rfl, rfl, (by decide), (by decide), (by decide), (by decide), (by decide)⟩, ⟨rfl, ⟨rfl, ⟨rfl, (Or.inl ⟨0, 200, rfl, (by decide), ⟨(by decide), (by decide), (by decide), Or.inl ⟨⟨200, 200, rfl, rfl, (by decide), (by decide), (by decide), (by decide), (by decide)⟩, ⟨rfl, ⟨rfl, ⟨rfl, (Or.inl ⟨0, 200, rfl, (by decide), ⟨(by decide), (by decide), (by decide), Or.inl ⟨⟨200, 200, rfl, rfl, (by decide), (by decide), (by decide), (by decide), (by decide)⟩, ⟨rfl, ⟨rfl, ⟨rfl, (Or.inl ⟨0, 200, rfl, (by decide), ⟨(by decide), (by decide), (by decide), Or.inl ⟨⟨200, 200, rfl, rfl, (by decide), (by decide), (by decide), (by decide), (by decide)⟩, ⟨rfl, h1⟩⟩⟩⟩)⟩⟩⟩⟩⟩⟩)⟩⟩⟩⟩⟩⟩)⟩⟩⟩⟩⟩⟩)⟩⟩⟩⟩⟩⟩)⟩⟩⟩⟩⟩⟩)⟩⟩⟩⟩⟩⟩)⟩⟩⟩⟩⟩⟩⟩⟩⟩⟩
    · exact ⟨83, ⟨rfl, ⟨rfl, ⟨rfl, ⟨rfl, ⟨rfl, ⟨rfl, ⟨rfl, ⟨rfl, ⟨rfl, (Or.inl ⟨0, 16, rfl, (by decide), ⟨(by decide), (by decide), (by decide), Or.inl ⟨⟨16, 16, rfl, rfl, (by decide), (by decide), (by decide), (by decide), (by decide)⟩, ⟨rfl, ⟨rfl, ⟨rfl, (Or.inl ⟨0, 16, rfl, (by decide), ⟨(by decide), (by decide), (by decide), Or.inl ⟨⟨16, 16, rfl, rfl, (by decide), (by decide), (by decide), (by decide), (by decide)⟩, ⟨rfl, ⟨rfl, ⟨rfl, (Or.inl ⟨0, 16, rfl, (by decide), ⟨(by decide), (by decide), (by decide), Or.inl ⟨⟨16, 16, rfl, rfl, (by decide), (by decide), (by decide), (by decide), (by decide)⟩, ⟨rfl, ⟨rfl, ⟨rfl, (Or.inl ⟨0, 128, rfl, (by decide), ⟨(by decide), (by decide), (by decide), Or.inl ⟨⟨128, 128, rfl, rfl, (by decide), (by decide), (by decide), (by decide), (by decide)⟩, ⟨rfl, ⟨rfl, ⟨rfl, (Or.inl ⟨0, 200, rfl, (by decide), ⟨(by decide), (by decide), (by decide), Or.inl ⟨⟨200, 200, rfl, rfl, (by decide), (by decide), (by decide), (by decide), (by decide)⟩, ⟨rfl, ⟨rfl, ⟨rfl, (Or.inl ⟨0, 200, rfl, (by decide), ⟨(by decide), (by decide), (by decide), Or.inl ⟨⟨200, 200, rfl, rfl, (by decide), (by decide), (by decide), (by decide), (by decide)⟩, ⟨rfl, ⟨rfl, ⟨rfl, (Or.inl ⟨0, 200, rfl, (by decide), ⟨(by decide), (by decide), (by decide), Or.inl ⟨⟨200, 200, rfl, rfl, (by decide), (by decide), (by decide), (by decide), (by decide)⟩, ⟨rfl, h1⟩⟩⟩⟩)⟩⟩⟩⟩⟩⟩)⟩⟩⟩⟩⟩⟩)⟩⟩⟩⟩⟩⟩)⟩⟩⟩⟩⟩⟩)⟩⟩⟩⟩⟩⟩)⟩⟩⟩⟩⟩⟩)⟩⟩⟩⟩⟩⟩⟩⟩⟩⟩
  · rcases h_x1 with rfl | rfl
    · exact ⟨83, ⟨rfl, ⟨rfl, ⟨rfl, ⟨rfl, ⟨rfl, ⟨rfl, ⟨rfl, ⟨rfl, ⟨rfl, (Or.inl ⟨0, 16, rfl, (by decide), ⟨(by decide), (by decide), (by decide), Or.inl ⟨⟨16, 16, rfl, rfl, (by decide), (by decide), (by decide), (by decide), (by decide)⟩, ⟨rfl, ⟨rfl, ⟨rfl, (Or.inl ⟨0, 16, rfl, (by decide), ⟨(by decide), (by decide), (by decide), Or.inl ⟨⟨16, 16, rfl, rfl, (by decide), (by decide), (by decide), (by decide), (by decide)⟩, ⟨rfl, ⟨rfl, ⟨rfl, (Or.inl ⟨0, 16, rfl, (by decide), ⟨(by decide), (by decide), (by decide), Or.inl ⟨⟨16, 16, rfl, rfl, (by decide), (by decide), (by decide), (by decide), (by decide)⟩, ⟨rfl, ⟨rfl, ⟨rfl, (Or.inl ⟨0, 128, rfl, (by decide), ⟨(by decide), (by decide), (by decide), Or.inl ⟨⟨128, 128, rfl, rfl, (by decide), (by decide), (by decide), (by decide), (by decide)⟩, ⟨rfl, ⟨rfl, ⟨rfl, (Or.inl ⟨0, 200, rfl, (by decide), ⟨(by decide), (by decide), (by decide), Or.inl ⟨⟨200, 200, rfl, rfl, (by decide), (by decide), (by decide), (by decide), (by decide)⟩, ⟨rfl, ⟨rfl, ⟨rfl, (Or.inl ⟨0, 200, rfl, (by decide), ⟨(by decide), (by decide), (by decide), Or.inl ⟨⟨200, 200, rfl, rfl, (by decide), (by decide), (by decide), (by decide), (by decide)⟩, ⟨rfl, ⟨rfl, ⟨rfl, (Or.inl ⟨0, 200, rfl, (by decide), ⟨(by decide), (by decide), (by decide), Or.inl ⟨⟨200, 200, rfl, rfl, (by decide), (by decide), (by decide), (by decide), (by decide)⟩, ⟨rfl, h1⟩⟩⟩⟩)⟩⟩⟩⟩⟩⟩)⟩⟩⟩⟩⟩⟩)⟩⟩⟩⟩⟩⟩)⟩⟩⟩⟩⟩⟩)⟩⟩⟩⟩⟩⟩)⟩⟩⟩⟩⟩⟩)⟩⟩⟩⟩⟩⟩⟩⟩⟩⟩
    · exact ⟨83, ⟨rfl, ⟨rfl, ⟨rfl, ⟨rfl, ⟨rfl, ⟨rfl, ⟨rfl, ⟨rfl, ⟨rfl, (Or.inl ⟨0, 16, rfl, (by decide), ⟨(by decide), (by decide), (by decide), Or.inl ⟨⟨16, 16, rfl, rfl, (by decide), (by decide), (by decide), (by decide), (by decide)⟩, ⟨rfl, ⟨rfl, ⟨rfl, (Or.inl ⟨0, 16, rfl, (by decide), ⟨(by decide), (by decide), (by decide), Or.inl ⟨⟨16, 16, rfl, rfl, (by decide), (by decide), (by decide), (by decide), (by decide)⟩, ⟨rfl, ⟨rfl, ⟨rfl, (Or.inl ⟨0, 16, rfl, (by decide), ⟨(by decide), (by decide), (by decide), Or.inl ⟨⟨16, 16, rfl, rfl, (by decide), (by decide), (by decide), (by decide), (by decide)⟩, ⟨rfl, ⟨rfl, ⟨rfl, (Or.inl ⟨0, 128, rfl, (by decide), ⟨(by decide), (by decide), (by decide), Or.inl ⟨⟨128, 128, rfl, rfl, (by decide), (by decide), (by decide), (by decide), (by decide)⟩, ⟨rfl, ⟨rfl, ⟨rfl, (Or.inl ⟨0, 200, rfl, (by decide), ⟨(by decide), (by decide), (by decide), Or.inl ⟨⟨200, 200, rfl, rfl, (by decide), (by decide), (by decide), (by decide), (by decide)⟩, ⟨rfl, ⟨rfl, ⟨rfl, (Or.inl ⟨0, 200, rfl, (by decide), ⟨(by decide), (by decide), (by decide), Or.inl ⟨⟨200, 200, rfl, rfl, (by decide), (by decide), (by decide), (by decide), (by decide)⟩, ⟨rfl, ⟨rfl, ⟨rfl, (Or.inl ⟨0, 200, rfl, (by decide), ⟨(by decide), (by decide), (by decide), Or.inl ⟨⟨200, 200, rfl, rfl, (by decide), (by decide), (by decide), (by decide), (by decide)⟩, ⟨rfl, h1⟩⟩⟩⟩)⟩⟩⟩⟩⟩⟩)⟩⟩⟩⟩⟩⟩)⟩⟩⟩⟩⟩⟩)⟩⟩⟩⟩⟩⟩)⟩⟩⟩⟩⟩⟩)⟩⟩⟩⟩⟩⟩)⟩⟩⟩⟩⟩⟩⟩⟩⟩⟩
theorem sg_62_0 {x0 : Nat} {M : px_Mem} {Q : px_Po} (h_x0 : px_isW x0) (h1 : px_T 0 340 0 [some (.ref (x0 + 3)), some (.int 0), none, none] [] M (fun r M1 => px_T 0 62 8 [some (.ref x0)] (r.toList ++ []) M1 Q)) : px_T 0 62 0 [some (.ref x0)] [] M Q := by
  rcases h_x0 with rfl | rfl
  · obtain ⟨n, h⟩ := px_T_cl (k := 62) (pc := 5) (y := 340) (st := [.int 0, .ref (29 + 3)]) rfl (h1)
    exact ⟨n + 4, ⟨rfl, h⟩⟩
  · obtain ⟨n, h⟩ := px_T_cl (k := 62) (pc := 5) (y := 340) (st := [.int 0, .ref (47 + 3)]) rfl (h1)
    exact ⟨n + 4, ⟨rfl, h⟩⟩
theorem sg_62_8 {d0 : Option Value} {M : px_Mem} {Q : px_Po} (h1 : Q none M) : px_T 0 62 8 [d0] [] M Q := by
  exact ⟨1, ⟨rfl, h1⟩⟩
theorem sg_63_0 {x0 : Nat} {x1 : Int32} {M : px_Mem} {Q : px_Po} (h_x0 : px_isW x0) (h1 : (x1 < 1) → Q (some (.int 0)) M) (h2 : (¬ (x1 < 1)) → ((15 : Int32) < x1) → Q (some (.int 0)) M) (h3 : (¬ (x1 < 1)) → (¬ ((15 : Int32) < x1)) → ((((M.1 x0 0) >>> ((x1 - 1) &&& 31)) &&& 1) = 0) → Q (some (.int 0)) M) (h4 : (¬ (x1 < 1)) → (¬ ((15 : Int32) < x1)) → (¬ ((((M.1 x0 0) >>> ((x1 - 1) &&& 31)) &&& 1) = 0)) → Q (some (.int 1)) M) : px_T 0 63 0 [some (.ref x0), some (.int x1)] [] M Q := by
  rcases h_x0 with rfl | rfl
  · by_cases c1 : x1 < 1
    · exact ⟨5, ⟨fun _ => ⟨Or.inl rfl, h1 c1⟩, fun q => absurd c1 q⟩⟩
    · by_cases c2 : (15 : Int32) < x1
      · exact ⟨8, ⟨fun q => absurd q c1, fun _ => ⟨fun _ => ⟨Or.inl rfl, h2 c1 c2⟩, fun q => absurd c2 q⟩⟩⟩
      · by_cases c3 : (((M.1 29 0) >>> ((x1 - 1) &&& 31)) &&& 1) = 0
        · exact ⟨17, ⟨fun q => absurd q c1, fun _ => ⟨fun q => absurd q c2, fun _ => ⟨rfl, ⟨fun _ => ⟨Or.inl rfl, h3 c1 c2 c3⟩, fun q => absurd c3 q⟩⟩⟩⟩⟩
        · exact ⟨18, ⟨fun q => absurd q c1, fun _ => ⟨fun q => absurd q c2, fun _ => ⟨rfl, ⟨fun q => absurd q c3, fun _ => ⟨Or.inr rfl, h4 c1 c2 c3⟩⟩⟩⟩⟩⟩
  · by_cases c1 : x1 < 1
    · exact ⟨5, ⟨fun _ => ⟨Or.inl rfl, h1 c1⟩, fun q => absurd c1 q⟩⟩
    · by_cases c2 : (15 : Int32) < x1
      · exact ⟨8, ⟨fun q => absurd q c1, fun _ => ⟨fun _ => ⟨Or.inl rfl, h2 c1 c2⟩, fun q => absurd c2 q⟩⟩⟩
      · by_cases c3 : (((M.1 47 0) >>> ((x1 - 1) &&& 31)) &&& 1) = 0
        · exact ⟨17, ⟨fun q => absurd q c1, fun _ => ⟨fun q => absurd q c2, fun _ => ⟨rfl, ⟨fun _ => ⟨Or.inl rfl, h3 c1 c2 c3⟩, fun q => absurd c3 q⟩⟩⟩⟩⟩
        · exact ⟨18, ⟨fun q => absurd q c1, fun _ => ⟨fun q => absurd q c2, fun _ => ⟨rfl, ⟨fun q => absurd q c3, fun _ => ⟨Or.inr rfl, h4 c1 c2 c3⟩⟩⟩⟩⟩⟩
theorem sg_64_0 {x0 : Nat} {x1 : Int32} {M : px_Mem} {Q : px_Po} (h_x0 : px_isW x0) (h1 : px_T 0 63 0 [some (.ref x0), some (.int x1)] [] M (fun r M1 => px_T 0 64 5 [some (.ref x0), some (.int x1)] (r.toList ++ []) M1 Q)) : px_T 0 64 0 [some (.ref x0), some (.int x1)] [] M Q := by
  rcases h_x0 with rfl | rfl
  · obtain ⟨n, h⟩ := px_T_cl (k := 64) (pc := 2) (y := 63) (st := [.int x1, .ref 29]) rfl (h1)
    exact ⟨n + 3, ⟨rfl, h⟩⟩
  · obtain ⟨n, h⟩ := px_T_cl (k := 64) (pc := 2) (y := 63) (st := [.int x1, .ref 47]) rfl (h1)
    exact ⟨n + 3, ⟨rfl, h⟩⟩
theorem sg_64_5 {x0 : Nat} {x1 : Int32} {s0 : Int32} {M : px_Mem} {Q : px_Po} (h_x0 : px_isW x0) (h1 : (s0 = 0) → Q (some (.int (-1))) M) (h2 : (¬ (s0 = 0)) → vp_in x1 16) (h3 : (¬ (s0 = 0)) → Q (some (.int (M.1 (x0 + 1) x1.toNatClampNeg))) M) : px_T 0 64 5 [some (.ref x0), some (.int x1)] [.int s0] M Q := by
  rcases h_x0 with rfl | rfl
  · by_cases c1 : s0 = 0
    · exact ⟨3, ⟨fun _ => ⟨trivial, h1 c1⟩, fun q => absurd c1 q⟩⟩
    · exact ⟨7, ⟨fun q => absurd q c1, fun _ => ⟨rfl, ⟨Or.inl ⟨0, 16, Or.inl rfl, rfl, (h2 c1)⟩, ⟨trivial, h3 c1⟩⟩⟩⟩⟩
  · by_cases c1 : s0 = 0
    · exact ⟨3, ⟨fun _ => ⟨trivial, h1 c1⟩, fun q => absurd c1 q⟩⟩
    · exact ⟨7, ⟨fun q => absurd q c1, fun _ => ⟨rfl, ⟨Or.inl ⟨0, 16, Or.inl rfl, rfl, (h2 c1)⟩, ⟨trivial, h3 c1⟩⟩⟩⟩⟩
theorem sg_65_0 {x0 : Nat} {x1 : Int32} {M : px_Mem} {Q : px_Po} (h_x0 : px_isW x0) (h1 : px_T 0 65 4 [some (.ref x0), some (.int x1), some (.int 0), some (.int x1)] [] M Q) : px_T 0 65 0 [some (.ref x0), some (.int x1), none, none] [] M Q := by
  rcases h_x0 with rfl | rfl
  · obtain ⟨n, h⟩ := h1
    exact ⟨n + 4, h⟩
  · obtain ⟨n, h⟩ := h1
    exact ⟨n + 4, h⟩
theorem sg_65_4 {x0 : Nat} {d1 : Option Value} {x2 : Int32} {x3 : Int32} {M : px_Mem} {Q : px_Po} (h_x0 : px_isW x0) (h1 : (x3 ≤ 0) → Q (some (.int x2)) M) (h2 : (¬ (x3 ≤ 0)) → ((15 : Int32) < x3) → Q (some (.int x2)) M) (h3 : (¬ (x3 ≤ 0)) → (¬ ((15 : Int32) < x3)) → ((15 : Int32) < x2) → Q (some (.int x2)) M) (h4 : (¬ (x3 ≤ 0)) → (¬ ((15 : Int32) < x3)) → (¬ ((15 : Int32) < x2)) → vp_in x3 16) (h5 : (¬ (x3 ≤ 0)) → (¬ ((15 : Int32) < x3)) → (¬ ((15 : Int32) < x2)) → px_T 0 65 4 [some (.ref x0), d1, some (.int (x2 + 1)), some (.int (M.1 (x0 + 1) x3.toNatClampNeg))] [] M Q) : px_T 0 65 4 [some (.ref x0), d1, some (.int x2), some (.int x3)] [] M Q := by
  rcases h_x0 with rfl | rfl
  · by_cases c1 : x3 ≤ 0
    · exact ⟨4, ⟨fun _ => ⟨trivial, h1 c1⟩, fun q => absurd c1 q⟩⟩
    · by_cases c2 : (15 : Int32) < x3
      · exact ⟨7, ⟨fun q => absurd q c1, fun _ => ⟨fun _ => ⟨trivial, h2 c1 c2⟩, fun q => absurd c2 q⟩⟩⟩
      · by_cases c3 : (15 : Int32) < x2
        · exact ⟨10, ⟨fun q => absurd q c1, fun _ => ⟨fun q => absurd q c2, fun _ => ⟨fun _ => ⟨trivial, h3 c1 c2 c3⟩, fun q => absurd c3 q⟩⟩⟩⟩
        · obtain ⟨n, h⟩ := h5 c1 c2 c3
          exact ⟨n + 15, ⟨fun q => absurd q c1, fun _ => ⟨fun q => absurd q c2, fun _ => ⟨fun q => absurd q c3, fun _ => ⟨rfl, ⟨Or.inl ⟨0, 16, Or.inl rfl, rfl, (h4 c1 c2 c3)⟩, h⟩⟩⟩⟩⟩⟩
  · by_cases c1 : x3 ≤ 0
    · exact ⟨4, ⟨fun _ => ⟨trivial, h1 c1⟩, fun q => absurd c1 q⟩⟩
    · by_cases c2 : (15 : Int32) < x3
      · exact ⟨7, ⟨fun q => absurd q c1, fun _ => ⟨fun _ => ⟨trivial, h2 c1 c2⟩, fun q => absurd c2 q⟩⟩⟩
      · by_cases c3 : (15 : Int32) < x2
        · exact ⟨10, ⟨fun q => absurd q c1, fun _ => ⟨fun q => absurd q c2, fun _ => ⟨fun _ => ⟨trivial, h3 c1 c2 c3⟩, fun q => absurd c3 q⟩⟩⟩⟩
        · obtain ⟨n, h⟩ := h5 c1 c2 c3
          exact ⟨n + 15, ⟨fun q => absurd q c1, fun _ => ⟨fun q => absurd q c2, fun _ => ⟨fun q => absurd q c3, fun _ => ⟨rfl, ⟨Or.inl ⟨0, 16, Or.inl rfl, rfl, (h4 c1 c2 c3)⟩, h⟩⟩⟩⟩⟩⟩
theorem sg_66_0 {x0 : Nat} {x1 : Int32} {x2 : Int32} {M : px_Mem} {Q : px_Po} (h_x0 : px_isW x0) (h1 : px_T 0 66 5 [some (.ref x0), some (.int x1), some (.int x2), some (.int x1), some (.int 0)] [] M Q) : px_T 0 66 0 [some (.ref x0), some (.int x1), some (.int x2), none, none] [] M Q := by
  rcases h_x0 with rfl | rfl
  · obtain ⟨n, h⟩ := h1
    exact ⟨n + 4, h⟩
  · obtain ⟨n, h⟩ := h1
    exact ⟨n + 4, h⟩
theorem sg_66_5 {x0 : Nat} {d1 : Option Value} {x2 : Int32} {x3 : Int32} {x4 : Int32} {M : px_Mem} {Q : px_Po} (h_x0 : px_isW x0) (h1 : ((15 : Int32) < x4) → Q (some (.int 0)) M) (h2 : (¬ ((15 : Int32) < x4)) → (x3 ≤ 0) → Q (some (.int 0)) M) (h3 : (¬ ((15 : Int32) < x4)) → (¬ (x3 ≤ 0)) → ((15 : Int32) < x3) → Q (some (.int 0)) M) (h4 : (¬ ((15 : Int32) < x4)) → (¬ (x3 ≤ 0)) → (¬ ((15 : Int32) < x3)) → vp_in x3 16) (h5 : (¬ ((15 : Int32) < x4)) → (¬ (x3 ≤ 0)) → (¬ ((15 : Int32) < x3)) → ((M.1 (x0 + 1) x3.toNatClampNeg) = x2) → Q (some (.int 1)) M) (h6 : (¬ ((15 : Int32) < x4)) → (¬ (x3 ≤ 0)) → (¬ ((15 : Int32) < x3)) → (¬ ((M.1 (x0 + 1) x3.toNatClampNeg) = x2)) → px_T 0 66 5 [some (.ref x0), d1, some (.int x2), some (.int (M.1 (x0 + 1) x3.toNatClampNeg)), some (.int (x4 + 1))] [] M Q) : px_T 0 66 5 [some (.ref x0), d1, some (.int x2), some (.int x3), some (.int x4)] [] M Q := by
  rcases h_x0 with rfl | rfl
  · by_cases c1 : (15 : Int32) < x4
    · exact ⟨5, ⟨fun _ => ⟨Or.inl rfl, h1 c1⟩, fun q => absurd c1 q⟩⟩
    · by_cases c2 : x3 ≤ 0
      · exact ⟨7, ⟨fun q => absurd q c1, fun _ => ⟨fun _ => ⟨Or.inl rfl, h2 c1 c2⟩, fun q => absurd c2 q⟩⟩⟩
      · by_cases c3 : (15 : Int32) < x3
        · exact ⟨10, ⟨fun q => absurd q c1, fun _ => ⟨fun q => absurd q c2, fun _ => ⟨fun _ => ⟨Or.inl rfl, h3 c1 c2 c3⟩, fun q => absurd c3 q⟩⟩⟩⟩
        · by_cases c4 : (M.1 (29 + 1) x3.toNatClampNeg) = x2
          · exact ⟨18, ⟨fun q => absurd q c1, fun _ => ⟨fun q => absurd q c2, fun _ => ⟨fun q => absurd q c3, fun _ => ⟨rfl, ⟨Or.inl ⟨0, 16, Or.inl rfl, rfl, (h4 c1 c2 c3)⟩, ⟨fun q => absurd c4 q, fun _ => ⟨Or.inr rfl, h5 c1 c2 c3 c4⟩⟩⟩⟩⟩⟩⟩⟩
          · obtain ⟨n, h⟩ := h6 c1 c2 c3 c4
            exact ⟨n + 18, ⟨fun q => absurd q c1, fun _ => ⟨fun q => absurd q c2, fun _ => ⟨fun q => absurd q c3, fun _ => ⟨rfl, ⟨Or.inl ⟨0, 16, Or.inl rfl, rfl, (h4 c1 c2 c3)⟩, ⟨fun _ => h, fun q => absurd q c4⟩⟩⟩⟩⟩⟩⟩
  · by_cases c1 : (15 : Int32) < x4
    · exact ⟨5, ⟨fun _ => ⟨Or.inl rfl, h1 c1⟩, fun q => absurd c1 q⟩⟩
    · by_cases c2 : x3 ≤ 0
      · exact ⟨7, ⟨fun q => absurd q c1, fun _ => ⟨fun _ => ⟨Or.inl rfl, h2 c1 c2⟩, fun q => absurd c2 q⟩⟩⟩
      · by_cases c3 : (15 : Int32) < x3
        · exact ⟨10, ⟨fun q => absurd q c1, fun _ => ⟨fun q => absurd q c2, fun _ => ⟨fun _ => ⟨Or.inl rfl, h3 c1 c2 c3⟩, fun q => absurd c3 q⟩⟩⟩⟩
        · by_cases c4 : (M.1 (47 + 1) x3.toNatClampNeg) = x2
          · exact ⟨18, ⟨fun q => absurd q c1, fun _ => ⟨fun q => absurd q c2, fun _ => ⟨fun q => absurd q c3, fun _ => ⟨rfl, ⟨Or.inl ⟨0, 16, Or.inl rfl, rfl, (h4 c1 c2 c3)⟩, ⟨fun q => absurd c4 q, fun _ => ⟨Or.inr rfl, h5 c1 c2 c3 c4⟩⟩⟩⟩⟩⟩⟩⟩
          · obtain ⟨n, h⟩ := h6 c1 c2 c3 c4
            exact ⟨n + 18, ⟨fun q => absurd q c1, fun _ => ⟨fun q => absurd q c2, fun _ => ⟨fun q => absurd q c3, fun _ => ⟨rfl, ⟨Or.inl ⟨0, 16, Or.inl rfl, rfl, (h4 c1 c2 c3)⟩, ⟨fun _ => h, fun q => absurd q c4⟩⟩⟩⟩⟩⟩⟩
theorem sg_67_0 {x0 : Nat} {x1 : Int32} {M : px_Mem} {Q : px_Po} (h_x0 : px_isW x0) (h1 : px_T 0 67 4 [some (.ref x0), some (.int x1), some (.int 0), some (.int 1)] [] M Q) : px_T 0 67 0 [some (.ref x0), some (.int x1), none, none] [] M Q := by
  rcases h_x0 with rfl | rfl
  · obtain ⟨n, h⟩ := h1
    exact ⟨n + 4, h⟩
  · obtain ⟨n, h⟩ := h1
    exact ⟨n + 4, h⟩
theorem sg_67_4 {x0 : Nat} {x1 : Int32} {x2 : Int32} {x3 : Int32} {M : px_Mem} {Q : px_Po} (h_x0 : px_isW x0) (h1 : ((15 : Int32) < x3) → Q (some (.int x2)) M) (h2 : (¬ ((15 : Int32) < x3)) → px_T 0 63 0 [some (.ref x0), some (.int x3)] [] M (fun r M1 => px_T 0 67 15 [some (.ref x0), some (.int x1), some (.int x2), some (.int x3)] (r.toList ++ []) M1 Q)) : px_T 0 67 4 [some (.ref x0), some (.int x1), some (.int x2), some (.int x3)] [] M Q := by
  rcases h_x0 with rfl | rfl
  · by_cases c1 : (15 : Int32) < x3
    · exact ⟨5, ⟨fun _ => ⟨trivial, h1 c1⟩, fun q => absurd c1 q⟩⟩
    · obtain ⟨n, h⟩ := px_T_cl (k := 67) (pc := 12) (y := 63) (st := [.int x3, .ref 29]) rfl (h2 c1)
      exact ⟨n + 6, ⟨fun q => absurd q c1, fun _ => ⟨rfl, h⟩⟩⟩
  · by_cases c1 : (15 : Int32) < x3
    · exact ⟨5, ⟨fun _ => ⟨trivial, h1 c1⟩, fun q => absurd c1 q⟩⟩
    · obtain ⟨n, h⟩ := px_T_cl (k := 67) (pc := 12) (y := 63) (st := [.int x3, .ref 47]) rfl (h2 c1)
      exact ⟨n + 6, ⟨fun q => absurd q c1, fun _ => ⟨rfl, h⟩⟩⟩
theorem sg_67_15 {x0 : Nat} {x1 : Int32} {x2 : Int32} {x3 : Int32} {s0 : Int32} {M : px_Mem} {Q : px_Po} (h_x0 : px_isW x0) (h1 : (s0 = 0) → px_T 0 67 4 [some (.ref x0), some (.int x1), some (.int x2), some (.int (x3 + 1))] [] M Q) (h2 : (¬ (s0 = 0)) → px_T 0 66 0 [some (.ref x0), some (.int x3), some (.int x1), none, none] [] M (fun r M1 => px_T 0 67 24 [some (.ref x0), some (.int x1), some (.int x2), some (.int x3)] (r.toList ++ []) M1 Q)) : px_T 0 67 15 [some (.ref x0), some (.int x1), some (.int x2), some (.int x3)] [.int s0] M Q := by
  rcases h_x0 with rfl | rfl
  · by_cases c1 : s0 = 0
    · obtain ⟨n, h⟩ := h1 c1
      exact ⟨n + 3, ⟨fun _ => h, fun q => absurd c1 q⟩⟩
    · obtain ⟨n, h⟩ := px_T_cl (k := 67) (pc := 21) (y := 66) (st := [.int x1, .int x3, .ref 29]) rfl (h2 c1)
      exact ⟨n + 5, ⟨fun q => absurd q c1, fun _ => ⟨rfl, h⟩⟩⟩
  · by_cases c1 : s0 = 0
    · obtain ⟨n, h⟩ := h1 c1
      exact ⟨n + 3, ⟨fun _ => h, fun q => absurd c1 q⟩⟩
    · obtain ⟨n, h⟩ := px_T_cl (k := 67) (pc := 21) (y := 66) (st := [.int x1, .int x3, .ref 47]) rfl (h2 c1)
      exact ⟨n + 5, ⟨fun q => absurd q c1, fun _ => ⟨rfl, h⟩⟩⟩
theorem sg_67_24 {x0 : Nat} {x1 : Int32} {x2 : Int32} {x3 : Int32} {s0 : Int32} {M : px_Mem} {Q : px_Po} (h_x0 : px_isW x0) (h1 : (s0 = 0) → px_T 0 67 4 [some (.ref x0), some (.int x1), some (.int x2), some (.int (x3 + 1))] [] M Q) (h2 : (¬ (s0 = 0)) → px_T 0 67 4 [some (.ref x0), some (.int x1), some (.int (x2 + 1)), some (.int (x3 + 1))] [] M Q) : px_T 0 67 24 [some (.ref x0), some (.int x1), some (.int x2), some (.int x3)] [.int s0] M Q := by
  rcases h_x0 with rfl | rfl
  · by_cases c1 : s0 = 0
    · obtain ⟨n, h⟩ := h1 c1
      exact ⟨n + 3, ⟨fun _ => h, fun q => absurd c1 q⟩⟩
    · obtain ⟨n, h⟩ := h2 c1
      exact ⟨n + 4, ⟨fun q => absurd q c1, fun _ => h⟩⟩
  · by_cases c1 : s0 = 0
    · obtain ⟨n, h⟩ := h1 c1
      exact ⟨n + 3, ⟨fun _ => h, fun q => absurd c1 q⟩⟩
    · obtain ⟨n, h⟩ := h2 c1
      exact ⟨n + 4, ⟨fun q => absurd q c1, fun _ => h⟩⟩
theorem sg_68_0 {x0 : Nat} {x1 : Int32} {x2 : Int32} {M : px_Mem} {Q : px_Po} (h_x0 : px_isW x0) (h1 : (((x1 * 8) + x2) < 0) → Q (some (.int (-1))) M) (h2 : (¬ (((x1 * 8) + x2) < 0)) → ((128 : Int32) ≤ ((x1 * 8) + x2)) → Q (some (.int (-1))) M) (h3 : (¬ (((x1 * 8) + x2) < 0)) → (¬ ((128 : Int32) ≤ ((x1 * 8) + x2))) → vp_in ((x1 * 8) + x2) 128) (h4 : (¬ (((x1 * 8) + x2) < 0)) → (¬ ((128 : Int32) ≤ ((x1 * 8) + x2))) → Q (some (.int (M.1 (x0 + 4) (((x1 * 8) + x2).toNatClampNeg)))) M) : px_T 0 68 0 [some (.ref x0), some (.int x1), some (.int x2), none] [] M Q := by
  rcases h_x0 with rfl | rfl
  · by_cases c1 : ((x1 * 8) + x2) < 0
    · exact ⟨10, ⟨fun _ => ⟨trivial, h1 c1⟩, fun q => absurd c1 q⟩⟩
    · by_cases c2 : (128 : Int32) ≤ ((x1 * 8) + x2)
      · exact ⟨15, ⟨fun q => absurd q c1, fun _ => ⟨rfl, (Or.inl ⟨0, 128, rfl, (by decide), ⟨fun _ => ⟨trivial, h2 c1 c2⟩, fun q => absurd c2 q⟩⟩)⟩⟩⟩
      · exact ⟨19, ⟨fun q => absurd q c1, fun _ => ⟨rfl, (Or.inl ⟨0, 128, rfl, (by decide), ⟨fun q => absurd q c2, fun _ => ⟨rfl, ⟨Or.inl ⟨0, 128, Or.inl rfl, rfl, (h3 c1 c2)⟩, ⟨trivial, h4 c1 c2⟩⟩⟩⟩⟩)⟩⟩⟩
  · by_cases c1 : ((x1 * 8) + x2) < 0
    · exact ⟨10, ⟨fun _ => ⟨trivial, h1 c1⟩, fun q => absurd c1 q⟩⟩
    · by_cases c2 : (128 : Int32) ≤ ((x1 * 8) + x2)
      · exact ⟨15, ⟨fun q => absurd q c1, fun _ => ⟨rfl, (Or.inl ⟨0, 128, rfl, (by decide), ⟨fun _ => ⟨trivial, h2 c1 c2⟩, fun q => absurd c2 q⟩⟩)⟩⟩⟩
      · exact ⟨19, ⟨fun q => absurd q c1, fun _ => ⟨rfl, (Or.inl ⟨0, 128, rfl, (by decide), ⟨fun q => absurd q c2, fun _ => ⟨rfl, ⟨Or.inl ⟨0, 128, Or.inl rfl, rfl, (h3 c1 c2)⟩, ⟨trivial, h4 c1 c2⟩⟩⟩⟩⟩)⟩⟩⟩
theorem sg_69_0 {x0 : Nat} {x1 : Int32} {M : px_Mem} {Q : px_Po} (h_x0 : px_isW x0) (h1 : px_T 0 69 5 [some (.ref x0), some (.int x1), some (.int 0), some (.int 8)] [] M Q) : px_T 0 69 0 [some (.ref x0), some (.int x1), none, none] [] M Q := by
  rcases h_x0 with rfl | rfl
  · obtain ⟨n, h⟩ := h1
    exact ⟨n + 4, h⟩
  · obtain ⟨n, h⟩ := h1
    exact ⟨n + 4, h⟩
theorem sg_69_5 {x0 : Nat} {x1 : Int32} {x2 : Int32} {x3 : Int32} {M : px_Mem} {Q : px_Po} (h_x0 : px_isW x0) (h1 : ((128 : Int32) ≤ x3) → Q (some (.int x2)) M) (h2 : (¬ ((128 : Int32) ≤ x3)) → vp_in x3 128) (h3 : (¬ ((128 : Int32) ≤ x3)) → ((M.1 (x0 + 4) x3.toNatClampNeg) = x1) → px_T 0 161 0 [some (.int (x3 / 8))] [] M (fun r M1 => px_T 0 69 32 [some (.ref x0), some (.int x1), some (.int x2), some (.int x3)] (r.toList ++ [.int x2]) M1 Q)) (h4 : (¬ ((128 : Int32) ≤ x3)) → (¬ ((M.1 (x0 + 4) x3.toNatClampNeg) = x1)) → px_T 0 69 5 [some (.ref x0), some (.int x1), some (.int x2), some (.int (x3 + 1))] [] M Q) : px_T 0 69 5 [some (.ref x0), some (.int x1), some (.int x2), some (.int x3)] [] M Q := by
  rcases h_x0 with rfl | rfl
  · by_cases c1 : (128 : Int32) ≤ x3
    · exact ⟨7, ⟨rfl, (Or.inl ⟨0, 128, rfl, (by decide), ⟨fun _ => ⟨trivial, h1 c1⟩, fun q => absurd c1 q⟩⟩)⟩⟩
    · by_cases c2 : (M.1 (29 + 4) x3.toNatClampNeg) = x1
      · obtain ⟨n, h⟩ := px_T_cl (k := 69) (pc := 29) (y := 161) (st := [.int (x3 / 8), .int x2]) rfl (h3 c1 c2)
        exact ⟨n + 16, ⟨rfl, (Or.inl ⟨0, 128, rfl, (by decide), ⟨fun q => absurd q c1, fun _ => ⟨rfl, ⟨Or.inl ⟨0, 128, Or.inl rfl, rfl, (h2 c1)⟩, ⟨fun q => absurd c2 q, fun _ => ⟨(by decide), ⟨rfl, h⟩⟩⟩⟩⟩⟩⟩)⟩⟩
      · obtain ⟨n, h⟩ := h4 c1 c2
        exact ⟨n + 13, ⟨rfl, (Or.inl ⟨0, 128, rfl, (by decide), ⟨fun q => absurd q c1, fun _ => ⟨rfl, ⟨Or.inl ⟨0, 128, Or.inl rfl, rfl, (h2 c1)⟩, ⟨fun _ => h, fun q => absurd q c2⟩⟩⟩⟩⟩)⟩⟩
  · by_cases c1 : (128 : Int32) ≤ x3
    · exact ⟨7, ⟨rfl, (Or.inl ⟨0, 128, rfl, (by decide), ⟨fun _ => ⟨trivial, h1 c1⟩, fun q => absurd c1 q⟩⟩)⟩⟩
    · by_cases c2 : (M.1 (47 + 4) x3.toNatClampNeg) = x1
      · obtain ⟨n, h⟩ := px_T_cl (k := 69) (pc := 29) (y := 161) (st := [.int (x3 / 8), .int x2]) rfl (h3 c1 c2)
        exact ⟨n + 16, ⟨rfl, (Or.inl ⟨0, 128, rfl, (by decide), ⟨fun q => absurd q c1, fun _ => ⟨rfl, ⟨Or.inl ⟨0, 128, Or.inl rfl, rfl, (h2 c1)⟩, ⟨fun q => absurd c2 q, fun _ => ⟨(by decide), ⟨rfl, h⟩⟩⟩⟩⟩⟩⟩)⟩⟩
      · obtain ⟨n, h⟩ := h4 c1 c2
        exact ⟨n + 13, ⟨rfl, (Or.inl ⟨0, 128, rfl, (by decide), ⟨fun q => absurd q c1, fun _ => ⟨rfl, ⟨Or.inl ⟨0, 128, Or.inl rfl, rfl, (h2 c1)⟩, ⟨fun _ => h, fun q => absurd q c2⟩⟩⟩⟩⟩)⟩⟩
theorem sg_69_32 {x0 : Nat} {x1 : Int32} {d2 : Option Value} {x3 : Int32} {s0 : Int32} {s1 : Int32} {M : px_Mem} {Q : px_Po} (h_x0 : px_isW x0) (h1 : px_T 0 69 5 [some (.ref x0), some (.int x1), some (.int (s1 ||| s0)), some (.int (x3 + 1))] [] M Q) : px_T 0 69 32 [some (.ref x0), some (.int x1), d2, some (.int x3)] [.int s0, .int s1] M Q := by
  rcases h_x0 with rfl | rfl
  · obtain ⟨n, h⟩ := h1
    exact ⟨n + 4, h⟩
  · obtain ⟨n, h⟩ := h1
    exact ⟨n + 4, h⟩
theorem sg_70_0 {x0 : Nat} {x1 : Int32} {M : px_Mem} {Q : px_Po} (h_x0 : px_isW x0) (h1 : px_T 0 71 0 [some (.ref x0), some (.int x1)] [] M (fun r M1 => px_T 0 70 5 [some (.ref x0), some (.int x1), none] (r.toList ++ []) M1 Q)) : px_T 0 70 0 [some (.ref x0), some (.int x1), none] [] M Q := by
  rcases h_x0 with rfl | rfl
  · obtain ⟨n, h⟩ := px_T_cl (k := 70) (pc := 2) (y := 71) (st := [.int x1, .ref 29]) rfl (h1)
    exact ⟨n + 3, ⟨rfl, h⟩⟩
  · obtain ⟨n, h⟩ := px_T_cl (k := 70) (pc := 2) (y := 71) (st := [.int x1, .ref 47]) rfl (h1)
    exact ⟨n + 3, ⟨rfl, h⟩⟩
theorem sg_70_5 {x0 : Nat} {d1 : Option Value} {d2 : Option Value} {s0 : Int32} {M : px_Mem} {Q : px_Po} (h_x0 : px_isW x0) (h1 : (s0 < 0) → Q (some (.int (-1))) M) (h2 : (¬ (s0 < 0)) → vp_in s0 200) (h3 : (¬ (s0 < 0)) → vp_in (s0 + 1) 200) (h4 : (¬ (s0 < 0)) → (((M.1 (x0 + 6) s0.toNatClampNeg) + (M.1 (x0 + 6) ((s0 + 1).toNatClampNeg))) = 0) → Q (some (.int (-1))) M) (h5 : (¬ (s0 < 0)) → (¬ (((M.1 (x0 + 6) s0.toNatClampNeg) + (M.1 (x0 + 6) ((s0 + 1).toNatClampNeg))) = 0)) → Q (some (.int (M.1 (x0 + 7) s0.toNatClampNeg))) M) : px_T 0 70 5 [some (.ref x0), d1, d2] [.int s0] M Q := by
  rcases h_x0 with rfl | rfl
  · by_cases c1 : s0 < 0
    · exact ⟨5, ⟨fun _ => ⟨trivial, h1 c1⟩, fun q => absurd c1 q⟩⟩
    · by_cases c2 : ((M.1 (29 + 6) s0.toNatClampNeg) + (M.1 (29 + 6) ((s0 + 1).toNatClampNeg))) = 0
      · exact ⟨17, ⟨fun q => absurd q c1, fun _ => ⟨rfl, ⟨Or.inl ⟨0, 200, Or.inl rfl, rfl, (h2 c1)⟩, ⟨rfl, ⟨Or.inl ⟨0, 200, Or.inl rfl, rfl, (h3 c1)⟩, ⟨fun q => absurd c2 q, fun _ => ⟨trivial, h4 c1 c2⟩⟩⟩⟩⟩⟩⟩⟩
      · exact ⟨20, ⟨fun q => absurd q c1, fun _ => ⟨rfl, ⟨Or.inl ⟨0, 200, Or.inl rfl, rfl, (h2 c1)⟩, ⟨rfl, ⟨Or.inl ⟨0, 200, Or.inl rfl, rfl, (h3 c1)⟩, ⟨fun _ => ⟨rfl, ⟨Or.inl ⟨0, 200, Or.inl rfl, rfl, (h2 c1)⟩, ⟨trivial, h5 c1 c2⟩⟩⟩, fun q => absurd q c2⟩⟩⟩⟩⟩⟩⟩
  · by_cases c1 : s0 < 0
    · exact ⟨5, ⟨fun _ => ⟨trivial, h1 c1⟩, fun q => absurd c1 q⟩⟩
    · by_cases c2 : ((M.1 (47 + 6) s0.toNatClampNeg) + (M.1 (47 + 6) ((s0 + 1).toNatClampNeg))) = 0
      · exact ⟨17, ⟨fun q => absurd q c1, fun _ => ⟨rfl, ⟨Or.inl ⟨0, 200, Or.inl rfl, rfl, (h2 c1)⟩, ⟨rfl, ⟨Or.inl ⟨0, 200, Or.inl rfl, rfl, (h3 c1)⟩, ⟨fun q => absurd c2 q, fun _ => ⟨trivial, h4 c1 c2⟩⟩⟩⟩⟩⟩⟩⟩
      · exact ⟨20, ⟨fun q => absurd q c1, fun _ => ⟨rfl, ⟨Or.inl ⟨0, 200, Or.inl rfl, rfl, (h2 c1)⟩, ⟨rfl, ⟨Or.inl ⟨0, 200, Or.inl rfl, rfl, (h3 c1)⟩, ⟨fun _ => ⟨rfl, ⟨Or.inl ⟨0, 200, Or.inl rfl, rfl, (h2 c1)⟩, ⟨trivial, h5 c1 c2⟩⟩⟩, fun q => absurd q c2⟩⟩⟩⟩⟩⟩⟩
theorem sg_71_0 {x0 : Nat} {x1 : Int32} {M : px_Mem} {Q : px_Po} (h_x0 : px_isW x0) (h1 : (x1 < 0) → Q (some (.int (-1))) M) (h2 : (¬ (x1 < 0)) → (x1 < (M.1 x0 1)) → vp_in x1 200) (h3 : (¬ (x1 < 0)) → (x1 < (M.1 x0 1)) → ((M.1 (x0 + 5) x1.toNatClampNeg) = 1) → ((M.1 x0 1) ≤ (x1 + 1)) → ((M.1 (x0 + 5) x1.toNatClampNeg) = 2) → (x1 ≤ 0) → Q (some (.int (-1))) M) (h4 : (¬ (x1 < 0)) → (x1 < (M.1 x0 1)) → ((M.1 (x0 + 5) x1.toNatClampNeg) = 1) → ((M.1 x0 1) ≤ (x1 + 1)) → ((M.1 (x0 + 5) x1.toNatClampNeg) = 2) → (¬ (x1 ≤ 0)) → Q (some (.int (x1 - 1))) M) (h5 : (¬ (x1 < 0)) → (x1 < (M.1 x0 1)) → ((M.1 (x0 + 5) x1.toNatClampNeg) = 1) → ((M.1 x0 1) ≤ (x1 + 1)) → (¬ ((M.1 (x0 + 5) x1.toNatClampNeg) = 2)) → Q (some (.int (-1))) M) (h6 : (¬ (x1 < 0)) → (x1 < (M.1 x0 1)) → ((M.1 (x0 + 5) x1.toNatClampNeg) = 1) → (¬ ((M.1 x0 1) ≤ (x1 + 1))) → Q (some (.int x1)) M) (h7 : (¬ (x1 < 0)) → (x1 < (M.1 x0 1)) → (¬ ((M.1 (x0 + 5) x1.toNatClampNeg) = 1)) → ((M.1 (x0 + 5) x1.toNatClampNeg) = 2) → (x1 ≤ 0) → Q (some (.int (-1))) M) (h8 : (¬ (x1 < 0)) → (x1 < (M.1 x0 1)) → (¬ ((M.1 (x0 + 5) x1.toNatClampNeg) = 1)) → ((M.1 (x0 + 5) x1.toNatClampNeg) = 2) → (¬ (x1 ≤ 0)) → Q (some (.int (x1 - 1))) M) (h9 : (¬ (x1 < 0)) → (x1 < (M.1 x0 1)) → (¬ ((M.1 (x0 + 5) x1.toNatClampNeg) = 1)) → (¬ ((M.1 (x0 + 5) x1.toNatClampNeg) = 2)) → Q (some (.int (-1))) M) (h10 : (¬ (x1 < 0)) → (¬ (x1 < (M.1 x0 1))) → Q (some (.int (-1))) M) : px_T 0 71 0 [some (.ref x0), some (.int x1)] [] M Q := by
  rcases h_x0 with rfl | rfl
  · by_cases c1 : x1 < 0
    · exact ⟨4, ⟨fun _ => ⟨trivial, h1 c1⟩, fun q => absurd c1 q⟩⟩
    · by_cases c2 : x1 < (M.1 29 1)
      · by_cases c3 : (M.1 (29 + 5) x1.toNatClampNeg) = 1
        · by_cases c4 : (M.1 29 1) ≤ (x1 + 1)
          · by_cases c5 : (M.1 (29 + 5) x1.toNatClampNeg) = 2
            · by_cases c6 : x1 ≤ 0
              · exact ⟨28, ⟨fun q => absurd q c1, fun _ => ⟨rfl, ⟨fun _ => ⟨rfl, ⟨Or.inl ⟨0, 200, Or.inl rfl, rfl, (h2 c1 c2)⟩, ⟨fun q => absurd c3 q, fun _ => ⟨rfl, ⟨fun _ => ⟨rfl, ⟨Or.inl ⟨0, 200, Or.inl rfl, rfl, (h2 c1 c2)⟩, ⟨fun q => absurd c5 q, fun _ => ⟨fun _ => ⟨trivial, h3 c1 c2 c3 c4 c5 c6⟩, fun q => absurd c6 q⟩⟩⟩⟩, fun q => absurd c4 q⟩⟩⟩⟩⟩, fun q => absurd c2 q⟩⟩⟩⟩
              · exact ⟨31, ⟨fun q => absurd q c1, fun _ => ⟨rfl, ⟨fun _ => ⟨rfl, ⟨Or.inl ⟨0, 200, Or.inl rfl, rfl, (h2 c1 c2)⟩, ⟨fun q => absurd c3 q, fun _ => ⟨rfl, ⟨fun _ => ⟨rfl, ⟨Or.inl ⟨0, 200, Or.inl rfl, rfl, (h2 c1 c2)⟩, ⟨fun q => absurd c5 q, fun _ => ⟨fun q => absurd q c6, fun _ => ⟨trivial, h4 c1 c2 c3 c4 c5 c6⟩⟩⟩⟩⟩, fun q => absurd c4 q⟩⟩⟩⟩⟩, fun q => absurd c2 q⟩⟩⟩⟩
            · exact ⟨26, ⟨fun q => absurd q c1, fun _ => ⟨rfl, ⟨fun _ => ⟨rfl, ⟨Or.inl ⟨0, 200, Or.inl rfl, rfl, (h2 c1 c2)⟩, ⟨fun q => absurd c3 q, fun _ => ⟨rfl, ⟨fun _ => ⟨rfl, ⟨Or.inl ⟨0, 200, Or.inl rfl, rfl, (h2 c1 c2)⟩, ⟨fun _ => ⟨trivial, h5 c1 c2 c3 c4 c5⟩, fun q => absurd q c5⟩⟩⟩, fun q => absurd c4 q⟩⟩⟩⟩⟩, fun q => absurd c2 q⟩⟩⟩⟩
          · exact ⟨20, ⟨fun q => absurd q c1, fun _ => ⟨rfl, ⟨fun _ => ⟨rfl, ⟨Or.inl ⟨0, 200, Or.inl rfl, rfl, (h2 c1 c2)⟩, ⟨fun q => absurd c3 q, fun _ => ⟨rfl, ⟨fun q => absurd q c4, fun _ => ⟨trivial, h6 c1 c2 c3 c4⟩⟩⟩⟩⟩⟩, fun q => absurd c2 q⟩⟩⟩⟩
        · by_cases c7 : (M.1 (29 + 5) x1.toNatClampNeg) = 2
          · by_cases c8 : x1 ≤ 0
            · exact ⟨22, ⟨fun q => absurd q c1, fun _ => ⟨rfl, ⟨fun _ => ⟨rfl, ⟨Or.inl ⟨0, 200, Or.inl rfl, rfl, (h2 c1 c2)⟩, ⟨fun _ => ⟨rfl, ⟨Or.inl ⟨0, 200, Or.inl rfl, rfl, (h2 c1 c2)⟩, ⟨fun q => absurd c7 q, fun _ => ⟨fun _ => ⟨trivial, h7 c1 c2 c3 c7 c8⟩, fun q => absurd c8 q⟩⟩⟩⟩, fun q => absurd q c3⟩⟩⟩, fun q => absurd c2 q⟩⟩⟩⟩
            · exact ⟨25, ⟨fun q => absurd q c1, fun _ => ⟨rfl, ⟨fun _ => ⟨rfl, ⟨Or.inl ⟨0, 200, Or.inl rfl, rfl, (h2 c1 c2)⟩, ⟨fun _ => ⟨rfl, ⟨Or.inl ⟨0, 200, Or.inl rfl, rfl, (h2 c1 c2)⟩, ⟨fun q => absurd c7 q, fun _ => ⟨fun q => absurd q c8, fun _ => ⟨trivial, h8 c1 c2 c3 c7 c8⟩⟩⟩⟩⟩, fun q => absurd q c3⟩⟩⟩, fun q => absurd c2 q⟩⟩⟩⟩
          · exact ⟨20, ⟨fun q => absurd q c1, fun _ => ⟨rfl, ⟨fun _ => ⟨rfl, ⟨Or.inl ⟨0, 200, Or.inl rfl, rfl, (h2 c1 c2)⟩, ⟨fun _ => ⟨rfl, ⟨Or.inl ⟨0, 200, Or.inl rfl, rfl, (h2 c1 c2)⟩, ⟨fun _ => ⟨trivial, h9 c1 c2 c3 c7⟩, fun q => absurd q c7⟩⟩⟩, fun q => absurd q c3⟩⟩⟩, fun q => absurd c2 q⟩⟩⟩⟩
      · exact ⟨8, ⟨fun q => absurd q c1, fun _ => ⟨rfl, ⟨fun q => absurd q c2, fun _ => ⟨trivial, h10 c1 c2⟩⟩⟩⟩⟩
  · by_cases c1 : x1 < 0
    · exact ⟨4, ⟨fun _ => ⟨trivial, h1 c1⟩, fun q => absurd c1 q⟩⟩
    · by_cases c2 : x1 < (M.1 47 1)
      · by_cases c3 : (M.1 (47 + 5) x1.toNatClampNeg) = 1
        · by_cases c4 : (M.1 47 1) ≤ (x1 + 1)
          · by_cases c5 : (M.1 (47 + 5) x1.toNatClampNeg) = 2
            · by_cases c6 : x1 ≤ 0
              · exact ⟨28, ⟨fun q => absurd q c1, fun _ => ⟨rfl, ⟨fun _ => ⟨rfl, ⟨Or.inl ⟨0, 200, Or.inl rfl, rfl, (h2 c1 c2)⟩, ⟨fun q => absurd c3 q, fun _ => ⟨rfl, ⟨fun _ => ⟨rfl, ⟨Or.inl ⟨0, 200, Or.inl rfl, rfl, (h2 c1 c2)⟩, ⟨fun q => absurd c5 q, fun _ => ⟨fun _ => ⟨trivial, h3 c1 c2 c3 c4 c5 c6⟩, fun q => absurd c6 q⟩⟩⟩⟩, fun q => absurd c4 q⟩⟩⟩⟩⟩, fun q => absurd c2 q⟩⟩⟩⟩
              · exact ⟨31, ⟨fun q => absurd q c1, fun _ => ⟨rfl, ⟨fun _ => ⟨rfl, ⟨Or.inl ⟨0, 200, Or.inl rfl, rfl, (h2 c1 c2)⟩, ⟨fun q => absurd c3 q, fun _ => ⟨rfl, ⟨fun _ => ⟨rfl, ⟨Or.inl ⟨0, 200, Or.inl rfl, rfl, (h2 c1 c2)⟩, ⟨fun q => absurd c5 q, fun _ => ⟨fun q => absurd q c6, fun _ => ⟨trivial, h4 c1 c2 c3 c4 c5 c6⟩⟩⟩⟩⟩, fun q => absurd c4 q⟩⟩⟩⟩⟩, fun q => absurd c2 q⟩⟩⟩⟩
            · exact ⟨26, ⟨fun q => absurd q c1, fun _ => ⟨rfl, ⟨fun _ => ⟨rfl, ⟨Or.inl ⟨0, 200, Or.inl rfl, rfl, (h2 c1 c2)⟩, ⟨fun q => absurd c3 q, fun _ => ⟨rfl, ⟨fun _ => ⟨rfl, ⟨Or.inl ⟨0, 200, Or.inl rfl, rfl, (h2 c1 c2)⟩, ⟨fun _ => ⟨trivial, h5 c1 c2 c3 c4 c5⟩, fun q => absurd q c5⟩⟩⟩, fun q => absurd c4 q⟩⟩⟩⟩⟩, fun q => absurd c2 q⟩⟩⟩⟩
          · exact ⟨20, ⟨fun q => absurd q c1, fun _ => ⟨rfl, ⟨fun _ => ⟨rfl, ⟨Or.inl ⟨0, 200, Or.inl rfl, rfl, (h2 c1 c2)⟩, ⟨fun q => absurd c3 q, fun _ => ⟨rfl, ⟨fun q => absurd q c4, fun _ => ⟨trivial, h6 c1 c2 c3 c4⟩⟩⟩⟩⟩⟩, fun q => absurd c2 q⟩⟩⟩⟩
        · by_cases c7 : (M.1 (47 + 5) x1.toNatClampNeg) = 2
          · by_cases c8 : x1 ≤ 0
            · exact ⟨22, ⟨fun q => absurd q c1, fun _ => ⟨rfl, ⟨fun _ => ⟨rfl, ⟨Or.inl ⟨0, 200, Or.inl rfl, rfl, (h2 c1 c2)⟩, ⟨fun _ => ⟨rfl, ⟨Or.inl ⟨0, 200, Or.inl rfl, rfl, (h2 c1 c2)⟩, ⟨fun q => absurd c7 q, fun _ => ⟨fun _ => ⟨trivial, h7 c1 c2 c3 c7 c8⟩, fun q => absurd c8 q⟩⟩⟩⟩, fun q => absurd q c3⟩⟩⟩, fun q => absurd c2 q⟩⟩⟩⟩
            · exact ⟨25, ⟨fun q => absurd q c1, fun _ => ⟨rfl, ⟨fun _ => ⟨rfl, ⟨Or.inl ⟨0, 200, Or.inl rfl, rfl, (h2 c1 c2)⟩, ⟨fun _ => ⟨rfl, ⟨Or.inl ⟨0, 200, Or.inl rfl, rfl, (h2 c1 c2)⟩, ⟨fun q => absurd c7 q, fun _ => ⟨fun q => absurd q c8, fun _ => ⟨trivial, h8 c1 c2 c3 c7 c8⟩⟩⟩⟩⟩, fun q => absurd q c3⟩⟩⟩, fun q => absurd c2 q⟩⟩⟩⟩
          · exact ⟨20, ⟨fun q => absurd q c1, fun _ => ⟨rfl, ⟨fun _ => ⟨rfl, ⟨Or.inl ⟨0, 200, Or.inl rfl, rfl, (h2 c1 c2)⟩, ⟨fun _ => ⟨rfl, ⟨Or.inl ⟨0, 200, Or.inl rfl, rfl, (h2 c1 c2)⟩, ⟨fun _ => ⟨trivial, h9 c1 c2 c3 c7⟩, fun q => absurd q c7⟩⟩⟩, fun q => absurd q c3⟩⟩⟩, fun q => absurd c2 q⟩⟩⟩⟩
      · exact ⟨8, ⟨fun q => absurd q c1, fun _ => ⟨rfl, ⟨fun q => absurd q c2, fun _ => ⟨trivial, h10 c1 c2⟩⟩⟩⟩⟩
theorem sg_72_0 {x0 : Nat} {x1 : Int32} {M : px_Mem} {Q : px_Po} (h_x0 : px_isW x0) (h1 : px_T 0 71 0 [some (.ref x0), some (.int x1)] [] M (fun r M1 => px_T 0 72 5 [some (.ref x0), some (.int x1), none] (r.toList ++ []) M1 Q)) : px_T 0 72 0 [some (.ref x0), some (.int x1), none] [] M Q := by
  rcases h_x0 with rfl | rfl
  · obtain ⟨n, h⟩ := px_T_cl (k := 72) (pc := 2) (y := 71) (st := [.int x1, .ref 29]) rfl (h1)
    exact ⟨n + 3, ⟨rfl, h⟩⟩
  · obtain ⟨n, h⟩ := px_T_cl (k := 72) (pc := 2) (y := 71) (st := [.int x1, .ref 47]) rfl (h1)
    exact ⟨n + 3, ⟨rfl, h⟩⟩
theorem sg_72_5 {d0 : Option Value} {x1 : Int32} {d2 : Option Value} {s0 : Int32} {M : px_Mem} {Q : px_Po} (h1 : ((0 : Int32) ≤ s0) → (s0 = x1) → Q (some (.int (s0 + 1))) M) (h2 : ((0 : Int32) ≤ s0) → (¬ (s0 = x1)) → Q (some (.int s0)) M) (h3 : (¬ ((0 : Int32) ≤ s0)) → Q (some (.int (-1))) M) : px_T 0 72 5 [d0, some (.int x1), d2] [.int s0] M Q := by
  by_cases c1 : (0 : Int32) ≤ s0
  · by_cases c2 : s0 = x1
    · exact ⟨11, ⟨fun _ => ⟨fun q => absurd c2 q, fun _ => ⟨trivial, h1 c1 c2⟩⟩, fun q => absurd c1 q⟩⟩
    · exact ⟨8, ⟨fun _ => ⟨fun _ => ⟨trivial, h2 c1 c2⟩, fun q => absurd q c2⟩, fun q => absurd c1 q⟩⟩
  · exact ⟨5, ⟨fun q => absurd q c1, fun _ => ⟨trivial, h3 c1⟩⟩⟩
theorem sg_73_0 {x0 : Nat} {x1 : Int32} {x2 : Int32} {M : px_Mem} {Q : px_Po} (h_x0 : px_isW x0) (h1 : px_T 0 2 0 [some (.int x1)] [] M (fun r M1 => px_T 0 73 4 [some (.ref x0), some (.int x1), some (.int x2), none, none, none, none] (r.toList ++ []) M1 Q)) : px_T 0 73 0 [some (.ref x0), some (.int x1), some (.int x2), none, none, none, none] [] M Q := by
  rcases h_x0 with rfl | rfl
  · obtain ⟨n, h⟩ := px_T_cl (k := 73) (pc := 1) (y := 2) (st := [.int x1]) rfl (h1)
    exact ⟨n + 2, h⟩
  · obtain ⟨n, h⟩ := px_T_cl (k := 73) (pc := 1) (y := 2) (st := [.int x1]) rfl (h1)
    exact ⟨n + 2, h⟩
theorem sg_73_4 {x0 : Nat} {x1 : Int32} {x2 : Int32} {d3 : Option Value} {d4 : Option Value} {d5 : Option Value} {d6 : Option Value} {s0 : Int32} {M : px_Mem} {Q : px_Po} (h_x0 : px_isW x0) (h1 : px_T 0 3 0 [some (.int x1), some (.int 1)] [] M (fun r M1 => px_T 0 73 10 [some (.ref x0), some (.int x1), some (.int x2), some (.int s0), d4, d5, d6] (r.toList ++ []) M1 Q)) : px_T 0 73 4 [some (.ref x0), some (.int x1), some (.int x2), d3, d4, d5, d6] [.int s0] M Q := by
  rcases h_x0 with rfl | rfl
  · obtain ⟨n, h⟩ := px_T_cl (k := 73) (pc := 7) (y := 3) (st := [.int 1, .int x1]) rfl (h1)
    exact ⟨n + 4, h⟩
  · obtain ⟨n, h⟩ := px_T_cl (k := 73) (pc := 7) (y := 3) (st := [.int 1, .int x1]) rfl (h1)
    exact ⟨n + 4, h⟩
theorem sg_73_10 {x0 : Nat} {x1 : Int32} {x2 : Int32} {x3 : Int32} {d4 : Option Value} {d5 : Option Value} {d6 : Option Value} {s0 : Int32} {M : px_Mem} {Q : px_Po} (h_x0 : px_isW x0) (h1 : px_T 0 3 0 [some (.int x1), some (.int 2)] [] M (fun r M1 => px_T 0 73 17 [some (.ref x0), some (.int x1), some (.int x2), some (.int x3), some (.int s0), d5, d6] (r.toList ++ []) M1 Q)) : px_T 0 73 10 [some (.ref x0), some (.int x1), some (.int x2), some (.int x3), d4, d5, d6] [.int s0] M Q := by
  rcases h_x0 with rfl | rfl
  · obtain ⟨n, h⟩ := px_T_cl (k := 73) (pc := 14) (y := 3) (st := [.int 2, .int x1]) rfl (h1)
    exact ⟨n + 4, h⟩
  · obtain ⟨n, h⟩ := px_T_cl (k := 73) (pc := 14) (y := 3) (st := [.int 2, .int x1]) rfl (h1)
    exact ⟨n + 4, h⟩
theorem sg_73_17 {x0 : Nat} {x1 : Int32} {x2 : Int32} {x3 : Int32} {x4 : Int32} {d5 : Option Value} {d6 : Option Value} {s0 : Int32} {M : px_Mem} {Q : px_Po} (h_x0 : px_isW x0) (h1 : px_T 0 3 0 [some (.int x1), some (.int 3)] [] M (fun r M1 => px_T 0 73 24 [some (.ref x0), some (.int x1), some (.int x2), some (.int x3), some (.int x4), some (.int s0), d6] (r.toList ++ []) M1 Q)) : px_T 0 73 17 [some (.ref x0), some (.int x1), some (.int x2), some (.int x3), some (.int x4), d5, d6] [.int s0] M Q := by
  rcases h_x0 with rfl | rfl
  · obtain ⟨n, h⟩ := px_T_cl (k := 73) (pc := 21) (y := 3) (st := [.int 3, .int x1]) rfl (h1)
    exact ⟨n + 4, h⟩
  · obtain ⟨n, h⟩ := px_T_cl (k := 73) (pc := 21) (y := 3) (st := [.int 3, .int x1]) rfl (h1)
    exact ⟨n + 4, h⟩
theorem sg_73_24 {x0 : Nat} {d1 : Option Value} {x2 : Int32} {x3 : Int32} {x4 : Int32} {x5 : Int32} {d6 : Option Value} {s0 : Int32} {M : px_Mem} {Q : px_Po} (h_x0 : px_isW x0) (h1 : px_T 0 63 0 [some (.ref x0), some (.int x4)] [] M (fun r M1 => px_T 0 73 32 [some (.ref x0), d1, some (.int x2), some (.int x3), some (.int x4), some (.int x5), some (.int s0)] (r.toList ++ []) M1 Q)) : px_T 0 73 24 [some (.ref x0), d1, some (.int x2), some (.int x3), some (.int x4), some (.int x5), d6] [.int s0] M Q := by
  rcases h_x0 with rfl | rfl
  · obtain ⟨n, h⟩ := px_T_cl (k := 73) (pc := 29) (y := 63) (st := [.int x4, .ref 29]) rfl (h1)
    exact ⟨n + 4, ⟨rfl, h⟩⟩
  · obtain ⟨n, h⟩ := px_T_cl (k := 73) (pc := 29) (y := 63) (st := [.int x4, .ref 47]) rfl (h1)
    exact ⟨n + 4, ⟨rfl, h⟩⟩
theorem sg_73_32 {x0 : Nat} {d1 : Option Value} {x2 : Int32} {x3 : Int32} {x4 : Int32} {x5 : Int32} {x6 : Int32} {s0 : Int32} {M : px_Mem} {Q : px_Po} (h_x0 : px_isW x0) (h1 : (s0 = 0) → Q (some (.int 1)) M) (h2 : (¬ (s0 = 0)) → px_T 0 73 38 [some (.ref x0), d1, some (.int x2), some (.int x3), some (.int x4), some (.int x5), some (.int x6)] [.int x3] M Q) : px_T 0 73 32 [some (.ref x0), d1, some (.int x2), some (.int x3), some (.int x4), some (.int x5), some (.int x6)] [.int s0] M Q := by
  rcases h_x0 with rfl | rfl
  · by_cases c1 : s0 = 0
    · exact ⟨3, ⟨fun q => absurd c1 q, fun _ => ⟨trivial, h1 c1⟩⟩⟩
    · obtain ⟨n, h⟩ := h2 c1
      exact ⟨n + 2, ⟨fun _ => h, fun q => absurd q c1⟩⟩
  · by_cases c1 : s0 = 0
    · exact ⟨3, ⟨fun q => absurd c1 q, fun _ => ⟨trivial, h1 c1⟩⟩⟩
    · obtain ⟨n, h⟩ := h2 c1
      exact ⟨n + 2, ⟨fun _ => h, fun q => absurd q c1⟩⟩
theorem sg_73_38 {x0 : Nat} {d1 : Option Value} {x2 : Int32} {d3 : Option Value} {x4 : Int32} {x5 : Int32} {x6 : Int32} {s0 : Int32} {M : px_Mem} {Q : px_Po} (h_x0 : px_isW x0) (h1 : (s0 = 0) → px_T 0 73 88 [some (.ref x0), d1, some (.int x2), d3, some (.int x4), some (.int x5), some (.int x6)] [] M Q) (h2 : (s0 = 1) → px_T 0 73 97 [some (.ref x0), d1, some (.int x2), d3, some (.int x4), some (.int x5), some (.int x6)] [] M Q) (h3 : (s0 = 2) → px_T 0 73 104 [some (.ref x0), d1, some (.int x2), d3, some (.int x4), some (.int x5), some (.int x6)] [] M Q) (h4 : (s0 = 3) → px_T 0 73 112 [some (.ref x0), d1, some (.int x2), d3, some (.int x4), some (.int x5), some (.int x6)] [] M Q) (h5 : (s0 = 4) → px_T 0 73 121 [some (.ref x0), d1, some (.int x2), d3, some (.int x4), some (.int x5), some (.int x6)] [] M Q) (h6 : (s0 = 5) → px_T 0 73 132 [some (.ref x0), d1, some (.int x2), d3, some (.int x4), some (.int x5), some (.int x6)] [] M Q) (h7 : (s0 = 6) → px_T 0 73 143 [some (.ref x0), d1, some (.int x2), d3, some (.int x4), some (.int x5), some (.int x6)] [] M Q) (h8 : (s0 = 7) → px_T 0 73 152 [some (.ref x0), d1, some (.int x2), d3, some (.int x4), some (.int x5), some (.int x6)] [] M Q) (h9 : (s0 = 8) → px_T 0 73 167 [some (.ref x0), d1, some (.int x2), d3, some (.int x4), some (.int x5), some (.int x6)] [] M Q) (h10 : (¬ s0 = 0) → (¬ s0 = 1) → (¬ s0 = 2) → (¬ s0 = 3) → (¬ s0 = 4) → (¬ s0 = 5) → (¬ s0 = 6) → (¬ s0 = 7) → (¬ s0 = 8) → px_T 0 73 182 [some (.ref x0), d1, some (.int x2), d3, some (.int x4), some (.int x5), some (.int x6)] [] M Q) : px_T 0 73 38 [some (.ref x0), d1, some (.int x2), d3, some (.int x4), some (.int x5), some (.int x6)] [.int s0] M Q := by
  rcases h_x0 with rfl | rfl
  · by_cases c1 : s0 = 0
    · exact px_T_sw rfl (by rw [c1]; rfl) (h1 c1)
    by_cases c2 : s0 = 1
    · exact px_T_sw rfl (by rw [c2]; rfl) (h2 c2)
    by_cases c3 : s0 = 2
    · exact px_T_sw rfl (by rw [c3]; rfl) (h3 c3)
    by_cases c4 : s0 = 3
    · exact px_T_sw rfl (by rw [c4]; rfl) (h4 c4)
    by_cases c5 : s0 = 4
    · exact px_T_sw rfl (by rw [c5]; rfl) (h5 c5)
    by_cases c6 : s0 = 5
    · exact px_T_sw rfl (by rw [c6]; rfl) (h6 c6)
    by_cases c7 : s0 = 6
    · exact px_T_sw rfl (by rw [c7]; rfl) (h7 c7)
    by_cases c8 : s0 = 7
    · exact px_T_sw rfl (by rw [c8]; rfl) (h8 c8)
    by_cases c9 : s0 = 8
    · exact px_T_sw rfl (by rw [c9]; rfl) (h9 c9)
    exact px_T_sw rfl (px_sw_o (N := 9) (by decide) (fun v hv => match v, hv with | 0, _ => c1 | 1, _ => c2 | 2, _ => c3 | 3, _ => c4 | 4, _ => c5 | 5, _ => c6 | 6, _ => c7 | 7, _ => c8 | 8, _ => c9 | n + 9, h => absurd h (by omega))) (h10 c1 c2 c3 c4 c5 c6 c7 c8 c9)
  · by_cases c1 : s0 = 0
    · exact px_T_sw rfl (by rw [c1]; rfl) (h1 c1)
    by_cases c2 : s0 = 1
    · exact px_T_sw rfl (by rw [c2]; rfl) (h2 c2)
    by_cases c3 : s0 = 2
    · exact px_T_sw rfl (by rw [c3]; rfl) (h3 c3)
    by_cases c4 : s0 = 3
    · exact px_T_sw rfl (by rw [c4]; rfl) (h4 c4)
    by_cases c5 : s0 = 4
    · exact px_T_sw rfl (by rw [c5]; rfl) (h5 c5)
    by_cases c6 : s0 = 5
    · exact px_T_sw rfl (by rw [c6]; rfl) (h6 c6)
    by_cases c7 : s0 = 6
    · exact px_T_sw rfl (by rw [c7]; rfl) (h7 c7)
    by_cases c8 : s0 = 7
    · exact px_T_sw rfl (by rw [c8]; rfl) (h8 c8)
    by_cases c9 : s0 = 8
    · exact px_T_sw rfl (by rw [c9]; rfl) (h9 c9)
    exact px_T_sw rfl (px_sw_o (N := 9) (by decide) (fun v hv => match v, hv with | 0, _ => c1 | 1, _ => c2 | 2, _ => c3 | 3, _ => c4 | 4, _ => c5 | 5, _ => c6 | 6, _ => c7 | 7, _ => c8 | 8, _ => c9 | n + 9, h => absurd h (by omega))) (h10 c1 c2 c3 c4 c5 c6 c7 c8 c9)
theorem sg_73_88 {x0 : Nat} {d1 : Option Value} {d2 : Option Value} {d3 : Option Value} {x4 : Int32} {x5 : Int32} {d6 : Option Value} {M : px_Mem} {Q : px_Po} (h_x0 : px_isW x0) (h1 : px_T 0 74 0 [some (.ref x0), some (.int x4), some (.int x5), none] [] M (fun r M1 => px_T 0 73 96 [some (.ref x0), d1, d2, d3, some (.int x4), some (.int x5), d6] (r.toList ++ []) M1 Q)) : px_T 0 73 88 [some (.ref x0), d1, d2, d3, some (.int x4), some (.int x5), d6] [] M Q := by
  rcases h_x0 with rfl | rfl
  · obtain ⟨n, h⟩ := px_T_cl (k := 73) (pc := 93) (y := 74) (st := [.int x5, .int x4, .ref 29]) rfl (h1)
    exact ⟨n + 4, ⟨rfl, h⟩⟩
  · obtain ⟨n, h⟩ := px_T_cl (k := 73) (pc := 93) (y := 74) (st := [.int x5, .int x4, .ref 47]) rfl (h1)
    exact ⟨n + 4, ⟨rfl, h⟩⟩
theorem sg_73_97 {x0 : Nat} {d1 : Option Value} {d2 : Option Value} {d3 : Option Value} {x4 : Int32} {d5 : Option Value} {d6 : Option Value} {M : px_Mem} {Q : px_Po} (h_x0 : px_isW x0) (h1 : px_T 0 75 0 [some (.ref x0), some (.int x4)] [] M (fun r M1 => px_T 0 73 103 [some (.ref x0), d1, d2, d3, some (.int x4), d5, d6] (r.toList ++ []) M1 Q)) : px_T 0 73 97 [some (.ref x0), d1, d2, d3, some (.int x4), d5, d6] [] M Q := by
  rcases h_x0 with rfl | rfl
  · obtain ⟨n, h⟩ := px_T_cl (k := 73) (pc := 100) (y := 75) (st := [.int x4, .ref 29]) rfl (h1)
    exact ⟨n + 3, ⟨rfl, h⟩⟩
  · obtain ⟨n, h⟩ := px_T_cl (k := 73) (pc := 100) (y := 75) (st := [.int x4, .ref 47]) rfl (h1)
    exact ⟨n + 3, ⟨rfl, h⟩⟩
theorem sg_73_104 {x0 : Nat} {d1 : Option Value} {x2 : Int32} {d3 : Option Value} {x4 : Int32} {d5 : Option Value} {d6 : Option Value} {M : px_Mem} {Q : px_Po} (h_x0 : px_isW x0) (h1 : px_T 0 76 0 [some (.ref x0), some (.int x4), some (.int x2), none, none] [] M (fun r M1 => px_T 0 73 111 [some (.ref x0), d1, some (.int x2), d3, some (.int x4), d5, d6] (r.toList ++ []) M1 Q)) : px_T 0 73 104 [some (.ref x0), d1, some (.int x2), d3, some (.int x4), d5, d6] [] M Q := by
  rcases h_x0 with rfl | rfl
  · obtain ⟨n, h⟩ := px_T_cl (k := 73) (pc := 108) (y := 76) (st := [.int x2, .int x4, .ref 29]) rfl (h1)
    exact ⟨n + 4, ⟨rfl, h⟩⟩
  · obtain ⟨n, h⟩ := px_T_cl (k := 73) (pc := 108) (y := 76) (st := [.int x2, .int x4, .ref 47]) rfl (h1)
    exact ⟨n + 4, ⟨rfl, h⟩⟩
theorem sg_73_112 {x0 : Nat} {d1 : Option Value} {d2 : Option Value} {d3 : Option Value} {x4 : Int32} {x5 : Int32} {d6 : Option Value} {M : px_Mem} {Q : px_Po} (h_x0 : px_isW x0) (h1 : px_T 0 78 0 [some (.ref x0), some (.int x4), some (.int x5)] [] M (fun r M1 => px_T 0 73 120 [some (.ref x0), d1, d2, d3, some (.int x4), some (.int x5), d6] (r.toList ++ []) M1 Q)) : px_T 0 73 112 [some (.ref x0), d1, d2, d3, some (.int x4), some (.int x5), d6] [] M Q := by
  rcases h_x0 with rfl | rfl
  · obtain ⟨n, h⟩ := px_T_cl (k := 73) (pc := 117) (y := 78) (st := [.int x5, .int x4, .ref 29]) rfl (h1)
    exact ⟨n + 4, ⟨rfl, h⟩⟩
  · obtain ⟨n, h⟩ := px_T_cl (k := 73) (pc := 117) (y := 78) (st := [.int x5, .int x4, .ref 47]) rfl (h1)
    exact ⟨n + 4, ⟨rfl, h⟩⟩
theorem sg_73_121 {x0 : Nat} {d1 : Option Value} {d2 : Option Value} {d3 : Option Value} {x4 : Int32} {x5 : Int32} {x6 : Int32} {M : px_Mem} {Q : px_Po} (h_x0 : px_isW x0) (h1 : px_T 0 79 0 [some (.ref x0), some (.int x4), some (.int x5), some (.int x6)] [] M (fun r M1 => px_T 0 73 131 [some (.ref x0), d1, d2, d3, some (.int x4), some (.int x5), some (.int x6)] (r.toList ++ []) M1 Q)) : px_T 0 73 121 [some (.ref x0), d1, d2, d3, some (.int x4), some (.int x5), some (.int x6)] [] M Q := by
  rcases h_x0 with rfl | rfl
  · obtain ⟨n, h⟩ := px_T_cl (k := 73) (pc := 128) (y := 79) (st := [.int x6, .int x5, .int x4, .ref 29]) rfl (h1)
    exact ⟨n + 5, ⟨rfl, h⟩⟩
  · obtain ⟨n, h⟩ := px_T_cl (k := 73) (pc := 128) (y := 79) (st := [.int x6, .int x5, .int x4, .ref 47]) rfl (h1)
    exact ⟨n + 5, ⟨rfl, h⟩⟩
theorem sg_73_132 {x0 : Nat} {d1 : Option Value} {d2 : Option Value} {d3 : Option Value} {x4 : Int32} {x5 : Int32} {x6 : Int32} {M : px_Mem} {Q : px_Po} (h_x0 : px_isW x0) (h1 : px_T 0 80 0 [some (.ref x0), some (.int x4), some (.int x5), some (.int x6)] [] M (fun r M1 => px_T 0 73 142 [some (.ref x0), d1, d2, d3, some (.int x4), some (.int x5), some (.int x6)] (r.toList ++ []) M1 Q)) : px_T 0 73 132 [some (.ref x0), d1, d2, d3, some (.int x4), some (.int x5), some (.int x6)] [] M Q := by
  rcases h_x0 with rfl | rfl
  · obtain ⟨n, h⟩ := px_T_cl (k := 73) (pc := 139) (y := 80) (st := [.int x6, .int x5, .int x4, .ref 29]) rfl (h1)
    exact ⟨n + 5, ⟨rfl, h⟩⟩
  · obtain ⟨n, h⟩ := px_T_cl (k := 73) (pc := 139) (y := 80) (st := [.int x6, .int x5, .int x4, .ref 47]) rfl (h1)
    exact ⟨n + 5, ⟨rfl, h⟩⟩
theorem sg_73_143 {x0 : Nat} {d1 : Option Value} {d2 : Option Value} {d3 : Option Value} {x4 : Int32} {x5 : Int32} {d6 : Option Value} {M : px_Mem} {Q : px_Po} (h_x0 : px_isW x0) (h1 : px_T 0 81 0 [some (.ref x0), some (.int x4), some (.int x5)] [] M (fun r M1 => px_T 0 73 151 [some (.ref x0), d1, d2, d3, some (.int x4), some (.int x5), d6] (r.toList ++ []) M1 Q)) : px_T 0 73 143 [some (.ref x0), d1, d2, d3, some (.int x4), some (.int x5), d6] [] M Q := by
  rcases h_x0 with rfl | rfl
  · obtain ⟨n, h⟩ := px_T_cl (k := 73) (pc := 148) (y := 81) (st := [.int x5, .int x4, .ref 29]) rfl (h1)
    exact ⟨n + 4, ⟨rfl, h⟩⟩
  · obtain ⟨n, h⟩ := px_T_cl (k := 73) (pc := 148) (y := 81) (st := [.int x5, .int x4, .ref 47]) rfl (h1)
    exact ⟨n + 4, ⟨rfl, h⟩⟩
theorem sg_73_152 {x0 : Nat} {d1 : Option Value} {d2 : Option Value} {d3 : Option Value} {x4 : Int32} {x5 : Int32} {x6 : Int32} {M : px_Mem} {Q : px_Po} (h_x0 : px_isW x0) (h1 : px_T 0 68 0 [some (.ref x0), some (.int x4), some (.int x5), none] [] M (fun r M1 => px_T 0 73 161 [some (.ref x0), d1, d2, d3, some (.int x4), some (.int x5), some (.int x6)] (r.toList ++ [.ref x0]) M1 Q)) : px_T 0 73 152 [some (.ref x0), d1, d2, d3, some (.int x4), some (.int x5), some (.int x6)] [] M Q := by
  rcases h_x0 with rfl | rfl
  · obtain ⟨n, h⟩ := px_T_cl (k := 73) (pc := 158) (y := 68) (st := [.int x5, .int x4, .ref 29, .ref 29]) rfl (h1)
    exact ⟨n + 5, ⟨rfl, h⟩⟩
  · obtain ⟨n, h⟩ := px_T_cl (k := 73) (pc := 158) (y := 68) (st := [.int x5, .int x4, .ref 47, .ref 47]) rfl (h1)
    exact ⟨n + 5, ⟨rfl, h⟩⟩
theorem sg_73_167 {x0 : Nat} {d1 : Option Value} {d2 : Option Value} {d3 : Option Value} {x4 : Int32} {x5 : Int32} {x6 : Int32} {M : px_Mem} {Q : px_Po} (h_x0 : px_isW x0) (h1 : px_T 0 68 0 [some (.ref x0), some (.int x4), some (.int x5), none] [] M (fun r M1 => px_T 0 73 176 [some (.ref x0), d1, d2, d3, some (.int x4), some (.int x5), some (.int x6)] (r.toList ++ [.ref x0]) M1 Q)) : px_T 0 73 167 [some (.ref x0), d1, d2, d3, some (.int x4), some (.int x5), some (.int x6)] [] M Q := by
  rcases h_x0 with rfl | rfl
  · obtain ⟨n, h⟩ := px_T_cl (k := 73) (pc := 173) (y := 68) (st := [.int x5, .int x4, .ref 29, .ref 29]) rfl (h1)
    exact ⟨n + 5, ⟨rfl, h⟩⟩
  · obtain ⟨n, h⟩ := px_T_cl (k := 73) (pc := 173) (y := 68) (st := [.int x5, .int x4, .ref 47, .ref 47]) rfl (h1)
    exact ⟨n + 5, ⟨rfl, h⟩⟩
theorem sg_73_182 {x0 : Nat} {d1 : Option Value} {d2 : Option Value} {d3 : Option Value} {x4 : Int32} {x5 : Int32} {d6 : Option Value} {M : px_Mem} {Q : px_Po} (h_x0 : px_isW x0) (h1 : vp_in x4 16) (h2 : Q (some (.int 0)) (px_wI M (x0 + 3) x4.toNatClampNeg ((M.1 (x0 + 3) x4.toNatClampNeg) ||| (1 <<< (x5 &&& 31))))) : px_T 0 73 182 [some (.ref x0), d1, d2, d3, some (.int x4), some (.int x5), d6] [] M Q := by
  rcases h_x0 with rfl | rfl
  · exact ⟨12, ⟨rfl, ⟨Or.inl ⟨0, 16, Or.inl rfl, rfl, h1⟩, ⟨⟨16, rfl, h1⟩, ⟨trivial, h2⟩⟩⟩⟩⟩
  · exact ⟨12, ⟨rfl, ⟨Or.inl ⟨0, 16, Or.inl rfl, rfl, h1⟩, ⟨⟨16, rfl, h1⟩, ⟨trivial, h2⟩⟩⟩⟩⟩
theorem sg_73_96 {d0 : Option Value} {d1 : Option Value} {d2 : Option Value} {d3 : Option Value} {d4 : Option Value} {d5 : Option Value} {d6 : Option Value} {s0 : Int32} {M : px_Mem} {Q : px_Po} (h1 : Q (some (.int s0)) M) : px_T 0 73 96 [d0, d1, d2, d3, d4, d5, d6] [.int s0] M Q := by
  exact ⟨1, ⟨trivial, h1⟩⟩
theorem sg_73_103 {d0 : Option Value} {d1 : Option Value} {d2 : Option Value} {d3 : Option Value} {d4 : Option Value} {d5 : Option Value} {d6 : Option Value} {s0 : Int32} {M : px_Mem} {Q : px_Po} (h1 : Q (some (.int s0)) M) : px_T 0 73 103 [d0, d1, d2, d3, d4, d5, d6] [.int s0] M Q := by
  exact ⟨1, ⟨trivial, h1⟩⟩
theorem sg_73_111 {d0 : Option Value} {d1 : Option Value} {d2 : Option Value} {d3 : Option Value} {d4 : Option Value} {d5 : Option Value} {d6 : Option Value} {s0 : Int32} {M : px_Mem} {Q : px_Po} (h1 : Q (some (.int s0)) M) : px_T 0 73 111 [d0, d1, d2, d3, d4, d5, d6] [.int s0] M Q := by
  exact ⟨1, ⟨trivial, h1⟩⟩
theorem sg_73_120 {d0 : Option Value} {d1 : Option Value} {d2 : Option Value} {d3 : Option Value} {d4 : Option Value} {d5 : Option Value} {d6 : Option Value} {s0 : Int32} {M : px_Mem} {Q : px_Po} (h1 : Q (some (.int s0)) M) : px_T 0 73 120 [d0, d1, d2, d3, d4, d5, d6] [.int s0] M Q := by
  exact ⟨1, ⟨trivial, h1⟩⟩
theorem sg_73_131 {d0 : Option Value} {d1 : Option Value} {d2 : Option Value} {d3 : Option Value} {d4 : Option Value} {d5 : Option Value} {d6 : Option Value} {s0 : Int32} {M : px_Mem} {Q : px_Po} (h1 : Q (some (.int s0)) M) : px_T 0 73 131 [d0, d1, d2, d3, d4, d5, d6] [.int s0] M Q := by
  exact ⟨1, ⟨trivial, h1⟩⟩
theorem sg_73_142 {d0 : Option Value} {d1 : Option Value} {d2 : Option Value} {d3 : Option Value} {d4 : Option Value} {d5 : Option Value} {d6 : Option Value} {s0 : Int32} {M : px_Mem} {Q : px_Po} (h1 : Q (some (.int s0)) M) : px_T 0 73 142 [d0, d1, d2, d3, d4, d5, d6] [.int s0] M Q := by
  exact ⟨1, ⟨trivial, h1⟩⟩
theorem sg_73_151 {d0 : Option Value} {d1 : Option Value} {d2 : Option Value} {d3 : Option Value} {d4 : Option Value} {d5 : Option Value} {d6 : Option Value} {s0 : Int32} {M : px_Mem} {Q : px_Po} (h1 : Q (some (.int s0)) M) : px_T 0 73 151 [d0, d1, d2, d3, d4, d5, d6] [.int s0] M Q := by
  exact ⟨1, ⟨trivial, h1⟩⟩
theorem sg_73_161 {d0 : Option Value} {d1 : Option Value} {d2 : Option Value} {d3 : Option Value} {d4 : Option Value} {d5 : Option Value} {x6 : Int32} {s0 : Int32} {s1 : Nat} {M : px_Mem} {Q : px_Po} (h_s1 : px_isW s1) (h1 : px_T 0 82 0 [some (.ref s1), some (.int s0), some (.int x6), none] [] M (fun r M1 => px_T 0 73 166 [d0, d1, d2, d3, d4, d5, some (.int x6)] (r.toList ++ []) M1 Q)) : px_T 0 73 161 [d0, d1, d2, d3, d4, d5, some (.int x6)] [.int s0, .ref s1] M Q := by
  rcases h_s1 with rfl | rfl
  · obtain ⟨n, h⟩ := px_T_cl (k := 73) (pc := 163) (y := 82) (st := [.int x6, .int s0, .ref 29]) rfl (h1)
    exact ⟨n + 2, ⟨rfl, h⟩⟩
  · obtain ⟨n, h⟩ := px_T_cl (k := 73) (pc := 163) (y := 82) (st := [.int x6, .int s0, .ref 47]) rfl (h1)
    exact ⟨n + 2, ⟨rfl, h⟩⟩
theorem sg_73_176 {d0 : Option Value} {d1 : Option Value} {d2 : Option Value} {d3 : Option Value} {d4 : Option Value} {d5 : Option Value} {x6 : Int32} {s0 : Int32} {s1 : Nat} {M : px_Mem} {Q : px_Po} (h_s1 : px_isW s1) (h1 : px_T 0 83 0 [some (.ref s1), some (.int s0), some (.int x6), none] [] M (fun r M1 => px_T 0 73 181 [d0, d1, d2, d3, d4, d5, some (.int x6)] (r.toList ++ []) M1 Q)) : px_T 0 73 176 [d0, d1, d2, d3, d4, d5, some (.int x6)] [.int s0, .ref s1] M Q := by
  rcases h_s1 with rfl | rfl
  · obtain ⟨n, h⟩ := px_T_cl (k := 73) (pc := 178) (y := 83) (st := [.int x6, .int s0, .ref 29]) rfl (h1)
    exact ⟨n + 2, ⟨rfl, h⟩⟩
  · obtain ⟨n, h⟩ := px_T_cl (k := 73) (pc := 178) (y := 83) (st := [.int x6, .int s0, .ref 47]) rfl (h1)
    exact ⟨n + 2, ⟨rfl, h⟩⟩
theorem sg_73_166 {d0 : Option Value} {d1 : Option Value} {d2 : Option Value} {d3 : Option Value} {d4 : Option Value} {d5 : Option Value} {d6 : Option Value} {s0 : Int32} {M : px_Mem} {Q : px_Po} (h1 : Q (some (.int s0)) M) : px_T 0 73 166 [d0, d1, d2, d3, d4, d5, d6] [.int s0] M Q := by
  exact ⟨1, ⟨trivial, h1⟩⟩
theorem sg_73_181 {d0 : Option Value} {d1 : Option Value} {d2 : Option Value} {d3 : Option Value} {d4 : Option Value} {d5 : Option Value} {d6 : Option Value} {s0 : Int32} {M : px_Mem} {Q : px_Po} (h1 : Q (some (.int s0)) M) : px_T 0 73 181 [d0, d1, d2, d3, d4, d5, d6] [.int s0] M Q := by
  exact ⟨1, ⟨trivial, h1⟩⟩
theorem sg_74_0 {x0 : Nat} {x1 : Int32} {x2 : Int32} {M : px_Mem} {Q : px_Po} (h_x0 : px_isW x0) (h1 : (x2 < 1) → Q (some (.int 2)) M) (h2 : (¬ (x2 < 1)) → ((15 : Int32) < x2) → Q (some (.int 2)) M) (h3 : (¬ (x2 < 1)) → (¬ ((15 : Int32) < x2)) → px_T 0 161 0 [some (.int x2)] [] M (fun r M1 => px_T 0 74 19 [some (.ref x0), some (.int x1), some (.int x2), none] (r.toList ++ [.int (M.1 x0 2)]) M1 Q)) : px_T 0 74 0 [some (.ref x0), some (.int x1), some (.int x2), none] [] M Q := by
  rcases h_x0 with rfl | rfl
  · by_cases c1 : x2 < 1
    · exact ⟨5, ⟨fun _ => ⟨trivial, h1 c1⟩, fun q => absurd c1 q⟩⟩
    · by_cases c2 : (15 : Int32) < x2
      · exact ⟨8, ⟨fun q => absurd q c1, fun _ => ⟨fun _ => ⟨trivial, h2 c1 c2⟩, fun q => absurd c2 q⟩⟩⟩
      · obtain ⟨n, h⟩ := px_T_cl (k := 74) (pc := 16) (y := 161) (st := [.int x2, .int (M.1 29 2)]) rfl (h3 c1 c2)
        exact ⟨n + 10, ⟨fun q => absurd q c1, fun _ => ⟨fun q => absurd q c2, fun _ => ⟨rfl, ⟨rfl, h⟩⟩⟩⟩⟩
  · by_cases c1 : x2 < 1
    · exact ⟨5, ⟨fun _ => ⟨trivial, h1 c1⟩, fun q => absurd c1 q⟩⟩
    · by_cases c2 : (15 : Int32) < x2
      · exact ⟨8, ⟨fun q => absurd q c1, fun _ => ⟨fun _ => ⟨trivial, h2 c1 c2⟩, fun q => absurd c2 q⟩⟩⟩
      · obtain ⟨n, h⟩ := px_T_cl (k := 74) (pc := 16) (y := 161) (st := [.int x2, .int (M.1 47 2)]) rfl (h3 c1 c2)
        exact ⟨n + 10, ⟨fun q => absurd q c1, fun _ => ⟨fun q => absurd q c2, fun _ => ⟨rfl, ⟨rfl, h⟩⟩⟩⟩⟩
theorem sg_74_19 {x0 : Nat} {x1 : Int32} {x2 : Int32} {d3 : Option Value} {s0 : Int32} {s1 : Int32} {M : px_Mem} {Q : px_Po} (h_x0 : px_isW x0) (h1 : ((s1 &&& s0) = 0) → px_T 0 161 0 [some (.int x2)] [] M (fun r M1 => px_T 0 74 34 [some (.ref x0), some (.int x1), some (.int x2), d3] (r.toList ++ [.int (M.1 x0 0), .ref x0]) M1 Q)) (h2 : (¬ ((s1 &&& s0) = 0)) → Q (some (.int 2)) M) : px_T 0 74 19 [some (.ref x0), some (.int x1), some (.int x2), d3] [.int s0, .int s1] M Q := by
  rcases h_x0 with rfl | rfl
  · by_cases c1 : (s1 &&& s0) = 0
    · obtain ⟨n, h⟩ := px_T_cl (k := 74) (pc := 31) (y := 161) (st := [.int x2, .int (M.1 29 0), .ref 29]) rfl (h1 c1)
      exact ⟨n + 7, ⟨fun _ => ⟨rfl, ⟨rfl, h⟩⟩, fun q => absurd c1 q⟩⟩
    · exact ⟨4, ⟨fun q => absurd q c1, fun _ => ⟨trivial, h2 c1⟩⟩⟩
  · by_cases c1 : (s1 &&& s0) = 0
    · obtain ⟨n, h⟩ := px_T_cl (k := 74) (pc := 31) (y := 161) (st := [.int x2, .int (M.1 47 0), .ref 47]) rfl (h1 c1)
      exact ⟨n + 7, ⟨fun _ => ⟨rfl, ⟨rfl, h⟩⟩, fun q => absurd c1 q⟩⟩
    · exact ⟨4, ⟨fun q => absurd q c1, fun _ => ⟨trivial, h2 c1⟩⟩⟩
