theorem sg_22_6 {x1 : Nat} {M : px_Mem} {Q : px_Po} (h_x1 : px_isS x1) (h1 : px_T 0 26 0 [some (.ref 3), some (.ref 1112)] [] M (fun r M1 => px_T 0 22 12 [some (.ref 3), some (.ref x1)] (r.toList ++ []) M1 Q)) : px_T 0 22 6 [some (.ref 3), some (.ref x1)] [] M Q := by
  rcases h_x1 with rfl | rfl | rfl | rfl | rfl
  · obtain ⟨n, h⟩ := px_T_cl (k := 22) (pc := 9) (y := 26) (st := [.ref 1112, .ref 3]) rfl (h1)
    exact ⟨n + 3, ⟨rfl, ⟨rfl, h⟩⟩⟩
  · obtain ⟨n, h⟩ := px_T_cl (k := 22) (pc := 9) (y := 26) (st := [.ref 1112, .ref 3]) rfl (h1)
    exact ⟨n + 3, ⟨rfl, ⟨rfl, h⟩⟩⟩
  · obtain ⟨n, h⟩ := px_T_cl (k := 22) (pc := 9) (y := 26) (st := [.ref 1112, .ref 3]) rfl (h1)
    exact ⟨n + 3, ⟨rfl, ⟨rfl, h⟩⟩⟩
  · obtain ⟨n, h⟩ := px_T_cl (k := 22) (pc := 9) (y := 26) (st := [.ref 1112, .ref 3]) rfl (h1)
    exact ⟨n + 3, ⟨rfl, ⟨rfl, h⟩⟩⟩
  · obtain ⟨n, h⟩ := px_T_cl (k := 22) (pc := 9) (y := 26) (st := [.ref 1112, .ref 3]) rfl (h1)
    exact ⟨n + 3, ⟨rfl, ⟨rfl, h⟩⟩⟩
theorem sg_22_12 {x1 : Nat} {M : px_Mem} {Q : px_Po} (h_x1 : px_isS x1) (h1 : px_T 0 25 0 [some (.ref 3), some (.int 0), some (.int 3), none] [] M (fun r M1 => px_T 0 22 19 [some (.ref 3), some (.ref x1)] (r.toList ++ [.ref x1]) M1 Q)) : px_T 0 22 12 [some (.ref 3), some (.ref x1)] [] M Q := by
  rcases h_x1 with rfl | rfl | rfl | rfl | rfl
  · obtain ⟨n, h⟩ := px_T_cl (k := 22) (pc := 16) (y := 25) (st := [.int 3, .int 0, .ref 3, .ref 4]) rfl (h1)
    exact ⟨n + 5, ⟨rfl, h⟩⟩
  · obtain ⟨n, h⟩ := px_T_cl (k := 22) (pc := 16) (y := 25) (st := [.int 3, .int 0, .ref 3, .ref 6]) rfl (h1)
    exact ⟨n + 5, ⟨rfl, h⟩⟩
  · obtain ⟨n, h⟩ := px_T_cl (k := 22) (pc := 16) (y := 25) (st := [.int 3, .int 0, .ref 3, .ref 9]) rfl (h1)
    exact ⟨n + 5, ⟨rfl, h⟩⟩
  · obtain ⟨n, h⟩ := px_T_cl (k := 22) (pc := 16) (y := 25) (st := [.int 3, .int 0, .ref 3, .ref 11]) rfl (h1)
    exact ⟨n + 5, ⟨rfl, h⟩⟩
  · obtain ⟨n, h⟩ := px_T_cl (k := 22) (pc := 16) (y := 25) (st := [.int 3, .int 0, .ref 3, .ref 13]) rfl (h1)
    exact ⟨n + 5, ⟨rfl, h⟩⟩
theorem sg_22_19 {x1 : Nat} {s0 : Int32} {s1 : Nat} {M : px_Mem} {Q : px_Po} (h_x1 : px_isS x1) (h_s1 : px_isS s1) (h1 : px_T 0 26 0 [some (.ref 3), some (.ref 1113)] [] (px_wI M s1 2 s0) (fun r M1 => px_T 0 22 28 [some (.ref 3), some (.ref x1)] (r.toList ++ []) M1 Q)) : px_T 0 22 19 [some (.ref 3), some (.ref x1)] [.int s0, .ref s1] M Q := by
  rcases h_x1 with rfl | rfl | rfl | rfl | rfl
  · rcases h_s1 with rfl | rfl | rfl | rfl | rfl
    · obtain ⟨n, h⟩ := px_T_cl (k := 22) (pc := 25) (y := 26) (st := [.ref 1113, .ref 3]) rfl (h1)
      exact ⟨n + 4, ⟨rfl, ⟨rfl, ⟨rfl, h⟩⟩⟩⟩
    · obtain ⟨n, h⟩ := px_T_cl (k := 22) (pc := 25) (y := 26) (st := [.ref 1113, .ref 3]) rfl (h1)
      exact ⟨n + 4, ⟨rfl, ⟨rfl, ⟨rfl, h⟩⟩⟩⟩
    · obtain ⟨n, h⟩ := px_T_cl (k := 22) (pc := 25) (y := 26) (st := [.ref 1113, .ref 3]) rfl (h1)
      exact ⟨n + 4, ⟨rfl, ⟨rfl, ⟨rfl, h⟩⟩⟩⟩
    · obtain ⟨n, h⟩ := px_T_cl (k := 22) (pc := 25) (y := 26) (st := [.ref 1113, .ref 3]) rfl (h1)
      exact ⟨n + 4, ⟨rfl, ⟨rfl, ⟨rfl, h⟩⟩⟩⟩
    · obtain ⟨n, h⟩ := px_T_cl (k := 22) (pc := 25) (y := 26) (st := [.ref 1113, .ref 3]) rfl (h1)
      exact ⟨n + 4, ⟨rfl, ⟨rfl, ⟨rfl, h⟩⟩⟩⟩
  · rcases h_s1 with rfl | rfl | rfl | rfl | rfl
    · obtain ⟨n, h⟩ := px_T_cl (k := 22) (pc := 25) (y := 26) (st := [.ref 1113, .ref 3]) rfl (h1)
      exact ⟨n + 4, ⟨rfl, ⟨rfl, ⟨rfl, h⟩⟩⟩⟩
    · obtain ⟨n, h⟩ := px_T_cl (k := 22) (pc := 25) (y := 26) (st := [.ref 1113, .ref 3]) rfl (h1)
      exact ⟨n + 4, ⟨rfl, ⟨rfl, ⟨rfl, h⟩⟩⟩⟩
    · obtain ⟨n, h⟩ := px_T_cl (k := 22) (pc := 25) (y := 26) (st := [.ref 1113, .ref 3]) rfl (h1)
      exact ⟨n + 4, ⟨rfl, ⟨rfl, ⟨rfl, h⟩⟩⟩⟩
    · obtain ⟨n, h⟩ := px_T_cl (k := 22) (pc := 25) (y := 26) (st := [.ref 1113, .ref 3]) rfl (h1)
      exact ⟨n + 4, ⟨rfl, ⟨rfl, ⟨rfl, h⟩⟩⟩⟩
    · obtain ⟨n, h⟩ := px_T_cl (k := 22) (pc := 25) (y := 26) (st := [.ref 1113, .ref 3]) rfl (h1)
      exact ⟨n + 4, ⟨rfl, ⟨rfl, ⟨rfl, h⟩⟩⟩⟩
  · rcases h_s1 with rfl | rfl | rfl | rfl | rfl
    · obtain ⟨n, h⟩ := px_T_cl (k := 22) (pc := 25) (y := 26) (st := [.ref 1113, .ref 3]) rfl (h1)
      exact ⟨n + 4, ⟨rfl, ⟨rfl, ⟨rfl, h⟩⟩⟩⟩
    · obtain ⟨n, h⟩ := px_T_cl (k := 22) (pc := 25) (y := 26) (st := [.ref 1113, .ref 3]) rfl (h1)
      exact ⟨n + 4, ⟨rfl, ⟨rfl, ⟨rfl, h⟩⟩⟩⟩
    · obtain ⟨n, h⟩ := px_T_cl (k := 22) (pc := 25) (y := 26) (st := [.ref 1113, .ref 3]) rfl (h1)
      exact ⟨n + 4, ⟨rfl, ⟨rfl, ⟨rfl, h⟩⟩⟩⟩
    · obtain ⟨n, h⟩ := px_T_cl (k := 22) (pc := 25) (y := 26) (st := [.ref 1113, .ref 3]) rfl (h1)
      exact ⟨n + 4, ⟨rfl, ⟨rfl, ⟨rfl, h⟩⟩⟩⟩
    · obtain ⟨n, h⟩ := px_T_cl (k := 22) (pc := 25) (y := 26) (st := [.ref 1113, .ref 3]) rfl (h1)
      exact ⟨n + 4, ⟨rfl, ⟨rfl, ⟨rfl, h⟩⟩⟩⟩
  · rcases h_s1 with rfl | rfl | rfl | rfl | rfl
    · obtain ⟨n, h⟩ := px_T_cl (k := 22) (pc := 25) (y := 26) (st := [.ref 1113, .ref 3]) rfl (h1)
      exact ⟨n + 4, ⟨rfl, ⟨rfl, ⟨rfl, h⟩⟩⟩⟩
    · obtain ⟨n, h⟩ := px_T_cl (k := 22) (pc := 25) (y := 26) (st := [.ref 1113, .ref 3]) rfl (h1)
      exact ⟨n + 4, ⟨rfl, ⟨rfl, ⟨rfl, h⟩⟩⟩⟩
    · obtain ⟨n, h⟩ := px_T_cl (k := 22) (pc := 25) (y := 26) (st := [.ref 1113, .ref 3]) rfl (h1)
      exact ⟨n + 4, ⟨rfl, ⟨rfl, ⟨rfl, h⟩⟩⟩⟩
    · obtain ⟨n, h⟩ := px_T_cl (k := 22) (pc := 25) (y := 26) (st := [.ref 1113, .ref 3]) rfl (h1)
      exact ⟨n + 4, ⟨rfl, ⟨rfl, ⟨rfl, h⟩⟩⟩⟩
    · obtain ⟨n, h⟩ := px_T_cl (k := 22) (pc := 25) (y := 26) (st := [.ref 1113, .ref 3]) rfl (h1)
      exact ⟨n + 4, ⟨rfl, ⟨rfl, ⟨rfl, h⟩⟩⟩⟩
  · rcases h_s1 with rfl | rfl | rfl | rfl | rfl
    · obtain ⟨n, h⟩ := px_T_cl (k := 22) (pc := 25) (y := 26) (st := [.ref 1113, .ref 3]) rfl (h1)
      exact ⟨n + 4, ⟨rfl, ⟨rfl, ⟨rfl, h⟩⟩⟩⟩
    · obtain ⟨n, h⟩ := px_T_cl (k := 22) (pc := 25) (y := 26) (st := [.ref 1113, .ref 3]) rfl (h1)
      exact ⟨n + 4, ⟨rfl, ⟨rfl, ⟨rfl, h⟩⟩⟩⟩
    · obtain ⟨n, h⟩ := px_T_cl (k := 22) (pc := 25) (y := 26) (st := [.ref 1113, .ref 3]) rfl (h1)
      exact ⟨n + 4, ⟨rfl, ⟨rfl, ⟨rfl, h⟩⟩⟩⟩
    · obtain ⟨n, h⟩ := px_T_cl (k := 22) (pc := 25) (y := 26) (st := [.ref 1113, .ref 3]) rfl (h1)
      exact ⟨n + 4, ⟨rfl, ⟨rfl, ⟨rfl, h⟩⟩⟩⟩
    · obtain ⟨n, h⟩ := px_T_cl (k := 22) (pc := 25) (y := 26) (st := [.ref 1113, .ref 3]) rfl (h1)
      exact ⟨n + 4, ⟨rfl, ⟨rfl, ⟨rfl, h⟩⟩⟩⟩
theorem sg_22_28 {x1 : Nat} {M : px_Mem} {Q : px_Po} (h_x1 : px_isS x1) (h1 : px_T 0 25 0 [some (.ref 3), some (.int 0), some (.int 10), none] [] M (fun r M1 => px_T 0 22 36 [some (.ref 3), some (.ref x1)] (r.toList ++ [.ref x1]) M1 Q)) : px_T 0 22 28 [some (.ref 3), some (.ref x1)] [] M Q := by
  rcases h_x1 with rfl | rfl | rfl | rfl | rfl
  · obtain ⟨n, h⟩ := px_T_cl (k := 22) (pc := 33) (y := 25) (st := [.int 10, .int 0, .ref 3, .ref 4]) rfl (h1)
    exact ⟨n + 5, ⟨rfl, h⟩⟩
  · obtain ⟨n, h⟩ := px_T_cl (k := 22) (pc := 33) (y := 25) (st := [.int 10, .int 0, .ref 3, .ref 6]) rfl (h1)
    exact ⟨n + 5, ⟨rfl, h⟩⟩
  · obtain ⟨n, h⟩ := px_T_cl (k := 22) (pc := 33) (y := 25) (st := [.int 10, .int 0, .ref 3, .ref 9]) rfl (h1)
    exact ⟨n + 5, ⟨rfl, h⟩⟩
  · obtain ⟨n, h⟩ := px_T_cl (k := 22) (pc := 33) (y := 25) (st := [.int 10, .int 0, .ref 3, .ref 11]) rfl (h1)
    exact ⟨n + 5, ⟨rfl, h⟩⟩
  · obtain ⟨n, h⟩ := px_T_cl (k := 22) (pc := 33) (y := 25) (st := [.int 10, .int 0, .ref 3, .ref 13]) rfl (h1)
    exact ⟨n + 5, ⟨rfl, h⟩⟩
theorem sg_22_36 {d1 : Option Value} {s0 : Int32} {s1 : Nat} {M : px_Mem} {Q : px_Po} (h_s1 : px_isS s1) (h1 : px_T 0 27 0 [some (.ref 3)] [] (px_wI M s1 3 s0) (fun r M1 => px_T 0 22 43 [some (.ref 3), d1] (r.toList ++ []) M1 Q)) : px_T 0 22 36 [some (.ref 3), d1] [.int s0, .ref s1] M Q := by
  rcases h_s1 with rfl | rfl | rfl | rfl | rfl
  · obtain ⟨n, h⟩ := px_T_cl (k := 22) (pc := 40) (y := 27) (st := [.ref 3]) rfl (h1)
    exact ⟨n + 3, ⟨rfl, ⟨rfl, h⟩⟩⟩
  · obtain ⟨n, h⟩ := px_T_cl (k := 22) (pc := 40) (y := 27) (st := [.ref 3]) rfl (h1)
    exact ⟨n + 3, ⟨rfl, ⟨rfl, h⟩⟩⟩
  · obtain ⟨n, h⟩ := px_T_cl (k := 22) (pc := 40) (y := 27) (st := [.ref 3]) rfl (h1)
    exact ⟨n + 3, ⟨rfl, ⟨rfl, h⟩⟩⟩
  · obtain ⟨n, h⟩ := px_T_cl (k := 22) (pc := 40) (y := 27) (st := [.ref 3]) rfl (h1)
    exact ⟨n + 3, ⟨rfl, ⟨rfl, h⟩⟩⟩
  · obtain ⟨n, h⟩ := px_T_cl (k := 22) (pc := 40) (y := 27) (st := [.ref 3]) rfl (h1)
    exact ⟨n + 3, ⟨rfl, ⟨rfl, h⟩⟩⟩
theorem sg_22_43 {d0 : Option Value} {d1 : Option Value} {M : px_Mem} {Q : px_Po} (h1 : Q none M) : px_T 0 22 43 [d0, d1] [] M Q := by
  exact ⟨1, ⟨rfl, h1⟩⟩
theorem sg_23_0 {x1 : Nat} {M : px_Mem} {Q : px_Po} (h_x1 : px_isS x1) (h1 : px_T 0 24 0 [some (.ref 3), none] [] M (fun r M1 => px_T 0 23 4 [some (.ref 3), some (.ref x1), none, none, none] (r.toList ++ []) M1 Q)) : px_T 0 23 0 [some (.ref 3), some (.ref x1), none, none, none] [] M Q := by
  rcases h_x1 with rfl | rfl | rfl | rfl | rfl
  · obtain ⟨n, h⟩ := px_T_cl (k := 23) (pc := 1) (y := 24) (st := [.ref 3]) rfl (h1)
    exact ⟨n + 2, ⟨rfl, h⟩⟩
  · obtain ⟨n, h⟩ := px_T_cl (k := 23) (pc := 1) (y := 24) (st := [.ref 3]) rfl (h1)
    exact ⟨n + 2, ⟨rfl, h⟩⟩
  · obtain ⟨n, h⟩ := px_T_cl (k := 23) (pc := 1) (y := 24) (st := [.ref 3]) rfl (h1)
    exact ⟨n + 2, ⟨rfl, h⟩⟩
  · obtain ⟨n, h⟩ := px_T_cl (k := 23) (pc := 1) (y := 24) (st := [.ref 3]) rfl (h1)
    exact ⟨n + 2, ⟨rfl, h⟩⟩
  · obtain ⟨n, h⟩ := px_T_cl (k := 23) (pc := 1) (y := 24) (st := [.ref 3]) rfl (h1)
    exact ⟨n + 2, ⟨rfl, h⟩⟩
theorem sg_23_4 {x1 : Nat} {d2 : Option Value} {d3 : Option Value} {d4 : Option Value} {s0 : Int32} {M : px_Mem} {Q : px_Po} (h_x1 : px_isS x1) (h1 : ((0 : Int32) ≤ s0) → ((M.1 x1 4) < 40) → px_T 0 30 0 [some (.ref 3)] [] M (fun r M1 => px_T 0 23 36 [some (.ref 3), some (.ref x1), some (.int s0), some (.int s0), d4] (r.toList ++ []) M1 Q)) (h2 : ((0 : Int32) ≤ s0) → (¬ ((M.1 x1 4) < 40)) → px_T 0 28 0 [some (.ref 3), some (.int 3)] [] M (fun r M1 => px_T 0 23 29 [some (.ref 3), some (.ref x1), some (.int s0), d3, d4] (r.toList ++ []) M1 Q)) (h3 : (¬ ((0 : Int32) ≤ s0)) → px_T 0 28 0 [some (.ref 3), some (.int 1)] [] M (fun r M1 => px_T 0 23 14 [some (.ref 3), some (.ref x1), some (.int s0), d3, d4] (r.toList ++ []) M1 Q)) : px_T 0 23 4 [some (.ref 3), some (.ref x1), d2, d3, d4] [.int s0] M Q := by
  rcases h_x1 with rfl | rfl | rfl | rfl | rfl
  · by_cases c1 : (0 : Int32) ≤ s0
    · by_cases c2 : (M.1 4 4) < 40
      · obtain ⟨n, h⟩ := px_T_cl (k := 23) (pc := 33) (y := 30) (st := [.ref 3]) rfl (h1 c1 c2)
        exact ⟨n + 11, ⟨fun _ => ⟨rfl, ⟨fun _ => ⟨rfl, h⟩, fun q => absurd c2 q⟩⟩, fun q => absurd c1 q⟩⟩
      · obtain ⟨n, h⟩ := px_T_cl (k := 23) (pc := 26) (y := 28) (st := [.int 3, .ref 3]) rfl (h2 c1 c2)
        exact ⟨n + 10, ⟨fun _ => ⟨rfl, ⟨fun q => absurd q c2, fun _ => ⟨rfl, h⟩⟩⟩, fun q => absurd c1 q⟩⟩
    · obtain ⟨n, h⟩ := px_T_cl (k := 23) (pc := 11) (y := 28) (st := [.int 1, .ref 3]) rfl (h3 c1)
      exact ⟨n + 6, ⟨fun q => absurd q c1, fun _ => ⟨rfl, h⟩⟩⟩
  · by_cases c1 : (0 : Int32) ≤ s0
    · by_cases c2 : (M.1 6 4) < 40
      · obtain ⟨n, h⟩ := px_T_cl (k := 23) (pc := 33) (y := 30) (st := [.ref 3]) rfl (h1 c1 c2)
        exact ⟨n + 11, ⟨fun _ => ⟨rfl, ⟨fun _ => ⟨rfl, h⟩, fun q => absurd c2 q⟩⟩, fun q => absurd c1 q⟩⟩
      · obtain ⟨n, h⟩ := px_T_cl (k := 23) (pc := 26) (y := 28) (st := [.int 3, .ref 3]) rfl (h2 c1 c2)
        exact ⟨n + 10, ⟨fun _ => ⟨rfl, ⟨fun q => absurd q c2, fun _ => ⟨rfl, h⟩⟩⟩, fun q => absurd c1 q⟩⟩
    · obtain ⟨n, h⟩ := px_T_cl (k := 23) (pc := 11) (y := 28) (st := [.int 1, .ref 3]) rfl (h3 c1)
      exact ⟨n + 6, ⟨fun q => absurd q c1, fun _ => ⟨rfl, h⟩⟩⟩
  · by_cases c1 : (0 : Int32) ≤ s0
    · by_cases c2 : (M.1 9 4) < 40
      · obtain ⟨n, h⟩ := px_T_cl (k := 23) (pc := 33) (y := 30) (st := [.ref 3]) rfl (h1 c1 c2)
        exact ⟨n + 11, ⟨fun _ => ⟨rfl, ⟨fun _ => ⟨rfl, h⟩, fun q => absurd c2 q⟩⟩, fun q => absurd c1 q⟩⟩
      · obtain ⟨n, h⟩ := px_T_cl (k := 23) (pc := 26) (y := 28) (st := [.int 3, .ref 3]) rfl (h2 c1 c2)
        exact ⟨n + 10, ⟨fun _ => ⟨rfl, ⟨fun q => absurd q c2, fun _ => ⟨rfl, h⟩⟩⟩, fun q => absurd c1 q⟩⟩
    · obtain ⟨n, h⟩ := px_T_cl (k := 23) (pc := 11) (y := 28) (st := [.int 1, .ref 3]) rfl (h3 c1)
      exact ⟨n + 6, ⟨fun q => absurd q c1, fun _ => ⟨rfl, h⟩⟩⟩
  · by_cases c1 : (0 : Int32) ≤ s0
    · by_cases c2 : (M.1 11 4) < 40
      · obtain ⟨n, h⟩ := px_T_cl (k := 23) (pc := 33) (y := 30) (st := [.ref 3]) rfl (h1 c1 c2)
        exact ⟨n + 11, ⟨fun _ => ⟨rfl, ⟨fun _ => ⟨rfl, h⟩, fun q => absurd c2 q⟩⟩, fun q => absurd c1 q⟩⟩
      · obtain ⟨n, h⟩ := px_T_cl (k := 23) (pc := 26) (y := 28) (st := [.int 3, .ref 3]) rfl (h2 c1 c2)
        exact ⟨n + 10, ⟨fun _ => ⟨rfl, ⟨fun q => absurd q c2, fun _ => ⟨rfl, h⟩⟩⟩, fun q => absurd c1 q⟩⟩
    · obtain ⟨n, h⟩ := px_T_cl (k := 23) (pc := 11) (y := 28) (st := [.int 1, .ref 3]) rfl (h3 c1)
      exact ⟨n + 6, ⟨fun q => absurd q c1, fun _ => ⟨rfl, h⟩⟩⟩
  · by_cases c1 : (0 : Int32) ≤ s0
    · by_cases c2 : (M.1 13 4) < 40
      · obtain ⟨n, h⟩ := px_T_cl (k := 23) (pc := 33) (y := 30) (st := [.ref 3]) rfl (h1 c1 c2)
        exact ⟨n + 11, ⟨fun _ => ⟨rfl, ⟨fun _ => ⟨rfl, h⟩, fun q => absurd c2 q⟩⟩, fun q => absurd c1 q⟩⟩
      · obtain ⟨n, h⟩ := px_T_cl (k := 23) (pc := 26) (y := 28) (st := [.int 3, .ref 3]) rfl (h2 c1 c2)
        exact ⟨n + 10, ⟨fun _ => ⟨rfl, ⟨fun q => absurd q c2, fun _ => ⟨rfl, h⟩⟩⟩, fun q => absurd c1 q⟩⟩
    · obtain ⟨n, h⟩ := px_T_cl (k := 23) (pc := 11) (y := 28) (st := [.int 1, .ref 3]) rfl (h3 c1)
      exact ⟨n + 6, ⟨fun q => absurd q c1, fun _ => ⟨rfl, h⟩⟩⟩
theorem sg_23_36 {x1 : Nat} {x2 : Int32} {x3 : Int32} {d4 : Option Value} {M : px_Mem} {Q : px_Po} (h_x1 : px_isS x1) (h1 : px_T 0 23 39 [some (.ref 3), some (.ref x1), some (.int x2), some (.int x3), some (.int 1)] [] M Q) : px_T 0 23 36 [some (.ref 3), some (.ref x1), some (.int x2), some (.int x3), d4] [] M Q := by
  rcases h_x1 with rfl | rfl | rfl | rfl | rfl
  · obtain ⟨n, h⟩ := h1
    exact ⟨n + 2, h⟩
  · obtain ⟨n, h⟩ := h1
    exact ⟨n + 2, h⟩
  · obtain ⟨n, h⟩ := h1
    exact ⟨n + 2, h⟩
  · obtain ⟨n, h⟩ := h1
    exact ⟨n + 2, h⟩
  · obtain ⟨n, h⟩ := h1
    exact ⟨n + 2, h⟩
theorem sg_23_29 {d0 : Option Value} {d1 : Option Value} {d2 : Option Value} {d3 : Option Value} {d4 : Option Value} {M : px_Mem} {Q : px_Po} (h1 : Q none M) : px_T 0 23 29 [d0, d1, d2, d3, d4] [] M Q := by
  exact ⟨1, ⟨rfl, h1⟩⟩
theorem sg_23_14 {d0 : Option Value} {d1 : Option Value} {d2 : Option Value} {d3 : Option Value} {d4 : Option Value} {M : px_Mem} {Q : px_Po} (h1 : Q none M) : px_T 0 23 14 [d0, d1, d2, d3, d4] [] M Q := by
  exact ⟨1, ⟨rfl, h1⟩⟩
theorem sg_23_39 {x1 : Nat} {x2 : Int32} {x3 : Int32} {x4 : Int32} {M : px_Mem} {Q : px_Po} (h_x1 : px_isS x1) (h1 : px_T 0 4 0 [some (.int x3)] [] M (fun r M1 => px_T 0 23 45 [some (.ref 3), some (.ref x1), some (.int x2), some (.int x3), some (.int x4)] (r.toList ++ [.int x4]) M1 Q)) : px_T 0 23 39 [some (.ref 3), some (.ref x1), some (.int x2), some (.int x3), some (.int x4)] [] M Q := by
  rcases h_x1 with rfl | rfl | rfl | rfl | rfl
  · obtain ⟨n, h⟩ := px_T_cl (k := 23) (pc := 42) (y := 4) (st := [.int x3, .int x4]) rfl (h1)
    exact ⟨n + 3, h⟩
  · obtain ⟨n, h⟩ := px_T_cl (k := 23) (pc := 42) (y := 4) (st := [.int x3, .int x4]) rfl (h1)
    exact ⟨n + 3, h⟩
  · obtain ⟨n, h⟩ := px_T_cl (k := 23) (pc := 42) (y := 4) (st := [.int x3, .int x4]) rfl (h1)
    exact ⟨n + 3, h⟩
  · obtain ⟨n, h⟩ := px_T_cl (k := 23) (pc := 42) (y := 4) (st := [.int x3, .int x4]) rfl (h1)
    exact ⟨n + 3, h⟩
  · obtain ⟨n, h⟩ := px_T_cl (k := 23) (pc := 42) (y := 4) (st := [.int x3, .int x4]) rfl (h1)
    exact ⟨n + 3, h⟩
theorem sg_23_45 {x1 : Nat} {x2 : Int32} {x3 : Int32} {x4 : Int32} {s0 : Int32} {s1 : Int32} {M : px_Mem} {Q : px_Po} (h_x1 : px_isS x1) (h1 : (s0 < s1) → px_T 0 27 0 [some (.ref 3)] [] M (fun r M1 => px_T 0 23 82 [some (.ref 3), some (.ref x1), some (.int x2), some (.int x3), some (.int x4)] (r.toList ++ []) M1 Q)) (h2 : (¬ (s0 < s1)) → px_T 0 5 0 [some (.int x3), some (.int x4)] [] M (fun r M1 => px_T 0 23 56 [some (.ref 3), some (.ref x1), some (.int x2), some (.int x3), some (.int x4)] (r.toList ++ [.ref 3, .int x2]) M1 Q)) : px_T 0 23 45 [some (.ref 3), some (.ref x1), some (.int x2), some (.int x3), some (.int x4)] [.int s0, .int s1] M Q := by
  rcases h_x1 with rfl | rfl | rfl | rfl | rfl
  · by_cases c1 : s0 < s1
    · obtain ⟨n, h⟩ := px_T_cl (k := 23) (pc := 79) (y := 27) (st := [.ref 3]) rfl (h1 c1)
      exact ⟨n + 3, ⟨fun _ => ⟨rfl, h⟩, fun q => absurd c1 q⟩⟩
    · obtain ⟨n, h⟩ := px_T_cl (k := 23) (pc := 53) (y := 5) (st := [.int x4, .int x3, .ref 3, .int x2]) rfl (h2 c1)
      exact ⟨n + 6, ⟨fun q => absurd q c1, fun _ => h⟩⟩
  · by_cases c1 : s0 < s1
    · obtain ⟨n, h⟩ := px_T_cl (k := 23) (pc := 79) (y := 27) (st := [.ref 3]) rfl (h1 c1)
      exact ⟨n + 3, ⟨fun _ => ⟨rfl, h⟩, fun q => absurd c1 q⟩⟩
    · obtain ⟨n, h⟩ := px_T_cl (k := 23) (pc := 53) (y := 5) (st := [.int x4, .int x3, .ref 3, .int x2]) rfl (h2 c1)
      exact ⟨n + 6, ⟨fun q => absurd q c1, fun _ => h⟩⟩
  · by_cases c1 : s0 < s1
    · obtain ⟨n, h⟩ := px_T_cl (k := 23) (pc := 79) (y := 27) (st := [.ref 3]) rfl (h1 c1)
      exact ⟨n + 3, ⟨fun _ => ⟨rfl, h⟩, fun q => absurd c1 q⟩⟩
    · obtain ⟨n, h⟩ := px_T_cl (k := 23) (pc := 53) (y := 5) (st := [.int x4, .int x3, .ref 3, .int x2]) rfl (h2 c1)
      exact ⟨n + 6, ⟨fun q => absurd q c1, fun _ => h⟩⟩
  · by_cases c1 : s0 < s1
    · obtain ⟨n, h⟩ := px_T_cl (k := 23) (pc := 79) (y := 27) (st := [.ref 3]) rfl (h1 c1)
      exact ⟨n + 3, ⟨fun _ => ⟨rfl, h⟩, fun q => absurd c1 q⟩⟩
    · obtain ⟨n, h⟩ := px_T_cl (k := 23) (pc := 53) (y := 5) (st := [.int x4, .int x3, .ref 3, .int x2]) rfl (h2 c1)
      exact ⟨n + 6, ⟨fun q => absurd q c1, fun _ => h⟩⟩
  · by_cases c1 : s0 < s1
    · obtain ⟨n, h⟩ := px_T_cl (k := 23) (pc := 79) (y := 27) (st := [.ref 3]) rfl (h1 c1)
      exact ⟨n + 3, ⟨fun _ => ⟨rfl, h⟩, fun q => absurd c1 q⟩⟩
    · obtain ⟨n, h⟩ := px_T_cl (k := 23) (pc := 53) (y := 5) (st := [.int x4, .int x3, .ref 3, .int x2]) rfl (h2 c1)
      exact ⟨n + 6, ⟨fun q => absurd q c1, fun _ => h⟩⟩
theorem sg_23_82 {d0 : Option Value} {x1 : Nat} {x2 : Int32} {d3 : Option Value} {d4 : Option Value} {M : px_Mem} {Q : px_Po} (h_x1 : px_isS x1) (h1 : px_T 0 55 0 [some (.ref x1), some (.int x2)] [] M (fun r M1 => px_T 0 23 87 [d0, some (.ref x1), some (.int x2), d3, d4] (r.toList ++ []) M1 Q)) : px_T 0 23 82 [d0, some (.ref x1), some (.int x2), d3, d4] [] M Q := by
  rcases h_x1 with rfl | rfl | rfl | rfl | rfl
  · obtain ⟨n, h⟩ := px_T_cl (k := 23) (pc := 84) (y := 55) (st := [.int x2, .ref 4]) rfl (h1)
    exact ⟨n + 3, ⟨rfl, h⟩⟩
  · obtain ⟨n, h⟩ := px_T_cl (k := 23) (pc := 84) (y := 55) (st := [.int x2, .ref 6]) rfl (h1)
    exact ⟨n + 3, ⟨rfl, h⟩⟩
  · obtain ⟨n, h⟩ := px_T_cl (k := 23) (pc := 84) (y := 55) (st := [.int x2, .ref 9]) rfl (h1)
    exact ⟨n + 3, ⟨rfl, h⟩⟩
  · obtain ⟨n, h⟩ := px_T_cl (k := 23) (pc := 84) (y := 55) (st := [.int x2, .ref 11]) rfl (h1)
    exact ⟨n + 3, ⟨rfl, h⟩⟩
  · obtain ⟨n, h⟩ := px_T_cl (k := 23) (pc := 84) (y := 55) (st := [.int x2, .ref 13]) rfl (h1)
    exact ⟨n + 3, ⟨rfl, h⟩⟩
theorem sg_23_56 {x1 : Nat} {d2 : Option Value} {x3 : Int32} {x4 : Int32} {s0 : Int32} {s2 : Int32} {M : px_Mem} {Q : px_Po} (h_x1 : px_isS x1) (h1 : px_T 0 6 0 [some (.int x3), some (.int x4)] [] M (fun r M1 => px_T 0 23 62 [some (.ref 3), some (.ref x1), d2, some (.int x3), some (.int x4)] (r.toList ++ [.int s0, .ref 3, .int s2]) M1 Q)) : px_T 0 23 56 [some (.ref 3), some (.ref x1), d2, some (.int x3), some (.int x4)] [.int s0, .ref 3, .int s2] M Q := by
  rcases h_x1 with rfl | rfl | rfl | rfl | rfl
  · obtain ⟨n, h⟩ := px_T_cl (k := 23) (pc := 59) (y := 6) (st := [.int x4, .int x3, .int s0, .ref 3, .int s2]) rfl (h1)
    exact ⟨n + 3, h⟩
  · obtain ⟨n, h⟩ := px_T_cl (k := 23) (pc := 59) (y := 6) (st := [.int x4, .int x3, .int s0, .ref 3, .int s2]) rfl (h1)
    exact ⟨n + 3, h⟩
  · obtain ⟨n, h⟩ := px_T_cl (k := 23) (pc := 59) (y := 6) (st := [.int x4, .int x3, .int s0, .ref 3, .int s2]) rfl (h1)
    exact ⟨n + 3, h⟩
  · obtain ⟨n, h⟩ := px_T_cl (k := 23) (pc := 59) (y := 6) (st := [.int x4, .int x3, .int s0, .ref 3, .int s2]) rfl (h1)
    exact ⟨n + 3, h⟩
  · obtain ⟨n, h⟩ := px_T_cl (k := 23) (pc := 59) (y := 6) (st := [.int x4, .int x3, .int s0, .ref 3, .int s2]) rfl (h1)
    exact ⟨n + 3, h⟩
theorem sg_23_87 {d0 : Option Value} {x1 : Nat} {d2 : Option Value} {d3 : Option Value} {d4 : Option Value} {M : px_Mem} {Q : px_Po} (h_x1 : px_isS x1) (h1 : Q none (px_wI M x1 4 ((M.1 x1 4) + 1))) : px_T 0 23 87 [d0, some (.ref x1), d2, d3, d4] [] M Q := by
  rcases h_x1 with rfl | rfl | rfl | rfl | rfl
  · exact ⟨7, ⟨rfl, ⟨rfl, ⟨rfl, h1⟩⟩⟩⟩
  · exact ⟨7, ⟨rfl, ⟨rfl, ⟨rfl, h1⟩⟩⟩⟩
  · exact ⟨7, ⟨rfl, ⟨rfl, ⟨rfl, h1⟩⟩⟩⟩
  · exact ⟨7, ⟨rfl, ⟨rfl, ⟨rfl, h1⟩⟩⟩⟩
  · exact ⟨7, ⟨rfl, ⟨rfl, ⟨rfl, h1⟩⟩⟩⟩
theorem sg_23_62 {x1 : Nat} {d2 : Option Value} {x3 : Int32} {x4 : Int32} {s0 : Int32} {s1 : Int32} {s3 : Int32} {M : px_Mem} {Q : px_Po} (h_x1 : px_isS x1) (h1 : px_T 0 25 0 [some (.ref 3), some (.int s1), some (.int s0), none] [] M (fun r M1 => px_T 0 23 65 [some (.ref 3), some (.ref x1), d2, some (.int x3), some (.int x4)] (r.toList ++ [.int s3]) M1 Q)) : px_T 0 23 62 [some (.ref 3), some (.ref x1), d2, some (.int x3), some (.int x4)] [.int s0, .int s1, .ref 3, .int s3] M Q := by
  rcases h_x1 with rfl | rfl | rfl | rfl | rfl
  · obtain ⟨n, h⟩ := px_T_cl (k := 23) (pc := 62) (y := 25) (st := [.int s0, .int s1, .ref 3, .int s3]) rfl (h1)
    exact ⟨n + 1, ⟨rfl, h⟩⟩
  · obtain ⟨n, h⟩ := px_T_cl (k := 23) (pc := 62) (y := 25) (st := [.int s0, .int s1, .ref 3, .int s3]) rfl (h1)
    exact ⟨n + 1, ⟨rfl, h⟩⟩
  · obtain ⟨n, h⟩ := px_T_cl (k := 23) (pc := 62) (y := 25) (st := [.int s0, .int s1, .ref 3, .int s3]) rfl (h1)
    exact ⟨n + 1, ⟨rfl, h⟩⟩
  · obtain ⟨n, h⟩ := px_T_cl (k := 23) (pc := 62) (y := 25) (st := [.int s0, .int s1, .ref 3, .int s3]) rfl (h1)
    exact ⟨n + 1, ⟨rfl, h⟩⟩
  · obtain ⟨n, h⟩ := px_T_cl (k := 23) (pc := 62) (y := 25) (st := [.int s0, .int s1, .ref 3, .int s3]) rfl (h1)
    exact ⟨n + 1, ⟨rfl, h⟩⟩
theorem sg_23_65 {x1 : Nat} {d2 : Option Value} {x3 : Int32} {x4 : Int32} {s0 : Int32} {s1 : Int32} {M : px_Mem} {Q : px_Po} (h_x1 : px_isS x1) (h1 : px_T 0 1 0 [some (.int s0), some (.int x4)] [] M (fun r M1 => px_T 0 23 70 [some (.ref 3), some (.ref x1), d2, some (.int x3), some (.int x4)] (r.toList ++ [.int s1]) M1 Q)) : px_T 0 23 65 [some (.ref 3), some (.ref x1), d2, some (.int x3), some (.int x4)] [.int s0, .int s1] M Q := by
  rcases h_x1 with rfl | rfl | rfl | rfl | rfl
  · obtain ⟨n, h⟩ := px_T_cl (k := 23) (pc := 67) (y := 1) (st := [.int x4, .int s0, .int s1]) rfl (h1)
    exact ⟨n + 2, h⟩
  · obtain ⟨n, h⟩ := px_T_cl (k := 23) (pc := 67) (y := 1) (st := [.int x4, .int s0, .int s1]) rfl (h1)
    exact ⟨n + 2, h⟩
  · obtain ⟨n, h⟩ := px_T_cl (k := 23) (pc := 67) (y := 1) (st := [.int x4, .int s0, .int s1]) rfl (h1)
    exact ⟨n + 2, h⟩
  · obtain ⟨n, h⟩ := px_T_cl (k := 23) (pc := 67) (y := 1) (st := [.int x4, .int s0, .int s1]) rfl (h1)
    exact ⟨n + 2, h⟩
  · obtain ⟨n, h⟩ := px_T_cl (k := 23) (pc := 67) (y := 1) (st := [.int x4, .int s0, .int s1]) rfl (h1)
    exact ⟨n + 2, h⟩
theorem sg_23_70 {x1 : Nat} {d2 : Option Value} {x3 : Int32} {x4 : Int32} {s0 : Int32} {s1 : Int32} {M : px_Mem} {Q : px_Po} (h_x1 : px_isS x1) (h1 : px_T 0 23 39 [some (.ref 3), some (.ref x1), some (.int (s1 ||| s0)), some (.int x3), some (.int (x4 + 1))] [] M Q) : px_T 0 23 70 [some (.ref 3), some (.ref x1), d2, some (.int x3), some (.int x4)] [.int s0, .int s1] M Q := by
  rcases h_x1 with rfl | rfl | rfl | rfl | rfl
  · obtain ⟨n, h⟩ := h1
    exact ⟨n + 4, h⟩
  · obtain ⟨n, h⟩ := h1
    exact ⟨n + 4, h⟩
  · obtain ⟨n, h⟩ := h1
    exact ⟨n + 4, h⟩
  · obtain ⟨n, h⟩ := h1
    exact ⟨n + 4, h⟩
  · obtain ⟨n, h⟩ := h1
    exact ⟨n + 4, h⟩
theorem sg_24_0 {M : px_Mem} {Q : px_Po} (h1 : px_T 0 24 2 [some (.ref 3), some (.int 0)] [] M Q) : px_T 0 24 0 [some (.ref 3), none] [] M Q := by
  obtain ⟨n, h⟩ := h1
  exact ⟨n + 2, h⟩
theorem sg_24_2 {x1 : Int32} {M : px_Mem} {Q : px_Po} (h1 : ((10 : Int32) ≤ x1) → Q (some (.int (-1))) M) (h2 : (¬ ((10 : Int32) ≤ x1)) → px_T 0 9 0 [some (.int x1)] [] M (fun r M1 => px_T 0 24 13 [some (.ref 3), some (.int x1)] (r.toList ++ [.ref 3]) M1 Q)) : px_T 0 24 2 [some (.ref 3), some (.int x1)] [] M Q := by
  by_cases c1 : (10 : Int32) ≤ x1
  · exact ⟨5, ⟨fun _ => ⟨trivial, h1 c1⟩, fun q => absurd c1 q⟩⟩
  · obtain ⟨n, h⟩ := px_T_cl (k := 24) (pc := 10) (y := 9) (st := [.int x1, .ref 3]) rfl (h2 c1)
    exact ⟨n + 6, ⟨fun q => absurd q c1, fun _ => h⟩⟩
theorem sg_24_13 {x1 : Int32} {s0 : Nat} {M : px_Mem} {Q : px_Po} (h1 : px_T 0 29 0 [some (.ref 3), some (.ref s0), none] [] M (fun r M1 => px_T 0 24 16 [some (.ref 3), some (.int x1)] (r.toList ++ []) M1 Q)) : px_T 0 24 13 [some (.ref 3), some (.int x1)] [.ref s0, .ref 3] M Q := by
  obtain ⟨n, h⟩ := px_T_cl (k := 24) (pc := 13) (y := 29) (st := [.ref s0, .ref 3]) rfl (h1)
  exact ⟨n + 1, ⟨rfl, h⟩⟩
theorem sg_24_16 {x1 : Int32} {s0 : Int32} {M : px_Mem} {Q : px_Po} (h1 : (s0 = 0) → px_T 0 24 2 [some (.ref 3), some (.int (x1 + 1))] [] M Q) (h2 : (¬ (s0 = 0)) → Q (some (.int x1)) M) : px_T 0 24 16 [some (.ref 3), some (.int x1)] [.int s0] M Q := by
  by_cases c1 : s0 = 0
  · obtain ⟨n, h⟩ := h1 c1
    exact ⟨n + 3, ⟨fun _ => h, fun q => absurd c1 q⟩⟩
  · exact ⟨3, ⟨fun q => absurd q c1, fun _ => ⟨trivial, h2 c1⟩⟩⟩
theorem sg_25_0 {x1 : Int32} {x2 : Int32} {M : px_Mem} {Q : px_Po} (h1 : ((M.1 3 3) = 2) → ((M.1 3 6) < x1) → px_T 0 28 0 [some (.ref 3), some (.int 2)] [] M (fun r M1 => px_T 0 25 36 [some (.ref 3), some (.int x1), some (.int x2), some (.int (M.1 3 6))] (r.toList ++ []) M1 Q)) (h2 : ((M.1 3 3) = 2) → (¬ ((M.1 3 6) < x1)) → ((M.1 3 6) ≤ x2) → px_T 0 30 0 [some (.ref 3)] [] M (fun r M1 => px_T 0 25 40 [some (.ref 3), some (.int x1), some (.int x2), some (.int (M.1 3 6))] (r.toList ++ []) M1 Q)) (h3 : ((M.1 3 3) = 2) → (¬ ((M.1 3 6) < x1)) → (¬ ((M.1 3 6) ≤ x2)) → px_T 0 28 0 [some (.ref 3), some (.int 2)] [] M (fun r M1 => px_T 0 25 36 [some (.ref 3), some (.int x1), some (.int x2), some (.int (M.1 3 6))] (r.toList ++ []) M1 Q)) (h4 : (¬ ((M.1 3 3) = 2)) → px_T 0 28 0 [some (.ref 3), some (.int 1)] [] M (fun r M1 => px_T 0 25 18 [some (.ref 3), some (.int x1), some (.int x2), some (.int (M.1 3 6))] (r.toList ++ []) M1 Q)) : px_T 0 25 0 [some (.ref 3), some (.int x1), some (.int x2), none] [] M Q := by
  by_cases c1 : (M.1 3 3) = 2
  · by_cases c2 : (M.1 3 6) < x1
    · obtain ⟨n, h⟩ := px_T_cl (k := 25) (pc := 33) (y := 28) (st := [.int 2, .ref 3]) rfl (h1 c1 c2)
      exact ⟨n + 13, ⟨rfl, ⟨rfl, ⟨fun _ => ⟨fun _ => ⟨rfl, h⟩, fun q => absurd c2 q⟩, fun q => absurd c1 q⟩⟩⟩⟩
    · by_cases c3 : (M.1 3 6) ≤ x2
      · obtain ⟨n, h⟩ := px_T_cl (k := 25) (pc := 37) (y := 30) (st := [.ref 3]) rfl (h2 c1 c2 c3)
        exact ⟨n + 15, ⟨rfl, ⟨rfl, ⟨fun _ => ⟨fun q => absurd q c2, fun _ => ⟨fun _ => ⟨rfl, h⟩, fun q => absurd c3 q⟩⟩, fun q => absurd c1 q⟩⟩⟩⟩
      · obtain ⟨n, h⟩ := px_T_cl (k := 25) (pc := 33) (y := 28) (st := [.int 2, .ref 3]) rfl (h3 c1 c2 c3)
        exact ⟨n + 16, ⟨rfl, ⟨rfl, ⟨fun _ => ⟨fun q => absurd q c2, fun _ => ⟨fun q => absurd q c3, fun _ => ⟨rfl, h⟩⟩⟩, fun q => absurd c1 q⟩⟩⟩⟩
  · obtain ⟨n, h⟩ := px_T_cl (k := 25) (pc := 15) (y := 28) (st := [.int 1, .ref 3]) rfl (h4 c1)
    exact ⟨n + 10, ⟨rfl, ⟨rfl, ⟨fun q => absurd q c1, fun _ => ⟨rfl, h⟩⟩⟩⟩⟩
theorem sg_25_36 {d1 : Option Value} {d2 : Option Value} {x3 : Int32} {M : px_Mem} {Q : px_Po} (h1 : px_T 0 30 0 [some (.ref 3)] [] M (fun r M1 => px_T 0 25 40 [some (.ref 3), d1, d2, some (.int x3)] (r.toList ++ []) M1 Q)) : px_T 0 25 36 [some (.ref 3), d1, d2, some (.int x3)] [] M Q := by
  obtain ⟨n, h⟩ := px_T_cl (k := 25) (pc := 37) (y := 30) (st := [.ref 3]) rfl (h1)
  exact ⟨n + 2, ⟨rfl, h⟩⟩
theorem sg_25_40 {d0 : Option Value} {d1 : Option Value} {d2 : Option Value} {x3 : Int32} {M : px_Mem} {Q : px_Po} (h1 : Q (some (.int x3)) M) : px_T 0 25 40 [d0, d1, d2, some (.int x3)] [] M Q := by
  exact ⟨2, ⟨trivial, h1⟩⟩
theorem sg_25_18 {d1 : Option Value} {d2 : Option Value} {x3 : Int32} {M : px_Mem} {Q : px_Po} (h1 : px_T 0 30 0 [some (.ref 3)] [] M (fun r M1 => px_T 0 25 40 [some (.ref 3), d1, d2, some (.int x3)] (r.toList ++ []) M1 Q)) : px_T 0 25 18 [some (.ref 3), d1, d2, some (.int x3)] [] M Q := by
  obtain ⟨n, h⟩ := px_T_cl (k := 25) (pc := 37) (y := 30) (st := [.ref 3]) rfl (h1)
  exact ⟨n + 3, ⟨rfl, h⟩⟩
theorem sg_26_0 {x1 : Nat} {M : px_Mem} {Q : px_Po} (h1 : px_T 0 29 0 [some (.ref 3), some (.ref x1), none] [] M (fun r M1 => px_T 0 26 5 [some (.ref 3), some (.ref x1)] (r.toList ++ []) M1 Q)) : px_T 0 26 0 [some (.ref 3), some (.ref x1)] [] M Q := by
  obtain ⟨n, h⟩ := px_T_cl (k := 26) (pc := 2) (y := 29) (st := [.ref x1, .ref 3]) rfl (h1)
  exact ⟨n + 3, ⟨rfl, h⟩⟩
theorem sg_26_5 {d1 : Option Value} {s0 : Int32} {M : px_Mem} {Q : px_Po} (h1 : (s0 = 0) → px_T 0 28 0 [some (.ref 3), some (.int 1)] [] M (fun r M1 => px_T 0 26 13 [some (.ref 3), d1] (r.toList ++ []) M1 Q)) (h2 : (¬ (s0 = 0)) → px_T 0 30 0 [some (.ref 3)] [] M (fun r M1 => px_T 0 26 17 [some (.ref 3), d1] (r.toList ++ []) M1 Q)) : px_T 0 26 5 [some (.ref 3), d1] [.int s0] M Q := by
  by_cases c1 : s0 = 0
  · obtain ⟨n, h⟩ := px_T_cl (k := 26) (pc := 10) (y := 28) (st := [.int 1, .ref 3]) rfl (h1 c1)
    exact ⟨n + 4, ⟨fun q => absurd c1 q, fun _ => ⟨rfl, h⟩⟩⟩
  · obtain ⟨n, h⟩ := px_T_cl (k := 26) (pc := 14) (y := 30) (st := [.ref 3]) rfl (h2 c1)
    exact ⟨n + 3, ⟨fun _ => ⟨rfl, h⟩, fun q => absurd q c1⟩⟩
theorem sg_26_13 {d1 : Option Value} {M : px_Mem} {Q : px_Po} (h1 : px_T 0 30 0 [some (.ref 3)] [] M (fun r M1 => px_T 0 26 17 [some (.ref 3), d1] (r.toList ++ []) M1 Q)) : px_T 0 26 13 [some (.ref 3), d1] [] M Q := by
  obtain ⟨n, h⟩ := px_T_cl (k := 26) (pc := 14) (y := 30) (st := [.ref 3]) rfl (h1)
  exact ⟨n + 2, ⟨rfl, h⟩⟩
theorem sg_26_17 {d0 : Option Value} {d1 : Option Value} {M : px_Mem} {Q : px_Po} (h1 : Q none M) : px_T 0 26 17 [d0, d1] [] M Q := by
  exact ⟨1, ⟨rfl, h1⟩⟩
theorem sg_27_0 {M : px_Mem} {Q : px_Po} (h1 : ((M.1 3 3) = 3) → px_T 0 30 0 [some (.ref 3)] [] M (fun r M1 => px_T 0 27 17 [some (.ref 3)] (r.toList ++ []) M1 Q)) (h2 : (¬ ((M.1 3 3) = 3)) → px_T 0 28 0 [some (.ref 3), some (.int 1)] [] M (fun r M1 => px_T 0 27 13 [some (.ref 3)] (r.toList ++ []) M1 Q)) : px_T 0 27 0 [some (.ref 3)] [] M Q := by
  by_cases c1 : (M.1 3 3) = 3
  · obtain ⟨n, h⟩ := px_T_cl (k := 27) (pc := 14) (y := 30) (st := [.ref 3]) rfl (h1 c1)
    exact ⟨n + 6, ⟨rfl, ⟨fun _ => ⟨rfl, h⟩, fun q => absurd c1 q⟩⟩⟩
  · obtain ⟨n, h⟩ := px_T_cl (k := 27) (pc := 10) (y := 28) (st := [.int 1, .ref 3]) rfl (h2 c1)
    exact ⟨n + 7, ⟨rfl, ⟨fun q => absurd q c1, fun _ => ⟨rfl, h⟩⟩⟩⟩
theorem sg_27_17 {d0 : Option Value} {M : px_Mem} {Q : px_Po} (h1 : Q none M) : px_T 0 27 17 [d0] [] M Q := by
  exact ⟨1, ⟨rfl, h1⟩⟩
theorem sg_27_13 {M : px_Mem} {Q : px_Po} (h1 : px_T 0 30 0 [some (.ref 3)] [] M (fun r M1 => px_T 0 27 17 [some (.ref 3)] (r.toList ++ []) M1 Q)) : px_T 0 27 13 [some (.ref 3)] [] M Q := by
  obtain ⟨n, h⟩ := px_T_cl (k := 27) (pc := 14) (y := 30) (st := [.ref 3]) rfl (h1)
  exact ⟨n + 2, ⟨rfl, h⟩⟩
theorem sg_28_0 {x1 : Int32} {M : px_Mem} {Q : px_Po} (h1 : ((M.1 3 1) = 0) → Q none (px_wI (px_wI M 3 1 x1) 3 2 (M.1 3 4))) (h2 : (¬ ((M.1 3 1) = 0)) → Q none M) : px_T 0 28 0 [some (.ref 3), some (.int x1)] [] M Q := by
  by_cases c1 : (M.1 3 1) = 0
  · exact ⟨11, ⟨rfl, ⟨fun q => absurd c1 q, fun _ => ⟨rfl, ⟨rfl, ⟨rfl, ⟨rfl, h1 c1⟩⟩⟩⟩⟩⟩⟩
  · exact ⟨4, ⟨rfl, ⟨fun _ => ⟨rfl, h2 c1⟩, fun q => absurd q c1⟩⟩⟩
theorem sg_29_0 {x1 : Nat} {M : px_Mem} {Q : px_Po} (h1 : ((M.1 3 3) = 1) → px_T 0 333 0 [some (.ref x1)] [] M (fun r M1 => px_T 0 29 21 [some (.ref 3), some (.ref x1), none] (r.toList ++ [.int ((M.1 3 5) - (M.1 3 4))]) M1 Q)) (h2 : ((M.1 3 3) = 1) → px_sh 0 x1 = some (.inl 12)) (h3 : (¬ ((M.1 3 3) = 1)) → Q (some (.int 0)) M) : px_T 0 29 0 [some (.ref 3), some (.ref x1), none] [] M Q := by
  by_cases c1 : (M.1 3 3) = 1
  · obtain ⟨n, h⟩ := px_T_cl (k := 29) (pc := 18) (y := 333) (st := [.ref x1, .int ((M.1 3 5) - (M.1 3 4))]) rfl (h1 c1)
    exact ⟨n + 11, ⟨rfl, ⟨fun q => absurd c1 q, fun _ => ⟨rfl, ⟨rfl, ⟨(h2 c1), h⟩⟩⟩⟩⟩⟩
  · exact ⟨6, ⟨rfl, ⟨fun _ => ⟨Or.inl rfl, h3 c1⟩, fun q => absurd q c1⟩⟩⟩
theorem sg_29_21 {x1 : Nat} {d2 : Option Value} {s0 : Int32} {s1 : Int32} {M : px_Mem} {Q : px_Po} (h1 : (s1 = s0) → px_T 0 29 28 [some (.ref 3), some (.ref x1), some (.int 0)] [] M Q) (h2 : (¬ (s1 = s0)) → Q (some (.int 0)) M) : px_T 0 29 21 [some (.ref 3), some (.ref x1), d2] [.int s0, .int s1] M Q := by
  by_cases c1 : s1 = s0
  · obtain ⟨n, h⟩ := h1 c1
    exact ⟨n + 3, ⟨fun _ => h, fun q => absurd c1 q⟩⟩
  · exact ⟨3, ⟨fun q => absurd q c1, fun _ => ⟨Or.inl rfl, h2 c1⟩⟩⟩
theorem sg_29_28 {x1 : Nat} {x2 : Int32} {M : px_Mem} {Q : px_Po} (h1 : px_T 0 333 0 [some (.ref x1)] [] M (fun r M1 => px_T 0 29 33 [some (.ref 3), some (.ref x1), some (.int x2)] (r.toList ++ [.int x2]) M1 Q)) (h2 : px_sh 0 x1 = some (.inl 12)) : px_T 0 29 28 [some (.ref 3), some (.ref x1), some (.int x2)] [] M Q := by
  obtain ⟨n, h⟩ := px_T_cl (k := 29) (pc := 30) (y := 333) (st := [.ref x1, .int x2]) rfl (h1)
  exact ⟨n + 3, ⟨h2, h⟩⟩
theorem sg_29_33 {x1 : Nat} {x2 : Int32} {s0 : Int32} {s1 : Int32} {M : px_Mem} {Q : px_Po} (h1 : (s0 ≤ s1) → Q (some (.int 1)) M) (h2 : (¬ (s0 ≤ s1)) → px_T 0 59 0 [some (.ref 1), some (.int ((M.1 3 4) + x2))] [] M (fun r M1 => px_T 0 29 49 [some (.ref 3), some (.ref x1), some (.int x2)] (r.toList ++ []) M1 Q)) : px_T 0 29 33 [some (.ref 3), some (.ref x1), some (.int x2)] [.int s0, .int s1] M Q := by
  by_cases c1 : s0 ≤ s1
  · exact ⟨3, ⟨fun _ => ⟨Or.inr rfl, h1 c1⟩, fun q => absurd c1 q⟩⟩
  · obtain ⟨n, h⟩ := px_T_cl (k := 29) (pc := 46) (y := 59) (st := [.int ((M.1 3 4) + x2), .ref 1]) rfl (h2 c1)
    exact ⟨n + 8, ⟨fun q => absurd q c1, fun _ => ⟨rfl, ⟨rfl, ⟨rfl, h⟩⟩⟩⟩⟩
theorem sg_29_49 {x1 : Nat} {x2 : Int32} {s0 : Int32} {M : px_Mem} {Q : px_Po} (h1 : px_T 0 334 0 [some (.ref x1), some (.int x2)] [] M (fun r M1 => px_T 0 29 54 [some (.ref 3), some (.ref x1), some (.int x2)] (r.toList ++ [.int s0]) M1 Q)) (h2 : px_sh 0 x1 = some (.inl 12)) : px_T 0 29 49 [some (.ref 3), some (.ref x1), some (.int x2)] [.int s0] M Q := by
  obtain ⟨n, h⟩ := px_T_cl (k := 29) (pc := 51) (y := 334) (st := [.int x2, .ref x1, .int s0]) rfl (h1)
  exact ⟨n + 3, ⟨h2, h⟩⟩
theorem sg_29_54 {x1 : Nat} {x2 : Int32} {s0 : Int32} {s1 : Int32} {M : px_Mem} {Q : px_Po} (h1 : (s1 = s0) → px_T 0 29 28 [some (.ref 3), some (.ref x1), some (.int (x2 + 1))] [] M Q) (h2 : (¬ (s1 = s0)) → Q (some (.int 0)) M) : px_T 0 29 54 [some (.ref 3), some (.ref x1), some (.int x2)] [.int s0, .int s1] M Q := by
  by_cases c1 : s1 = s0
  · obtain ⟨n, h⟩ := h1 c1
    exact ⟨n + 3, ⟨fun _ => h, fun q => absurd c1 q⟩⟩
  · exact ⟨3, ⟨fun q => absurd q c1, fun _ => ⟨Or.inl rfl, h2 c1⟩⟩⟩
theorem sg_30_0 {M : px_Mem} {Q : px_Po} (h1 : px_T 0 30 8 [some (.ref 3)] [] (px_wI M 3 4 (M.1 3 5)) Q) : px_T 0 30 0 [some (.ref 3)] [] M Q := by
  obtain ⟨n, h⟩ := h1
  exact ⟨n + 4, ⟨rfl, ⟨rfl, h⟩⟩⟩
theorem sg_30_8 {M : px_Mem} {Q : px_Po} (h1 : ((M.1 1 1) ≤ (M.1 3 4)) → ((M.1 3 4) < (M.1 1 1)) → px_T 0 59 0 [some (.ref 1), some (.int (M.1 3 4))] [] (px_wI (px_wI M 3 5 (M.1 3 4)) 3 6 (-1)) (fun r M1 => px_T 0 30 98 [some (.ref 3)] (r.toList ++ []) M1 Q)) (h2 : ((M.1 1 1) ≤ (M.1 3 4)) → (¬ ((M.1 3 4) < (M.1 1 1))) → Q none (px_wI (px_wI (px_wI M 3 5 (M.1 3 4)) 3 6 (-1)) 3 3 0)) (h3 : (¬ ((M.1 1 1) ≤ (M.1 3 4))) → px_T 0 59 0 [some (.ref 1), some (.int (M.1 3 4))] [] M (fun r M1 => px_T 0 30 33 [some (.ref 3)] (r.toList ++ []) M1 Q)) : px_T 0 30 8 [some (.ref 3)] [] M Q := by
  by_cases c1 : (M.1 1 1) ≤ (M.1 3 4)
  · by_cases c2 : (M.1 3 4) < (M.1 1 1)
    · obtain ⟨n, h⟩ := px_T_cl (k := 30) (pc := 95) (y := 59) (st := [.int (M.1 3 4), .ref 1]) rfl (h1 c1 c2)
      exact ⟨n + 24, ⟨rfl, ⟨rfl, ⟨rfl, ⟨fun _ => ⟨rfl, ⟨rfl, ⟨rfl, ⟨rfl, ⟨rfl, ⟨rfl, ⟨fun _ => ⟨rfl, ⟨rfl, ⟨rfl, h⟩⟩⟩, fun q => absurd c2 q⟩⟩⟩⟩⟩⟩⟩, fun q => absurd c1 q⟩⟩⟩⟩⟩
    · exact ⟨24, ⟨rfl, ⟨rfl, ⟨rfl, ⟨fun _ => ⟨rfl, ⟨rfl, ⟨rfl, ⟨rfl, ⟨rfl, ⟨rfl, ⟨fun q => absurd q c2, fun _ => ⟨rfl, ⟨rfl, h2 c1 c2⟩⟩⟩⟩⟩⟩⟩⟩⟩, fun q => absurd c1 q⟩⟩⟩⟩⟩
  · obtain ⟨n, h⟩ := px_T_cl (k := 30) (pc := 30) (y := 59) (st := [.int (M.1 3 4), .ref 1]) rfl (h3 c1)
    exact ⟨n + 11, ⟨rfl, ⟨rfl, ⟨rfl, ⟨fun q => absurd q c1, fun _ => ⟨rfl, ⟨rfl, ⟨rfl, h⟩⟩⟩⟩⟩⟩⟩⟩
theorem sg_30_98 {s0 : Int32} {M : px_Mem} {Q : px_Po} (h1 : px_T 0 34 0 [some (.int s0)] [] M (fun r M1 => px_T 0 30 101 [some (.ref 3)] (r.toList ++ []) M1 Q)) : px_T 0 30 98 [some (.ref 3)] [.int s0] M Q := by
  obtain ⟨n, h⟩ := px_T_cl (k := 30) (pc := 98) (y := 34) (st := [.int s0]) rfl (h1)
  exact ⟨n + 1, h⟩
theorem sg_30_33 {s0 : Int32} {M : px_Mem} {Q : px_Po} (h1 : px_T 0 33 0 [some (.int s0)] [] M (fun r M1 => px_T 0 30 36 [some (.ref 3)] (r.toList ++ []) M1 Q)) : px_T 0 30 33 [some (.ref 3)] [.int s0] M Q := by
  obtain ⟨n, h⟩ := px_T_cl (k := 30) (pc := 33) (y := 33) (st := [.int s0]) rfl (h1)
  exact ⟨n + 1, h⟩
theorem sg_30_101 {s0 : Int32} {M : px_Mem} {Q : px_Po} (h1 : (s0 = 0) → px_T 0 59 0 [some (.ref 1), some (.int (M.1 3 4))] [] M (fun r M1 => px_T 0 30 122 [some (.ref 3)] (r.toList ++ []) M1 Q)) (h2 : (¬ (s0 = 0)) → px_T 0 31 0 [some (.ref 3)] [] M (fun r M1 => px_T 0 30 108 [some (.ref 3)] (r.toList ++ []) M1 Q)) : px_T 0 30 101 [some (.ref 3)] [.int s0] M Q := by
  by_cases c1 : s0 = 0
  · obtain ⟨n, h⟩ := px_T_cl (k := 30) (pc := 119) (y := 59) (st := [.int (M.1 3 4), .ref 1]) rfl (h1 c1)
    exact ⟨n + 6, ⟨fun _ => ⟨rfl, ⟨rfl, ⟨rfl, h⟩⟩⟩, fun q => absurd c1 q⟩⟩
  · obtain ⟨n, h⟩ := px_T_cl (k := 30) (pc := 105) (y := 31) (st := [.ref 3]) rfl (h2 c1)
    exact ⟨n + 3, ⟨fun q => absurd q c1, fun _ => ⟨rfl, h⟩⟩⟩
theorem sg_30_36 {s0 : Int32} {M : px_Mem} {Q : px_Po} (h1 : (s0 = 0) → ((M.1 3 4) < (M.1 1 1)) → px_T 0 59 0 [some (.ref 1), some (.int (M.1 3 4))] [] (px_wI (px_wI M 3 5 (M.1 3 4)) 3 6 (-1)) (fun r M1 => px_T 0 30 98 [some (.ref 3)] (r.toList ++ []) M1 Q)) (h2 : (s0 = 0) → (¬ ((M.1 3 4) < (M.1 1 1))) → Q none (px_wI (px_wI (px_wI M 3 5 (M.1 3 4)) 3 6 (-1)) 3 3 0)) (h3 : (¬ (s0 = 0)) → px_T 0 30 8 [some (.ref 3)] [] (px_wI M 3 4 ((M.1 3 4) + 1)) Q) : px_T 0 30 36 [some (.ref 3)] [.int s0] M Q := by
  by_cases c1 : s0 = 0
  · by_cases c2 : (M.1 3 4) < (M.1 1 1)
    · obtain ⟨n, h⟩ := px_T_cl (k := 30) (pc := 95) (y := 59) (st := [.int (M.1 3 4), .ref 1]) rfl (h1 c1 c2)
      exact ⟨n + 19, ⟨fun _ => ⟨rfl, ⟨rfl, ⟨rfl, ⟨rfl, ⟨rfl, ⟨rfl, ⟨fun _ => ⟨rfl, ⟨rfl, ⟨rfl, h⟩⟩⟩, fun q => absurd c2 q⟩⟩⟩⟩⟩⟩⟩, fun q => absurd c1 q⟩⟩
    · exact ⟨19, ⟨fun _ => ⟨rfl, ⟨rfl, ⟨rfl, ⟨rfl, ⟨rfl, ⟨rfl, ⟨fun q => absurd q c2, fun _ => ⟨rfl, ⟨rfl, h2 c1 c2⟩⟩⟩⟩⟩⟩⟩⟩⟩, fun q => absurd c1 q⟩⟩
  · obtain ⟨n, h⟩ := h3 c1
    exact ⟨n + 8, ⟨fun q => absurd q c1, fun _ => ⟨rfl, ⟨rfl, h⟩⟩⟩⟩
theorem sg_30_122 {s0 : Int32} {M : px_Mem} {Q : px_Po} (h1 : px_T 0 35 0 [some (.int s0)] [] M (fun r M1 => px_T 0 30 125 [some (.ref 3)] (r.toList ++ []) M1 Q)) : px_T 0 30 122 [some (.ref 3)] [.int s0] M Q := by
  obtain ⟨n, h⟩ := px_T_cl (k := 30) (pc := 122) (y := 35) (st := [.int s0]) rfl (h1)
  exact ⟨n + 1, h⟩
theorem sg_30_108 {d0 : Option Value} {M : px_Mem} {Q : px_Po} (h1 : Q none M) : px_T 0 30 108 [d0] [] M Q := by
  exact ⟨2, ⟨rfl, h1⟩⟩
theorem sg_30_125 {s0 : Int32} {M : px_Mem} {Q : px_Po} (h1 : (s0 = 0) → px_T 0 59 0 [some (.ref 1), some (.int (M.1 3 4))] [] M (fun r M1 => px_T 0 30 147 [some (.ref 3)] (r.toList ++ [.ref 3]) M1 Q)) (h2 : (¬ (s0 = 0)) → px_T 0 32 0 [some (.ref 3)] [] M (fun r M1 => px_T 0 30 132 [some (.ref 3)] (r.toList ++ []) M1 Q)) : px_T 0 30 125 [some (.ref 3)] [.int s0] M Q := by
  by_cases c1 : s0 = 0
  · obtain ⟨n, h⟩ := px_T_cl (k := 30) (pc := 144) (y := 59) (st := [.int (M.1 3 4), .ref 1, .ref 3]) rfl (h1 c1)
    exact ⟨n + 7, ⟨fun _ => ⟨rfl, ⟨rfl, ⟨rfl, h⟩⟩⟩, fun q => absurd c1 q⟩⟩
  · obtain ⟨n, h⟩ := px_T_cl (k := 30) (pc := 129) (y := 32) (st := [.ref 3]) rfl (h2 c1)
    exact ⟨n + 3, ⟨fun q => absurd q c1, fun _ => ⟨rfl, h⟩⟩⟩
theorem sg_30_147 {s0 : Int32} {M : px_Mem} {Q : px_Po} (h1 : (s0 = 59) → Q none (px_wI (px_wI M 3 3 3) 3 5 ((M.1 3 4) + 1))) (h2 : (¬ (s0 = 59)) → Q none (px_wI (px_wI M 3 3 4) 3 5 ((M.1 3 4) + 1))) : px_T 0 30 147 [some (.ref 3)] [.int s0, .ref 3] M Q := by
  by_cases c1 : s0 = 59
  · exact ⟨12, ⟨fun q => absurd c1 q, fun _ => ⟨rfl, ⟨rfl, ⟨rfl, ⟨rfl, h1 c1⟩⟩⟩⟩⟩⟩
  · exact ⟨11, ⟨fun _ => ⟨rfl, ⟨rfl, ⟨rfl, ⟨rfl, h2 c1⟩⟩⟩⟩, fun q => absurd q c1⟩⟩
theorem sg_30_132 {d0 : Option Value} {M : px_Mem} {Q : px_Po} (h1 : Q none M) : px_T 0 30 132 [d0] [] M Q := by
  exact ⟨2, ⟨rfl, h1⟩⟩
theorem sg_31_0 {M : px_Mem} {Q : px_Po} (h1 : px_T 0 31 5 [some (.ref 3)] [] (px_wI M 3 3 1) Q) : px_T 0 31 0 [some (.ref 3)] [] M Q := by
  obtain ⟨n, h⟩ := h1
  exact ⟨n + 3, ⟨rfl, h⟩⟩
theorem sg_31_5 {M : px_Mem} {Q : px_Po} (h1 : ((M.1 1 1) ≤ (M.1 3 5)) → Q none M) (h2 : (¬ ((M.1 1 1) ≤ (M.1 3 5))) → px_T 0 59 0 [some (.ref 1), some (.int (M.1 3 5))] [] M (fun r M1 => px_T 0 31 30 [some (.ref 3)] (r.toList ++ []) M1 Q)) : px_T 0 31 5 [some (.ref 3)] [] M Q := by
  by_cases c1 : (M.1 1 1) ≤ (M.1 3 5)
  · exact ⟨7, ⟨rfl, ⟨rfl, ⟨rfl, ⟨fun _ => ⟨rfl, h1 c1⟩, fun q => absurd c1 q⟩⟩⟩⟩⟩
  · obtain ⟨n, h⟩ := px_T_cl (k := 31) (pc := 27) (y := 59) (st := [.int (M.1 3 5), .ref 1]) rfl (h2 c1)
    exact ⟨n + 11, ⟨rfl, ⟨rfl, ⟨rfl, ⟨fun q => absurd q c1, fun _ => ⟨rfl, ⟨rfl, ⟨rfl, h⟩⟩⟩⟩⟩⟩⟩⟩
theorem sg_31_30 {s0 : Int32} {M : px_Mem} {Q : px_Po} (h1 : px_T 0 34 0 [some (.int s0)] [] M (fun r M1 => px_T 0 31 33 [some (.ref 3)] (r.toList ++ []) M1 Q)) : px_T 0 31 30 [some (.ref 3)] [.int s0] M Q := by
  obtain ⟨n, h⟩ := px_T_cl (k := 31) (pc := 30) (y := 34) (st := [.int s0]) rfl (h1)
  exact ⟨n + 1, h⟩
theorem sg_31_33 {s0 : Int32} {M : px_Mem} {Q : px_Po} (h1 : (s0 = 0) → Q none M) (h2 : (¬ (s0 = 0)) → px_T 0 31 5 [some (.ref 3)] [] (px_wI M 3 5 ((M.1 3 5) + 1)) Q) : px_T 0 31 33 [some (.ref 3)] [.int s0] M Q := by
  by_cases c1 : s0 = 0
  · exact ⟨2, ⟨fun _ => ⟨rfl, h1 c1⟩, fun q => absurd c1 q⟩⟩
  · obtain ⟨n, h⟩ := h2 c1
    exact ⟨n + 8, ⟨fun q => absurd q c1, fun _ => ⟨rfl, ⟨rfl, h⟩⟩⟩⟩
theorem sg_32_0 {M : px_Mem} {Q : px_Po} (h1 : px_T 0 32 10 [some (.ref 3)] [] (px_wI (px_wI M 3 3 2) 3 6 0) Q) : px_T 0 32 0 [some (.ref 3)] [] M Q := by
  obtain ⟨n, h⟩ := h1
  exact ⟨n + 6, ⟨rfl, ⟨rfl, h⟩⟩⟩
theorem sg_32_10 {M : px_Mem} {Q : px_Po} (h1 : ((M.1 1 1) ≤ (M.1 3 5)) → Q none M) (h2 : (¬ ((M.1 1 1) ≤ (M.1 3 5))) → px_T 0 59 0 [some (.ref 1), some (.int (M.1 3 5))] [] M (fun r M1 => px_T 0 32 35 [some (.ref 3)] (r.toList ++ []) M1 Q)) : px_T 0 32 10 [some (.ref 3)] [] M Q := by
  by_cases c1 : (M.1 1 1) ≤ (M.1 3 5)
  · exact ⟨7, ⟨rfl, ⟨rfl, ⟨rfl, ⟨fun _ => ⟨rfl, h1 c1⟩, fun q => absurd c1 q⟩⟩⟩⟩⟩
  · obtain ⟨n, h⟩ := px_T_cl (k := 32) (pc := 32) (y := 59) (st := [.int (M.1 3 5), .ref 1]) rfl (h2 c1)
    exact ⟨n + 11, ⟨rfl, ⟨rfl, ⟨rfl, ⟨fun q => absurd q c1, fun _ => ⟨rfl, ⟨rfl, ⟨rfl, h⟩⟩⟩⟩⟩⟩⟩⟩
theorem sg_32_35 {s0 : Int32} {M : px_Mem} {Q : px_Po} (h1 : px_T 0 35 0 [some (.int s0)] [] M (fun r M1 => px_T 0 32 38 [some (.ref 3)] (r.toList ++ []) M1 Q)) : px_T 0 32 35 [some (.ref 3)] [.int s0] M Q := by
  obtain ⟨n, h⟩ := px_T_cl (k := 32) (pc := 35) (y := 35) (st := [.int s0]) rfl (h1)
  exact ⟨n + 1, h⟩
theorem sg_32_38 {s0 : Int32} {M : px_Mem} {Q : px_Po} (h1 : (s0 = 0) → Q none M) (h2 : (¬ (s0 = 0)) → px_T 0 59 0 [some (.ref 1), some (.int (M.1 3 5))] [] M (fun r M1 => px_T 0 32 63 [some (.ref 3)] (r.toList ++ [.int (10 * (M.1 3 6)), .int 1000, .ref 3]) M1 Q)) : px_T 0 32 38 [some (.ref 3)] [.int s0] M Q := by
  by_cases c1 : s0 = 0
  · exact ⟨2, ⟨fun _ => ⟨rfl, h1 c1⟩, fun q => absurd c1 q⟩⟩
  · obtain ⟨n, h⟩ := px_T_cl (k := 32) (pc := 60) (y := 59) (st := [.int (M.1 3 5), .ref 1, .int (10 * (M.1 3 6)), .int 1000, .ref 3]) rfl (h2 c1)
    exact ⟨n + 12, ⟨fun q => absurd q c1, fun _ => ⟨rfl, ⟨rfl, ⟨rfl, ⟨rfl, h⟩⟩⟩⟩⟩⟩
theorem sg_32_63 {s0 : Int32} {s1 : Int32} {s2 : Int32} {M : px_Mem} {Q : px_Po} (h1 : px_T 0 32 10 [some (.ref 3)] [] (px_wI (px_wI M 3 6 (if ((s1 + s0) - 48) < s2 then (s1 + s0) - 48 else s2)) 3 5 ((M.1 3 5) + 1)) Q) : px_T 0 32 63 [some (.ref 3)] [.int s0, .int s1, .int s2, .ref 3] M Q := by
  obtain ⟨n, h⟩ := h1
  exact ⟨n + 12, ⟨(Nat.le_of_ble_eq_true rfl), (Nat.le_of_ble_eq_true rfl), (Nat.le_of_ble_eq_true rfl), ⟨rfl, ⟨rfl, ⟨rfl, h⟩⟩⟩⟩⟩
theorem sg_33_0 {x0 : Int32} {M : px_Mem} {Q : px_Po} (h1 : (x0 = 32) → Q (some (.int 1)) M) (h2 : (¬ (x0 = 32)) → (x0 = 10) → Q (some (.int 1)) M) (h3 : (¬ (x0 = 32)) → (¬ (x0 = 10)) → Q (some (.int 0)) M) : px_T 0 33 0 [some (.int x0)] [] M Q := by
  by_cases c1 : x0 = 32
  · exact ⟨6, ⟨fun _ => ⟨Or.inr rfl, h1 c1⟩, fun q => absurd c1 q⟩⟩
  · by_cases c2 : x0 = 10
    · exact ⟨9, ⟨fun q => absurd q c1, fun _ => ⟨fun q => absurd c2 q, fun _ => ⟨Or.inr rfl, h2 c1 c2⟩⟩⟩⟩
    · exact ⟨8, ⟨fun q => absurd q c1, fun _ => ⟨fun _ => ⟨Or.inl rfl, h3 c1 c2⟩, fun q => absurd q c2⟩⟩⟩
theorem sg_34_0 {x0 : Int32} {M : px_Mem} {Q : px_Po} (h1 : (x0 < 97) → Q (some (.int 0)) M) (h2 : (¬ (x0 < 97)) → ((122 : Int32) < x0) → Q (some (.int 0)) M) (h3 : (¬ (x0 < 97)) → (¬ ((122 : Int32) < x0)) → Q (some (.int 1)) M) : px_T 0 34 0 [some (.int x0)] [] M Q := by
  by_cases c1 : x0 < 97
  · exact ⟨5, ⟨fun _ => ⟨Or.inl rfl, h1 c1⟩, fun q => absurd c1 q⟩⟩
  · by_cases c2 : (122 : Int32) < x0
    · exact ⟨8, ⟨fun q => absurd q c1, fun _ => ⟨fun _ => ⟨Or.inl rfl, h2 c1 c2⟩, fun q => absurd c2 q⟩⟩⟩
    · exact ⟨9, ⟨fun q => absurd q c1, fun _ => ⟨fun q => absurd q c2, fun _ => ⟨Or.inr rfl, h3 c1 c2⟩⟩⟩⟩
theorem sg_35_0 {x0 : Int32} {M : px_Mem} {Q : px_Po} (h1 : (x0 < 48) → Q (some (.int 0)) M) (h2 : (¬ (x0 < 48)) → ((57 : Int32) < x0) → Q (some (.int 0)) M) (h3 : (¬ (x0 < 48)) → (¬ ((57 : Int32) < x0)) → Q (some (.int 1)) M) : px_T 0 35 0 [some (.int x0)] [] M Q := by
  by_cases c1 : x0 < 48
  · exact ⟨5, ⟨fun _ => ⟨Or.inl rfl, h1 c1⟩, fun q => absurd c1 q⟩⟩
  · by_cases c2 : (57 : Int32) < x0
    · exact ⟨8, ⟨fun q => absurd q c1, fun _ => ⟨fun _ => ⟨Or.inl rfl, h2 c1 c2⟩, fun q => absurd c2 q⟩⟩⟩
    · exact ⟨9, ⟨fun q => absurd q c1, fun _ => ⟨fun q => absurd q c2, fun _ => ⟨Or.inr rfl, h3 c1 c2⟩⟩⟩⟩
theorem sg_36_0 {x0 : Nat} {x1 : Int32} {x2 : Int32} {M : px_Mem} {Q : px_Po} (h_x0 : px_isR x0) (h1 : px_T 0 339 0 [some (.ref (x0 + 1)), some (.long 0), none, none, none] [] M (fun r M1 => px_T 0 36 8 [some (.ref x0), some (.int x1), some (.int x2)] (r.toList ++ []) M1 Q)) : px_T 0 36 0 [some (.ref x0), some (.int x1), some (.int x2)] [] M Q := by
  rcases h_x0 with rfl | rfl | rfl | rfl
  · obtain ⟨n, h⟩ := px_T_cl (k := 36) (pc := 5) (y := 339) (st := [.long 0, .ref (16 + 1)]) rfl (h1)
    exact ⟨n + 4, ⟨rfl, h⟩⟩
  · obtain ⟨n, h⟩ := px_T_cl (k := 36) (pc := 5) (y := 339) (st := [.long 0, .ref (18 + 1)]) rfl (h1)
    exact ⟨n + 4, ⟨rfl, h⟩⟩
  · obtain ⟨n, h⟩ := px_T_cl (k := 36) (pc := 5) (y := 339) (st := [.long 0, .ref (20 + 1)]) rfl (h1)
    exact ⟨n + 4, ⟨rfl, h⟩⟩
  · obtain ⟨n, h⟩ := px_T_cl (k := 36) (pc := 5) (y := 339) (st := [.long 0, .ref (22 + 1)]) rfl (h1)
    exact ⟨n + 4, ⟨rfl, h⟩⟩
theorem sg_36_8 {x0 : Nat} {x1 : Int32} {x2 : Int32} {M : px_Mem} {Q : px_Po} (h_x0 : px_isR x0) (h1 : Q none (px_wI (px_wI (px_wI M x0 1 1) x0 2 x1) x0 3 x2)) : px_T 0 36 8 [some (.ref x0), some (.int x1), some (.int x2)] [] M Q := by
  rcases h_x0 with rfl | rfl | rfl | rfl
  · exact ⟨10, ⟨rfl, Or.inr rfl, ⟨rfl, ⟨rfl, ⟨rfl, h1⟩⟩⟩⟩⟩
  · exact ⟨10, ⟨rfl, Or.inr rfl, ⟨rfl, ⟨rfl, ⟨rfl, h1⟩⟩⟩⟩⟩
  · exact ⟨10, ⟨rfl, Or.inr rfl, ⟨rfl, ⟨rfl, ⟨rfl, h1⟩⟩⟩⟩⟩
  · exact ⟨10, ⟨rfl, Or.inr rfl, ⟨rfl, ⟨rfl, ⟨rfl, h1⟩⟩⟩⟩⟩
theorem sg_37_0 {x0 : Nat} {x1 : Int32} {x2 : Int64} {M : px_Mem} {Q : px_Po} (h_x0 : px_isR x0) (h1 : (x1 < 0) → Q none M) (h2 : (¬ (x1 < 0)) → ((M.1 x0 3) ≤ x1) → Q none M) (h3 : (¬ (x1 < 0)) → (¬ ((M.1 x0 3) ≤ x1)) → px_T 0 38 0 [some (.ref x0), some (.long x2), none] [] M (fun r M1 => px_T 0 37 22 [some (.ref x0), some (.int x1), some (.long x2), none] (r.toList ++ [.int x1, .ref (x0 + 1)]) M1 Q)) : px_T 0 37 0 [some (.ref x0), some (.int x1), some (.long x2), none] [] M Q := by
  rcases h_x0 with rfl | rfl | rfl | rfl
  · by_cases c1 : x1 < 0
    · exact ⟨3, ⟨fun _ => ⟨rfl, h1 c1⟩, fun q => absurd c1 q⟩⟩
    · by_cases c2 : (M.1 16 3) ≤ x1
      · exact ⟨7, ⟨fun q => absurd q c1, fun _ => ⟨rfl, ⟨fun _ => ⟨rfl, h2 c1 c2⟩, fun q => absurd c2 q⟩⟩⟩⟩
      · obtain ⟨n, h⟩ := px_T_cl (k := 37) (pc := 19) (y := 38) (st := [.long x2, .ref 16, .int x1, .ref (16 + 1)]) rfl (h3 c1 c2)
        exact ⟨n + 12, ⟨fun q => absurd q c1, fun _ => ⟨rfl, ⟨fun q => absurd q c2, fun _ => ⟨rfl, ⟨rfl, h⟩⟩⟩⟩⟩⟩
  · by_cases c1 : x1 < 0
    · exact ⟨3, ⟨fun _ => ⟨rfl, h1 c1⟩, fun q => absurd c1 q⟩⟩
    · by_cases c2 : (M.1 18 3) ≤ x1
      · exact ⟨7, ⟨fun q => absurd q c1, fun _ => ⟨rfl, ⟨fun _ => ⟨rfl, h2 c1 c2⟩, fun q => absurd c2 q⟩⟩⟩⟩
      · obtain ⟨n, h⟩ := px_T_cl (k := 37) (pc := 19) (y := 38) (st := [.long x2, .ref 18, .int x1, .ref (18 + 1)]) rfl (h3 c1 c2)
        exact ⟨n + 12, ⟨fun q => absurd q c1, fun _ => ⟨rfl, ⟨fun q => absurd q c2, fun _ => ⟨rfl, ⟨rfl, h⟩⟩⟩⟩⟩⟩
  · by_cases c1 : x1 < 0
    · exact ⟨3, ⟨fun _ => ⟨rfl, h1 c1⟩, fun q => absurd c1 q⟩⟩
    · by_cases c2 : (M.1 20 3) ≤ x1
      · exact ⟨7, ⟨fun q => absurd q c1, fun _ => ⟨rfl, ⟨fun _ => ⟨rfl, h2 c1 c2⟩, fun q => absurd c2 q⟩⟩⟩⟩
      · obtain ⟨n, h⟩ := px_T_cl (k := 37) (pc := 19) (y := 38) (st := [.long x2, .ref 20, .int x1, .ref (20 + 1)]) rfl (h3 c1 c2)
        exact ⟨n + 12, ⟨fun q => absurd q c1, fun _ => ⟨rfl, ⟨fun q => absurd q c2, fun _ => ⟨rfl, ⟨rfl, h⟩⟩⟩⟩⟩⟩
  · by_cases c1 : x1 < 0
    · exact ⟨3, ⟨fun _ => ⟨rfl, h1 c1⟩, fun q => absurd c1 q⟩⟩
    · by_cases c2 : (M.1 22 3) ≤ x1
      · exact ⟨7, ⟨fun q => absurd q c1, fun _ => ⟨rfl, ⟨fun _ => ⟨rfl, h2 c1 c2⟩, fun q => absurd c2 q⟩⟩⟩⟩
      · obtain ⟨n, h⟩ := px_T_cl (k := 37) (pc := 19) (y := 38) (st := [.long x2, .ref 22, .int x1, .ref (22 + 1)]) rfl (h3 c1 c2)
        exact ⟨n + 12, ⟨fun q => absurd q c1, fun _ => ⟨rfl, ⟨fun q => absurd q c2, fun _ => ⟨rfl, ⟨rfl, h⟩⟩⟩⟩⟩⟩
theorem sg_37_22 {d0 : Option Value} {d1 : Option Value} {d2 : Option Value} {s0 : Int64} {s1 : Int32} {s2 : Nat} {M : px_Mem} {Q : px_Po} (h1 : px_at 0 1 s2 s1) (h2 : Q none (px_wL M s2 s1.toNatClampNeg s0)) : px_T 0 37 22 [d0, d1, d2, none] [.long s0, .int s1, .ref s2] M Q := by
  exact ⟨2, ⟨h1, ⟨rfl, h2⟩⟩⟩
theorem sg_38_0 {x0 : Nat} {x1 : Int64} {M : px_Mem} {Q : px_Po} (h_x0 : px_isR x0) (h1 : px_T 0 38 4 [some (.ref x0), some (.long x1), none] [.int (M.1 x0 2)] M Q) : px_T 0 38 0 [some (.ref x0), some (.long x1), none] [] M Q := by
  rcases h_x0 with rfl | rfl | rfl | rfl
  · obtain ⟨n, h⟩ := h1
    exact ⟨n + 2, ⟨rfl, h⟩⟩
  · obtain ⟨n, h⟩ := h1
    exact ⟨n + 2, ⟨rfl, h⟩⟩
  · obtain ⟨n, h⟩ := h1
    exact ⟨n + 2, ⟨rfl, h⟩⟩
  · obtain ⟨n, h⟩ := h1
    exact ⟨n + 2, ⟨rfl, h⟩⟩
theorem sg_38_4 {d0 : Option Value} {x1 : Int64} {s0 : Int32} {M : px_Mem} {Q : px_Po} (h1 : (s0 = 0) → px_T 0 38 32 [d0, some (.long x1), none] [] M Q) (h2 : (s0 = 1) → px_T 0 38 37 [d0, some (.long x1), none] [] M Q) (h3 : (s0 = 2) → px_T 0 38 42 [d0, some (.long x1), none] [] M Q) (h4 : (¬ s0 = 0) → (¬ s0 = 1) → (¬ s0 = 2) → px_T 0 38 46 [d0, some (.long x1), none] [] M Q) : px_T 0 38 4 [d0, some (.long x1), none] [.int s0] M Q := by
  by_cases c1 : s0 = 0
  · exact px_T_sw rfl (by rw [c1]; rfl) (h1 c1)
  by_cases c2 : s0 = 1
  · exact px_T_sw rfl (by rw [c2]; rfl) (h2 c2)
  by_cases c3 : s0 = 2
  · exact px_T_sw rfl (by rw [c3]; rfl) (h3 c3)
  exact px_T_sw rfl (px_sw_o (N := 3) (by decide) (fun v hv => match v, hv with | 0, _ => c1 | 1, _ => c2 | 2, _ => c3 | n + 3, h => absurd h (by omega))) (h4 c1 c2 c3)
theorem sg_38_32 {d0 : Option Value} {x1 : Int64} {M : px_Mem} {Q : px_Po} (h1 : Q (some (.long x1.toInt32.toInt8.toInt32.toInt64)) M) : px_T 0 38 32 [d0, some (.long x1), none] [] M Q := by
  exact ⟨5, ⟨rfl, h1⟩⟩
theorem sg_38_37 {d0 : Option Value} {x1 : Int64} {M : px_Mem} {Q : px_Po} (h1 : Q (some (.long x1.toInt32.toInt16.toInt32.toInt64)) M) : px_T 0 38 37 [d0, some (.long x1), none] [] M Q := by
  exact ⟨5, ⟨rfl, h1⟩⟩
theorem sg_38_42 {d0 : Option Value} {x1 : Int64} {M : px_Mem} {Q : px_Po} (h1 : Q (some (.long x1.toInt32.toInt64)) M) : px_T 0 38 42 [d0, some (.long x1), none] [] M Q := by
  exact ⟨4, ⟨rfl, h1⟩⟩
theorem sg_38_46 {d0 : Option Value} {x1 : Int64} {M : px_Mem} {Q : px_Po} (h1 : Q (some (.long x1)) M) : px_T 0 38 46 [d0, some (.long x1), none] [] M Q := by
  exact ⟨2, ⟨rfl, h1⟩⟩
theorem sg_39_0 {x0 : Nat} {x1 : Int32} {x2 : Int32} {M : px_Mem} {Q : px_Po} (h_x0 : px_isR x0) (h1 : (x1 < 0) → Q (some (.int 1)) M) (h2 : (¬ (x1 < 0)) → (x2 < 0) → Q (some (.int 1)) M) (h3 : (¬ (x1 < 0)) → (¬ (x2 < 0)) → ((lg_cmp (x1.toInt64 + x2.toInt64) ((M.1 x0 3).toInt64)) ≤ 0) → Q (some (.int 0)) M) (h4 : (¬ (x1 < 0)) → (¬ (x2 < 0)) → (¬ ((lg_cmp (x1.toInt64 + x2.toInt64) ((M.1 x0 3).toInt64)) ≤ 0)) → Q (some (.int 1)) M) : px_T 0 39 0 [some (.ref x0), some (.int x1), some (.int x2)] [] M Q := by
  rcases h_x0 with rfl | rfl | rfl | rfl
  · by_cases c1 : x1 < 0
    · exact ⟨5, ⟨fun _ => ⟨Or.inr rfl, h1 c1⟩, fun q => absurd c1 q⟩⟩
    · by_cases c2 : x2 < 0
      · exact ⟨7, ⟨fun q => absurd q c1, fun _ => ⟨fun _ => ⟨Or.inr rfl, h2 c1 c2⟩, fun q => absurd c2 q⟩⟩⟩
      · by_cases c3 : (lg_cmp (x1.toInt64 + x2.toInt64) ((M.1 16 3).toInt64)) ≤ 0
        · exact ⟨16, ⟨fun q => absurd q c1, fun _ => ⟨fun q => absurd q c2, fun _ => ⟨rfl, ⟨fun _ => ⟨Or.inl rfl, h3 c1 c2 c3⟩, fun q => absurd c3 q⟩⟩⟩⟩⟩
        · exact ⟨17, ⟨fun q => absurd q c1, fun _ => ⟨fun q => absurd q c2, fun _ => ⟨rfl, ⟨fun q => absurd q c3, fun _ => ⟨Or.inr rfl, h4 c1 c2 c3⟩⟩⟩⟩⟩⟩
  · by_cases c1 : x1 < 0
    · exact ⟨5, ⟨fun _ => ⟨Or.inr rfl, h1 c1⟩, fun q => absurd c1 q⟩⟩
    · by_cases c2 : x2 < 0
      · exact ⟨7, ⟨fun q => absurd q c1, fun _ => ⟨fun _ => ⟨Or.inr rfl, h2 c1 c2⟩, fun q => absurd c2 q⟩⟩⟩
      · by_cases c3 : (lg_cmp (x1.toInt64 + x2.toInt64) ((M.1 18 3).toInt64)) ≤ 0
        · exact ⟨16, ⟨fun q => absurd q c1, fun _ => ⟨fun q => absurd q c2, fun _ => ⟨rfl, ⟨fun _ => ⟨Or.inl rfl, h3 c1 c2 c3⟩, fun q => absurd c3 q⟩⟩⟩⟩⟩
        · exact ⟨17, ⟨fun q => absurd q c1, fun _ => ⟨fun q => absurd q c2, fun _ => ⟨rfl, ⟨fun q => absurd q c3, fun _ => ⟨Or.inr rfl, h4 c1 c2 c3⟩⟩⟩⟩⟩⟩
  · by_cases c1 : x1 < 0
    · exact ⟨5, ⟨fun _ => ⟨Or.inr rfl, h1 c1⟩, fun q => absurd c1 q⟩⟩
    · by_cases c2 : x2 < 0
      · exact ⟨7, ⟨fun q => absurd q c1, fun _ => ⟨fun _ => ⟨Or.inr rfl, h2 c1 c2⟩, fun q => absurd c2 q⟩⟩⟩
      · by_cases c3 : (lg_cmp (x1.toInt64 + x2.toInt64) ((M.1 20 3).toInt64)) ≤ 0
        · exact ⟨16, ⟨fun q => absurd q c1, fun _ => ⟨fun q => absurd q c2, fun _ => ⟨rfl, ⟨fun _ => ⟨Or.inl rfl, h3 c1 c2 c3⟩, fun q => absurd c3 q⟩⟩⟩⟩⟩
        · exact ⟨17, ⟨fun q => absurd q c1, fun _ => ⟨fun q => absurd q c2, fun _ => ⟨rfl, ⟨fun q => absurd q c3, fun _ => ⟨Or.inr rfl, h4 c1 c2 c3⟩⟩⟩⟩⟩⟩
  · by_cases c1 : x1 < 0
    · exact ⟨5, ⟨fun _ => ⟨Or.inr rfl, h1 c1⟩, fun q => absurd c1 q⟩⟩
    · by_cases c2 : x2 < 0
      · exact ⟨7, ⟨fun q => absurd q c1, fun _ => ⟨fun _ => ⟨Or.inr rfl, h2 c1 c2⟩, fun q => absurd c2 q⟩⟩⟩
      · by_cases c3 : (lg_cmp (x1.toInt64 + x2.toInt64) ((M.1 22 3).toInt64)) ≤ 0
        · exact ⟨16, ⟨fun q => absurd q c1, fun _ => ⟨fun q => absurd q c2, fun _ => ⟨rfl, ⟨fun _ => ⟨Or.inl rfl, h3 c1 c2 c3⟩, fun q => absurd c3 q⟩⟩⟩⟩⟩
        · exact ⟨17, ⟨fun q => absurd q c1, fun _ => ⟨fun q => absurd q c2, fun _ => ⟨rfl, ⟨fun q => absurd q c3, fun _ => ⟨Or.inr rfl, h4 c1 c2 c3⟩⟩⟩⟩⟩⟩
theorem sg_40_0 {x1 : Nat} {x2 : Int32} {M : px_Mem} {Q : px_Po} (h_x1 : px_isR x1) (h1 : (((M.1 x1 3) - (M.1 x1 3) / 3 * 3) = 0) → px_T 0 40 18 [some (.ref 24), some (.ref x1), some (.int x2), some (.int 0), none, none, none, none, none, none] [] (px_wI M 24 3 0) Q) (h2 : (¬ (((M.1 x1 3) - (M.1 x1 3) / 3 * 3) = 0)) → Q (some (.int 0)) (px_wI M 24 3 0)) : px_T 0 40 0 [some (.ref 24), some (.ref x1), some (.int x2), none, none, none, none, none, none, none] [] M Q := by
  rcases h_x1 with rfl | rfl | rfl | rfl
  · by_cases c1 : ((M.1 16 3) - (M.1 16 3) / 3 * 3) = 0
    · obtain ⟨n, h⟩ := h1 c1
      exact ⟨n + 10, ⟨rfl, ⟨rfl, ⟨(by decide), ⟨fun _ => h, fun q => absurd c1 q⟩⟩⟩⟩⟩
    · exact ⟨10, ⟨rfl, ⟨rfl, ⟨(by decide), ⟨fun q => absurd q c1, fun _ => ⟨Or.inl rfl, h2 c1⟩⟩⟩⟩⟩⟩
  · by_cases c1 : ((M.1 18 3) - (M.1 18 3) / 3 * 3) = 0
    · obtain ⟨n, h⟩ := h1 c1
      exact ⟨n + 10, ⟨rfl, ⟨rfl, ⟨(by decide), ⟨fun _ => h, fun q => absurd c1 q⟩⟩⟩⟩⟩
    · exact ⟨10, ⟨rfl, ⟨rfl, ⟨(by decide), ⟨fun q => absurd q c1, fun _ => ⟨Or.inl rfl, h2 c1⟩⟩⟩⟩⟩⟩
  · by_cases c1 : ((M.1 20 3) - (M.1 20 3) / 3 * 3) = 0
    · obtain ⟨n, h⟩ := h1 c1
      exact ⟨n + 10, ⟨rfl, ⟨rfl, ⟨(by decide), ⟨fun _ => h, fun q => absurd c1 q⟩⟩⟩⟩⟩
    · exact ⟨10, ⟨rfl, ⟨rfl, ⟨(by decide), ⟨fun q => absurd q c1, fun _ => ⟨Or.inl rfl, h2 c1⟩⟩⟩⟩⟩⟩
  · by_cases c1 : ((M.1 22 3) - (M.1 22 3) / 3 * 3) = 0
    · obtain ⟨n, h⟩ := h1 c1
      exact ⟨n + 10, ⟨rfl, ⟨rfl, ⟨(by decide), ⟨fun _ => h, fun q => absurd c1 q⟩⟩⟩⟩⟩
    · exact ⟨10, ⟨rfl, ⟨rfl, ⟨(by decide), ⟨fun q => absurd q c1, fun _ => ⟨Or.inl rfl, h2 c1⟩⟩⟩⟩⟩⟩
theorem sg_40_18 {x1 : Nat} {x2 : Int32} {x3 : Int32} {d4 : Option Value} {d5 : Option Value} {d6 : Option Value} {d7 : Option Value} {d8 : Option Value} {d9 : Option Value} {M : px_Mem} {Q : px_Po} (h_x1 : px_isR x1) (h1 : ((M.1 x1 3) ≤ (x3 + 2)) → Q (some (.int 1)) M) (h2 : (¬ ((M.1 x1 3) ≤ (x3 + 2))) → vp_in x3 60) (h3 : (¬ ((M.1 x1 3) ≤ (x3 + 2))) → vp_in (x3 + 1) 60) (h4 : (¬ ((M.1 x1 3) ≤ (x3 + 2))) → vp_in (x3 + 2) 60) (h5 : (¬ ((M.1 x1 3) ≤ (x3 + 2))) → ((lg_cmp (M.2 (x1 + 1) x3.toNatClampNeg) 0) < 0) → Q (some (.int 0)) M) (h6 : (¬ ((M.1 x1 3) ≤ (x3 + 2))) → (¬ ((lg_cmp (M.2 (x1 + 1) x3.toNatClampNeg) 0) < 0)) → ((0 : Int32) < (lg_cmp (M.2 (x1 + 1) x3.toNatClampNeg) x2.toInt64)) → px_T 0 40 87 [some (.ref 24), some (.ref x1), some (.int x2), some (.int x3), some (.long (M.2 (x1 + 1) x3.toNatClampNeg)), none, some (.long (M.2 (x1 + 1) ((x3 + 1).toNatClampNeg))), none, some (.long (M.2 (x1 + 1) ((x3 + 2).toNatClampNeg))), none] [] M Q) (h7 : (¬ ((M.1 x1 3) ≤ (x3 + 2))) → (¬ ((lg_cmp (M.2 (x1 + 1) x3.toNatClampNeg) 0) < 0)) → (¬ ((0 : Int32) < (lg_cmp (M.2 (x1 + 1) x3.toNatClampNeg) x2.toInt64))) → px_T 0 40 71 [some (.ref 24), some (.ref x1), some (.int x2), some (.int x3), some (.long (M.2 (x1 + 1) x3.toNatClampNeg)), none, some (.long (M.2 (x1 + 1) ((x3 + 1).toNatClampNeg))), none, some (.long (M.2 (x1 + 1) ((x3 + 2).toNatClampNeg))), none] [] M Q) : px_T 0 40 18 [some (.ref 24), some (.ref x1), some (.int x2), some (.int x3), d4, d5, d6, d7, d8, d9] [] M Q := by
  rcases h_x1 with rfl | rfl | rfl | rfl
  · by_cases c1 : (M.1 16 3) ≤ (x3 + 2)
    · exact ⟨8, ⟨rfl, ⟨fun _ => ⟨Or.inr rfl, h1 c1⟩, fun q => absurd c1 q⟩⟩⟩
    · by_cases c2 : (lg_cmp (M.2 (16 + 1) x3.toNatClampNeg) 0) < 0
      · exact ⟨31, ⟨rfl, ⟨fun q => absurd q c1, fun _ => ⟨rfl, ⟨⟨60, rfl, (h2 c1)⟩, ⟨rfl, ⟨⟨60, rfl, (h3 c1)⟩, ⟨rfl, ⟨⟨60, rfl, (h4 c1)⟩, ⟨fun _ => ⟨Or.inl rfl, h5 c1 c2⟩, fun q => absurd c2 q⟩⟩⟩⟩⟩⟩⟩⟩⟩⟩
      · by_cases c3 : (0 : Int32) < (lg_cmp (M.2 (16 + 1) x3.toNatClampNeg) x2.toInt64)
        · obtain ⟨n, h⟩ := h6 c1 c2 c3
          exact ⟨n + 34, ⟨rfl, ⟨fun q => absurd q c1, fun _ => ⟨rfl, ⟨⟨60, rfl, (h2 c1)⟩, ⟨rfl, ⟨⟨60, rfl, (h3 c1)⟩, ⟨rfl, ⟨⟨60, rfl, (h4 c1)⟩, ⟨fun q => absurd q c2, fun _ => ⟨fun _ => h, fun q => absurd c3 q⟩⟩⟩⟩⟩⟩⟩⟩⟩⟩⟩
        · obtain ⟨n, h⟩ := h7 c1 c2 c3
          exact ⟨n + 34, ⟨rfl, ⟨fun q => absurd q c1, fun _ => ⟨rfl, ⟨⟨60, rfl, (h2 c1)⟩, ⟨rfl, ⟨⟨60, rfl, (h3 c1)⟩, ⟨rfl, ⟨⟨60, rfl, (h4 c1)⟩, ⟨fun q => absurd q c2, fun _ => ⟨fun q => absurd q c3, fun _ => h⟩⟩⟩⟩⟩⟩⟩⟩⟩⟩⟩
  · by_cases c1 : (M.1 18 3) ≤ (x3 + 2)
    · exact ⟨8, ⟨rfl, ⟨fun _ => ⟨Or.inr rfl, h1 c1⟩, fun q => absurd c1 q⟩⟩⟩
    · by_cases c2 : (lg_cmp (M.2 (18 + 1) x3.toNatClampNeg) 0) < 0
      · exact ⟨31, ⟨rfl, ⟨fun q => absurd q c1, fun _ => ⟨rfl, ⟨⟨60, rfl, (h2 c1)⟩, ⟨rfl, ⟨⟨60, rfl, (h3 c1)⟩, ⟨rfl, ⟨⟨60, rfl, (h4 c1)⟩, ⟨fun _ => ⟨Or.inl rfl, h5 c1 c2⟩, fun q => absurd c2 q⟩⟩⟩⟩⟩⟩⟩⟩⟩⟩
      · by_cases c3 : (0 : Int32) < (lg_cmp (M.2 (18 + 1) x3.toNatClampNeg) x2.toInt64)
        · obtain ⟨n, h⟩ := h6 c1 c2 c3
          exact ⟨n + 34, ⟨rfl, ⟨fun q => absurd q c1, fun _ => ⟨rfl, ⟨⟨60, rfl, (h2 c1)⟩, ⟨rfl, ⟨⟨60, rfl, (h3 c1)⟩, ⟨rfl, ⟨⟨60, rfl, (h4 c1)⟩, ⟨fun q => absurd q c2, fun _ => ⟨fun _ => h, fun q => absurd c3 q⟩⟩⟩⟩⟩⟩⟩⟩⟩⟩⟩
        · obtain ⟨n, h⟩ := h7 c1 c2 c3
          exact ⟨n + 34, ⟨rfl, ⟨fun q => absurd q c1, fun _ => ⟨rfl, ⟨⟨60, rfl, (h2 c1)⟩, ⟨rfl, ⟨⟨60, rfl, (h3 c1)⟩, ⟨rfl, ⟨⟨60, rfl, (h4 c1)⟩, ⟨fun q => absurd q c2, fun _ => ⟨fun q => absurd q c3, fun _ => h⟩⟩⟩⟩⟩⟩⟩⟩⟩⟩⟩
  · by_cases c1 : (M.1 20 3) ≤ (x3 + 2)
    · exact ⟨8, ⟨rfl, ⟨fun _ => ⟨Or.inr rfl, h1 c1⟩, fun q => absurd c1 q⟩⟩⟩
    · by_cases c2 : (lg_cmp (M.2 (20 + 1) x3.toNatClampNeg) 0) < 0
      · exact ⟨31, ⟨rfl, ⟨fun q => absurd q c1, fun _ => ⟨rfl, ⟨⟨60, rfl, (h2 c1)⟩, ⟨rfl, ⟨⟨60, rfl, (h3 c1)⟩, ⟨rfl, ⟨⟨60, rfl, (h4 c1)⟩, ⟨fun _ => ⟨Or.inl rfl, h5 c1 c2⟩, fun q => absurd c2 q⟩⟩⟩⟩⟩⟩⟩⟩⟩⟩
      · by_cases c3 : (0 : Int32) < (lg_cmp (M.2 (20 + 1) x3.toNatClampNeg) x2.toInt64)
        · obtain ⟨n, h⟩ := h6 c1 c2 c3
          exact ⟨n + 34, ⟨rfl, ⟨fun q => absurd q c1, fun _ => ⟨rfl, ⟨⟨60, rfl, (h2 c1)⟩, ⟨rfl, ⟨⟨60, rfl, (h3 c1)⟩, ⟨rfl, ⟨⟨60, rfl, (h4 c1)⟩, ⟨fun q => absurd q c2, fun _ => ⟨fun _ => h, fun q => absurd c3 q⟩⟩⟩⟩⟩⟩⟩⟩⟩⟩⟩
        · obtain ⟨n, h⟩ := h7 c1 c2 c3
          exact ⟨n + 34, ⟨rfl, ⟨fun q => absurd q c1, fun _ => ⟨rfl, ⟨⟨60, rfl, (h2 c1)⟩, ⟨rfl, ⟨⟨60, rfl, (h3 c1)⟩, ⟨rfl, ⟨⟨60, rfl, (h4 c1)⟩, ⟨fun q => absurd q c2, fun _ => ⟨fun q => absurd q c3, fun _ => h⟩⟩⟩⟩⟩⟩⟩⟩⟩⟩⟩
  · by_cases c1 : (M.1 22 3) ≤ (x3 + 2)
    · exact ⟨8, ⟨rfl, ⟨fun _ => ⟨Or.inr rfl, h1 c1⟩, fun q => absurd c1 q⟩⟩⟩
    · by_cases c2 : (lg_cmp (M.2 (22 + 1) x3.toNatClampNeg) 0) < 0
      · exact ⟨31, ⟨rfl, ⟨fun q => absurd q c1, fun _ => ⟨rfl, ⟨⟨60, rfl, (h2 c1)⟩, ⟨rfl, ⟨⟨60, rfl, (h3 c1)⟩, ⟨rfl, ⟨⟨60, rfl, (h4 c1)⟩, ⟨fun _ => ⟨Or.inl rfl, h5 c1 c2⟩, fun q => absurd c2 q⟩⟩⟩⟩⟩⟩⟩⟩⟩⟩
      · by_cases c3 : (0 : Int32) < (lg_cmp (M.2 (22 + 1) x3.toNatClampNeg) x2.toInt64)
        · obtain ⟨n, h⟩ := h6 c1 c2 c3
          exact ⟨n + 34, ⟨rfl, ⟨fun q => absurd q c1, fun _ => ⟨rfl, ⟨⟨60, rfl, (h2 c1)⟩, ⟨rfl, ⟨⟨60, rfl, (h3 c1)⟩, ⟨rfl, ⟨⟨60, rfl, (h4 c1)⟩, ⟨fun q => absurd q c2, fun _ => ⟨fun _ => h, fun q => absurd c3 q⟩⟩⟩⟩⟩⟩⟩⟩⟩⟩⟩
        · obtain ⟨n, h⟩ := h7 c1 c2 c3
          exact ⟨n + 34, ⟨rfl, ⟨fun q => absurd q c1, fun _ => ⟨rfl, ⟨⟨60, rfl, (h2 c1)⟩, ⟨rfl, ⟨⟨60, rfl, (h3 c1)⟩, ⟨rfl, ⟨⟨60, rfl, (h4 c1)⟩, ⟨fun q => absurd q c2, fun _ => ⟨fun q => absurd q c3, fun _ => h⟩⟩⟩⟩⟩⟩⟩⟩⟩⟩⟩
