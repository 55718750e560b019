theorem sg_108_0 {x1 : Int32} {x2 : Int32} {M : px_Mem} {Q : px_Po} (h1 : px_T 0 155 0 [some (.int x1)] [] M (fun r M1 => px_T 0 108 4 [some (.ref 0), some (.int x1), some (.int x2)] (r.toList ++ []) M1 Q)) : px_T 0 108 0 [some (.ref 0), some (.int x1), some (.int x2)] [] M Q := by
  obtain ⟨n, h⟩ := px_T_cl (k := 108) (pc := 1) (y := 155) (st := [.int x1]) rfl (h1)
  exact ⟨n + 2, h⟩
theorem sg_108_4 {x1 : Int32} {x2 : Int32} {s0 : Int32} {M : px_Mem} {Q : px_Po} (h1 : (s0 = 0) → px_T 0 152 0 [some (.ref 0), some (.int x2)] [] M (fun r M1 => px_T 0 108 12 [some (.ref 0), some (.int x1), some (.int x2)] (r.toList ++ []) M1 Q)) (h2 : (¬ (s0 = 0)) → Q (some (.int (-2))) M) : px_T 0 108 4 [some (.ref 0), some (.int x1), some (.int x2)] [.int s0] M Q := by
  by_cases c1 : s0 = 0
  · obtain ⟨n, h⟩ := px_T_cl (k := 108) (pc := 9) (y := 152) (st := [.int x2, .ref 0]) rfl (h1 c1)
    exact ⟨n + 4, ⟨fun q => absurd c1 q, fun _ => ⟨rfl, h⟩⟩⟩
  · exact ⟨3, ⟨fun _ => ⟨trivial, h2 c1⟩, fun q => absurd q c1⟩⟩
theorem sg_108_12 {x1 : Int32} {x2 : Int32} {s0 : Int32} {M : px_Mem} {Q : px_Po} (h1 : (s0 = 0) → px_T 0 11 0 [some (.ref 28), some (.int x2)] [] M (fun r M1 => px_T 0 108 26 [some (.ref 0), some (.int x1), some (.int x2)] (r.toList ++ []) M1 Q)) (h2 : (¬ (s0 = 0)) → Q (some (.int (-2))) M) : px_T 0 108 12 [some (.ref 0), some (.int x1), some (.int x2)] [.int s0] M Q := by
  by_cases c1 : s0 = 0
  · obtain ⟨n, h⟩ := px_T_cl (k := 108) (pc := 23) (y := 11) (st := [.int x2, .ref 28]) rfl (h1 c1)
    exact ⟨n + 5, ⟨fun _ => ⟨rfl, ⟨rfl, h⟩⟩, fun q => absurd c1 q⟩⟩
  · exact ⟨3, ⟨fun q => absurd q c1, fun _ => ⟨trivial, h2 c1⟩⟩⟩
theorem sg_108_26 {d0 : Option Value} {x1 : Int32} {d2 : Option Value} {s0 : Nat} {M : px_Mem} {Q : px_Po} (h_s0 : px_isW s0) (h1 : px_T 0 70 0 [some (.ref s0), some (.int x1), none] [] M (fun r M1 => px_T 0 108 30 [d0, some (.int x1), d2] (r.toList ++ []) M1 Q)) : px_T 0 108 26 [d0, some (.int x1), d2] [.ref s0] M Q := by
  rcases h_s0 with rfl | rfl
  · obtain ⟨n, h⟩ := px_T_cl (k := 108) (pc := 27) (y := 70) (st := [.int x1, .ref 29]) rfl (h1)
    exact ⟨n + 2, ⟨rfl, h⟩⟩
  · obtain ⟨n, h⟩ := px_T_cl (k := 108) (pc := 27) (y := 70) (st := [.int x1, .ref 47]) rfl (h1)
    exact ⟨n + 2, ⟨rfl, h⟩⟩
theorem sg_108_30 {d0 : Option Value} {d1 : Option Value} {d2 : Option Value} {s0 : Int32} {M : px_Mem} {Q : px_Po} (h1 : Q (some (.int s0)) M) : px_T 0 108 30 [d0, d1, d2] [.int s0] M Q := by
  exact ⟨1, ⟨trivial, h1⟩⟩
theorem sg_109_0 {x1 : Int32} {M : px_Mem} {Q : px_Po} (h1 : px_T 0 152 0 [some (.ref 0), some (.int x1)] [] M (fun r M1 => px_T 0 109 5 [some (.ref 0), some (.int x1), none, none, none] (r.toList ++ []) M1 Q)) : px_T 0 109 0 [some (.ref 0), some (.int x1), none, none, none] [] M Q := by
  obtain ⟨n, h⟩ := px_T_cl (k := 109) (pc := 2) (y := 152) (st := [.int x1, .ref 0]) rfl (h1)
  exact ⟨n + 3, ⟨rfl, h⟩⟩
theorem sg_109_5 {x1 : Int32} {d2 : Option Value} {d3 : Option Value} {d4 : Option Value} {s0 : Int32} {M : px_Mem} {Q : px_Po} (h1 : (s0 = 0) → px_T 0 11 0 [some (.ref 28), some (.int x1)] [] M (fun r M1 => px_T 0 109 19 [some (.ref 0), some (.int x1), d2, d3, d4] (r.toList ++ []) M1 Q)) (h2 : (¬ (s0 = 0)) → Q (some (.int (-2))) M) : px_T 0 109 5 [some (.ref 0), some (.int x1), d2, d3, d4] [.int s0] M Q := by
  by_cases c1 : s0 = 0
  · obtain ⟨n, h⟩ := px_T_cl (k := 109) (pc := 16) (y := 11) (st := [.int x1, .ref 28]) rfl (h1 c1)
    exact ⟨n + 5, ⟨fun _ => ⟨rfl, ⟨rfl, h⟩⟩, fun q => absurd c1 q⟩⟩
  · exact ⟨3, ⟨fun q => absurd q c1, fun _ => ⟨trivial, h2 c1⟩⟩⟩
theorem sg_109_19 {d0 : Option Value} {d1 : Option Value} {d2 : Option Value} {d3 : Option Value} {d4 : Option Value} {s0 : Nat} {M : px_Mem} {Q : px_Po} (h_s0 : px_isW s0) (h1 : px_T 0 109 25 [d0, d1, some (.ref s0), some (.int 0), some (.int 0)] [] M Q) : px_T 0 109 19 [d0, d1, d2, d3, d4] [.ref s0] M Q := by
  rcases h_s0 with rfl | rfl
  · obtain ⟨n, h⟩ := h1
    exact ⟨n + 5, h⟩
  · obtain ⟨n, h⟩ := h1
    exact ⟨n + 5, h⟩
theorem sg_109_25 {d0 : Option Value} {d1 : Option Value} {x2 : Nat} {x3 : Int32} {x4 : Int32} {M : px_Mem} {Q : px_Po} (h_x2 : px_isW x2) (h1 : ((M.1 x2 1) ≤ x4) → Q (some (.int x3)) M) (h2 : (¬ ((M.1 x2 1) ≤ x4)) → vp_in x4 200) (h3 : (¬ ((M.1 x2 1) ≤ x4)) → ((M.1 (x2 + 5) x4.toNatClampNeg) = 1) → px_T 0 70 0 [some (.ref x2), some (.int x4), none] [] M (fun r M1 => px_T 0 109 53 [d0, d1, some (.ref x2), some (.int x3), some (.int x4)] (r.toList ++ [.int 0, .int x3]) M1 Q)) (h4 : (¬ ((M.1 x2 1) ≤ x4)) → (¬ ((M.1 (x2 + 5) x4.toNatClampNeg) = 1)) → px_T 0 109 25 [d0, d1, some (.ref x2), some (.int x3), some (.int (x4 + 1))] [] M Q) : px_T 0 109 25 [d0, d1, some (.ref x2), some (.int x3), some (.int x4)] [] M Q := by
  rcases h_x2 with rfl | rfl
  · by_cases c1 : (M.1 29 1) ≤ x4
    · exact ⟨6, ⟨rfl, ⟨fun _ => ⟨trivial, h1 c1⟩, fun q => absurd c1 q⟩⟩⟩
    · by_cases c2 : (M.1 (29 + 5) x4.toNatClampNeg) = 1
      · obtain ⟨n, h⟩ := px_T_cl (k := 109) (pc := 50) (y := 70) (st := [.int x4, .ref 29, .int 0, .int x3]) rfl (h3 c1 c2)
        exact ⟨n + 15, ⟨rfl, ⟨fun q => absurd q c1, fun _ => ⟨rfl, ⟨Or.inl ⟨0, 200, Or.inl rfl, rfl, (h2 c1)⟩, ⟨fun q => absurd c2 q, fun _ => ⟨rfl, h⟩⟩⟩⟩⟩⟩⟩
      · obtain ⟨n, h⟩ := h4 c1 c2
        exact ⟨n + 12, ⟨rfl, ⟨fun q => absurd q c1, fun _ => ⟨rfl, ⟨Or.inl ⟨0, 200, Or.inl rfl, rfl, (h2 c1)⟩, ⟨fun _ => h, fun q => absurd q c2⟩⟩⟩⟩⟩⟩
  · by_cases c1 : (M.1 47 1) ≤ x4
    · exact ⟨6, ⟨rfl, ⟨fun _ => ⟨trivial, h1 c1⟩, fun q => absurd c1 q⟩⟩⟩
    · by_cases c2 : (M.1 (47 + 5) x4.toNatClampNeg) = 1
      · obtain ⟨n, h⟩ := px_T_cl (k := 109) (pc := 50) (y := 70) (st := [.int x4, .ref 47, .int 0, .int x3]) rfl (h3 c1 c2)
        exact ⟨n + 15, ⟨rfl, ⟨fun q => absurd q c1, fun _ => ⟨rfl, ⟨Or.inl ⟨0, 200, Or.inl rfl, rfl, (h2 c1)⟩, ⟨fun q => absurd c2 q, fun _ => ⟨rfl, h⟩⟩⟩⟩⟩⟩⟩
      · obtain ⟨n, h⟩ := h4 c1 c2
        exact ⟨n + 12, ⟨rfl, ⟨fun q => absurd q c1, fun _ => ⟨rfl, ⟨Or.inl ⟨0, 200, Or.inl rfl, rfl, (h2 c1)⟩, ⟨fun _ => h, fun q => absurd q c2⟩⟩⟩⟩⟩⟩
theorem sg_109_53 {d0 : Option Value} {d1 : Option Value} {x2 : Nat} {d3 : Option Value} {x4 : Int32} {s0 : Int32} {s1 : Int32} {s2 : Int32} {M : px_Mem} {Q : px_Po} (h_x2 : px_isW x2) (h1 : px_T 0 109 25 [d0, d1, some (.ref x2), some (.int (s2 + (if s1 < s0 then s0 else s1))), some (.int (x4 + 1))] [] M Q) : px_T 0 109 53 [d0, d1, some (.ref x2), d3, some (.int x4)] [.int s0, .int s1, .int s2] M Q := by
  rcases h_x2 with rfl | rfl
  · obtain ⟨n, h⟩ := h1
    exact ⟨n + 5, ⟨(Nat.le_of_ble_eq_true rfl), (Nat.le_of_ble_eq_true rfl), (Nat.le_of_ble_eq_true rfl), h⟩⟩
  · obtain ⟨n, h⟩ := h1
    exact ⟨n + 5, ⟨(Nat.le_of_ble_eq_true rfl), (Nat.le_of_ble_eq_true rfl), (Nat.le_of_ble_eq_true rfl), h⟩⟩
theorem sg_110_0 {x1 : Int32} {x2 : Int32} {x3 : Int32} {M : px_Mem} {Q : px_Po} (h1 : px_T 0 154 0 [some (.int x1), some (.int x2)] [] M (fun r M1 => px_T 0 110 5 [some (.ref 0), some (.int x1), some (.int x2), some (.int x3), none] (r.toList ++ []) M1 Q)) : px_T 0 110 0 [some (.ref 0), some (.int x1), some (.int x2), some (.int x3), none] [] M Q := by
  obtain ⟨n, h⟩ := px_T_cl (k := 110) (pc := 2) (y := 154) (st := [.int x2, .int x1]) rfl (h1)
  exact ⟨n + 3, h⟩
theorem sg_110_5 {x1 : Int32} {x2 : Int32} {x3 : Int32} {d4 : Option Value} {s0 : Int32} {M : px_Mem} {Q : px_Po} (h1 : (s0 = 0) → px_T 0 152 0 [some (.ref 0), some (.int x3)] [] M (fun r M1 => px_T 0 110 13 [some (.ref 0), some (.int x1), some (.int x2), some (.int x3), d4] (r.toList ++ []) M1 Q)) (h2 : (¬ (s0 = 0)) → Q (some (.int (-2))) M) : px_T 0 110 5 [some (.ref 0), some (.int x1), some (.int x2), some (.int x3), d4] [.int s0] M Q := by
  by_cases c1 : s0 = 0
  · obtain ⟨n, h⟩ := px_T_cl (k := 110) (pc := 10) (y := 152) (st := [.int x3, .ref 0]) rfl (h1 c1)
    exact ⟨n + 4, ⟨fun q => absurd c1 q, fun _ => ⟨rfl, h⟩⟩⟩
  · exact ⟨3, ⟨fun _ => ⟨trivial, h2 c1⟩, fun q => absurd q c1⟩⟩
theorem sg_110_13 {x1 : Int32} {x2 : Int32} {x3 : Int32} {d4 : Option Value} {s0 : Int32} {M : px_Mem} {Q : px_Po} (h1 : (s0 = 0) → px_T 0 11 0 [some (.ref 28), some (.int x3)] [] M (fun r M1 => px_T 0 110 27 [some (.ref 0), some (.int x1), some (.int x2), some (.int x3), d4] (r.toList ++ []) M1 Q)) (h2 : (¬ (s0 = 0)) → Q (some (.int (-2))) M) : px_T 0 110 13 [some (.ref 0), some (.int x1), some (.int x2), some (.int x3), d4] [.int s0] M Q := by
  by_cases c1 : s0 = 0
  · obtain ⟨n, h⟩ := px_T_cl (k := 110) (pc := 24) (y := 11) (st := [.int x3, .ref 28]) rfl (h1 c1)
    exact ⟨n + 5, ⟨fun _ => ⟨rfl, ⟨rfl, h⟩⟩, fun q => absurd c1 q⟩⟩
  · exact ⟨3, ⟨fun q => absurd q c1, fun _ => ⟨trivial, h2 c1⟩⟩⟩
theorem sg_110_27 {x1 : Int32} {x2 : Int32} {d3 : Option Value} {d4 : Option Value} {s0 : Nat} {M : px_Mem} {Q : px_Po} (h_s0 : px_isW s0) (h1 : px_T 0 44 0 [some (.ref 38), some (.ref s0), none, none, none] [] M (fun r M1 => px_T 0 110 38 [some (.ref 0), some (.int x1), some (.int x2), d3, some (.ref s0)] (r.toList ++ []) M1 Q)) : px_T 0 110 27 [some (.ref 0), some (.int x1), some (.int x2), d3, d4] [.ref s0] M Q := by
  rcases h_s0 with rfl | rfl
  · obtain ⟨n, h⟩ := px_T_cl (k := 110) (pc := 35) (y := 44) (st := [.ref 29, .ref 38]) rfl (h1)
    exact ⟨n + 5, ⟨rfl, ⟨rfl, h⟩⟩⟩
  · obtain ⟨n, h⟩ := px_T_cl (k := 110) (pc := 35) (y := 44) (st := [.ref 47, .ref 38]) rfl (h1)
    exact ⟨n + 5, ⟨rfl, ⟨rfl, h⟩⟩⟩
theorem sg_110_38 {x1 : Int32} {x2 : Int32} {d3 : Option Value} {x4 : Nat} {M : px_Mem} {Q : px_Po} (h_x4 : px_isW x4) (h1 : px_T 0 68 0 [some (.ref x4), some (.int x1), some (.int x2), none] [] M (fun r M1 => px_T 0 110 49 [some (.ref 0), some (.int x1), some (.int x2), d3, some (.ref x4)] (r.toList ++ [.ref 38]) M1 Q)) : px_T 0 110 38 [some (.ref 0), some (.int x1), some (.int x2), d3, some (.ref x4)] [] M Q := by
  rcases h_x4 with rfl | rfl
  · obtain ⟨n, h⟩ := px_T_cl (k := 110) (pc := 46) (y := 68) (st := [.int x2, .int x1, .ref 29, .ref 38]) rfl (h1)
    exact ⟨n + 6, ⟨rfl, ⟨rfl, h⟩⟩⟩
  · obtain ⟨n, h⟩ := px_T_cl (k := 110) (pc := 46) (y := 68) (st := [.int x2, .int x1, .ref 47, .ref 38]) rfl (h1)
    exact ⟨n + 6, ⟨rfl, ⟨rfl, h⟩⟩⟩
theorem sg_110_49 {d0 : Option Value} {d1 : Option Value} {d2 : Option Value} {d3 : Option Value} {d4 : Option Value} {s0 : Int32} {M : px_Mem} {Q : px_Po} (h1 : px_T 0 45 0 [some (.ref 38), some (.int s0)] [] M (fun r M1 => px_T 0 110 52 [d0, d1, d2, d3, d4] (r.toList ++ []) M1 Q)) : px_T 0 110 49 [d0, d1, d2, d3, d4] [.int s0, .ref 38] M Q := by
  obtain ⟨n, h⟩ := px_T_cl (k := 110) (pc := 49) (y := 45) (st := [.int s0, .ref 38]) rfl (h1)
  exact ⟨n + 1, ⟨rfl, h⟩⟩
theorem sg_110_52 {d0 : Option Value} {d1 : Option Value} {d2 : Option Value} {d3 : Option Value} {d4 : Option Value} {s0 : Int32} {M : px_Mem} {Q : px_Po} (h1 : Q (some (.int s0)) M) : px_T 0 110 52 [d0, d1, d2, d3, d4] [.int s0] M Q := by
  exact ⟨1, ⟨trivial, h1⟩⟩
theorem sg_111_0 {x1 : Int32} {x2 : Int32} {x3 : Int32} {M : px_Mem} {Q : px_Po} (h1 : px_T 0 154 0 [some (.int x1), some (.int x2)] [] M (fun r M1 => px_T 0 111 5 [some (.ref 0), some (.int x1), some (.int x2), some (.int x3), none, none] (r.toList ++ []) M1 Q)) : px_T 0 111 0 [some (.ref 0), some (.int x1), some (.int x2), some (.int x3), none, none] [] M Q := by
  obtain ⟨n, h⟩ := px_T_cl (k := 111) (pc := 2) (y := 154) (st := [.int x2, .int x1]) rfl (h1)
  exact ⟨n + 3, h⟩
theorem sg_111_5 {x1 : Int32} {x2 : Int32} {x3 : Int32} {d4 : Option Value} {d5 : Option Value} {s0 : Int32} {M : px_Mem} {Q : px_Po} (h1 : (s0 = 0) → px_T 0 152 0 [some (.ref 0), some (.int x3)] [] M (fun r M1 => px_T 0 111 13 [some (.ref 0), some (.int x1), some (.int x2), some (.int x3), d4, d5] (r.toList ++ []) M1 Q)) (h2 : (¬ (s0 = 0)) → Q (some (.int (-2))) M) : px_T 0 111 5 [some (.ref 0), some (.int x1), some (.int x2), some (.int x3), d4, d5] [.int s0] M Q := by
  by_cases c1 : s0 = 0
  · obtain ⟨n, h⟩ := px_T_cl (k := 111) (pc := 10) (y := 152) (st := [.int x3, .ref 0]) rfl (h1 c1)
    exact ⟨n + 4, ⟨fun q => absurd c1 q, fun _ => ⟨rfl, h⟩⟩⟩
  · exact ⟨3, ⟨fun _ => ⟨trivial, h2 c1⟩, fun q => absurd q c1⟩⟩
theorem sg_111_13 {x1 : Int32} {x2 : Int32} {x3 : Int32} {d4 : Option Value} {d5 : Option Value} {s0 : Int32} {M : px_Mem} {Q : px_Po} (h1 : (s0 = 0) → px_T 0 11 0 [some (.ref 28), some (.int x3)] [] M (fun r M1 => px_T 0 111 27 [some (.ref 0), some (.int x1), some (.int x2), some (.int x3), d4, d5] (r.toList ++ []) M1 Q)) (h2 : (¬ (s0 = 0)) → Q (some (.int (-2))) M) : px_T 0 111 13 [some (.ref 0), some (.int x1), some (.int x2), some (.int x3), d4, d5] [.int s0] M Q := by
  by_cases c1 : s0 = 0
  · obtain ⟨n, h⟩ := px_T_cl (k := 111) (pc := 24) (y := 11) (st := [.int x3, .ref 28]) rfl (h1 c1)
    exact ⟨n + 5, ⟨fun _ => ⟨rfl, ⟨rfl, h⟩⟩, fun q => absurd c1 q⟩⟩
  · exact ⟨3, ⟨fun q => absurd q c1, fun _ => ⟨trivial, h2 c1⟩⟩⟩
theorem sg_111_27 {d0 : Option Value} {x1 : Int32} {x2 : Int32} {d3 : Option Value} {d4 : Option Value} {d5 : Option Value} {s0 : Nat} {M : px_Mem} {Q : px_Po} (h_s0 : px_isW s0) (h1 : px_T 0 68 0 [some (.ref s0), some (.int x1), some (.int x2), none] [] M (fun r M1 => px_T 0 111 36 [d0, some (.int x1), some (.int x2), d3, some (.ref s0), d5] (r.toList ++ []) M1 Q)) : px_T 0 111 27 [d0, some (.int x1), some (.int x2), d3, d4, d5] [.ref s0] M Q := by
  rcases h_s0 with rfl | rfl
  · obtain ⟨n, h⟩ := px_T_cl (k := 111) (pc := 33) (y := 68) (st := [.int x2, .int x1, .ref 29]) rfl (h1)
    exact ⟨n + 5, ⟨rfl, h⟩⟩
  · obtain ⟨n, h⟩ := px_T_cl (k := 111) (pc := 33) (y := 68) (st := [.int x2, .int x1, .ref 47]) rfl (h1)
    exact ⟨n + 5, ⟨rfl, h⟩⟩
theorem sg_111_36 {d0 : Option Value} {d1 : Option Value} {d2 : Option Value} {d3 : Option Value} {x4 : Nat} {d5 : Option Value} {s0 : Int32} {M : px_Mem} {Q : px_Po} (h_x4 : px_isW x4) (h1 : ((0 : Int32) ≤ s0) → px_T 0 69 0 [some (.ref x4), some (.int s0), none, none] [] M (fun r M1 => px_T 0 111 54 [d0, d1, d2, d3, some (.ref x4), some (.int s0)] (r.toList ++ []) M1 Q)) (h2 : (¬ ((0 : Int32) ≤ s0)) → Q (some (.int 0)) M) : px_T 0 111 36 [d0, d1, d2, d3, some (.ref x4), d5] [.int s0] M Q := by
  rcases h_x4 with rfl | rfl
  · by_cases c1 : (0 : Int32) ≤ s0
    · obtain ⟨n, h⟩ := px_T_cl (k := 111) (pc := 51) (y := 69) (st := [.int s0, .ref 29]) rfl (h1 c1)
      exact ⟨n + 6, ⟨fun _ => ⟨rfl, h⟩, fun q => absurd c1 q⟩⟩
    · exact ⟨6, ⟨fun q => absurd q c1, fun _ => ⟨trivial, h2 c1⟩⟩⟩
  · by_cases c1 : (0 : Int32) ≤ s0
    · obtain ⟨n, h⟩ := px_T_cl (k := 111) (pc := 51) (y := 69) (st := [.int s0, .ref 47]) rfl (h1 c1)
      exact ⟨n + 6, ⟨fun _ => ⟨rfl, h⟩, fun q => absurd c1 q⟩⟩
    · exact ⟨6, ⟨fun q => absurd q c1, fun _ => ⟨trivial, h2 c1⟩⟩⟩
theorem sg_111_54 {d0 : Option Value} {d1 : Option Value} {d2 : Option Value} {d3 : Option Value} {d4 : Option Value} {d5 : Option Value} {s0 : Int32} {M : px_Mem} {Q : px_Po} (h1 : Q (some (.int s0)) M) : px_T 0 111 54 [d0, d1, d2, d3, d4, d5] [.int s0] M Q := by
  exact ⟨1, ⟨trivial, h1⟩⟩
theorem sg_112_0 {x1 : Int32} {x2 : Int32} {M : px_Mem} {Q : px_Po} (h1 : px_T 0 152 0 [some (.ref 0), some (.int x1)] [] M (fun r M1 => px_T 0 112 5 [some (.ref 0), some (.int x1), some (.int x2)] (r.toList ++ []) M1 Q)) : px_T 0 112 0 [some (.ref 0), some (.int x1), some (.int x2)] [] M Q := by
  obtain ⟨n, h⟩ := px_T_cl (k := 112) (pc := 2) (y := 152) (st := [.int x1, .ref 0]) rfl (h1)
  exact ⟨n + 3, ⟨rfl, h⟩⟩
theorem sg_112_5 {x1 : Int32} {x2 : Int32} {s0 : Int32} {M : px_Mem} {Q : px_Po} (h1 : (s0 = 0) → px_T 0 152 0 [some (.ref 0), some (.int x2)] [] M (fun r M1 => px_T 0 112 13 [some (.ref 0), some (.int x1), some (.int x2)] (r.toList ++ []) M1 Q)) (h2 : (¬ (s0 = 0)) → Q (some (.int (-2))) M) : px_T 0 112 5 [some (.ref 0), some (.int x1), some (.int x2)] [.int s0] M Q := by
  by_cases c1 : s0 = 0
  · obtain ⟨n, h⟩ := px_T_cl (k := 112) (pc := 10) (y := 152) (st := [.int x2, .ref 0]) rfl (h1 c1)
    exact ⟨n + 4, ⟨fun q => absurd c1 q, fun _ => ⟨rfl, h⟩⟩⟩
  · exact ⟨3, ⟨fun _ => ⟨trivial, h2 c1⟩, fun q => absurd q c1⟩⟩
theorem sg_112_13 {x1 : Int32} {x2 : Int32} {s0 : Int32} {M : px_Mem} {Q : px_Po} (h1 : (s0 = 0) → px_T 0 48 0 [some (.ref 38), none] [] M (fun r M1 => px_T 0 112 26 [some (.ref 0), some (.int x1), some (.int x2)] (r.toList ++ []) M1 Q)) (h2 : (¬ (s0 = 0)) → Q (some (.int (-2))) M) : px_T 0 112 13 [some (.ref 0), some (.int x1), some (.int x2)] [.int s0] M Q := by
  by_cases c1 : s0 = 0
  · obtain ⟨n, h⟩ := px_T_cl (k := 112) (pc := 23) (y := 48) (st := [.ref 38]) rfl (h1 c1)
    exact ⟨n + 4, ⟨fun _ => ⟨rfl, ⟨rfl, h⟩⟩, fun q => absurd c1 q⟩⟩
  · exact ⟨3, ⟨fun q => absurd q c1, fun _ => ⟨trivial, h2 c1⟩⟩⟩
theorem sg_112_26 {x1 : Int32} {x2 : Int32} {M : px_Mem} {Q : px_Po} (h1 : px_T 0 46 0 [some (.ref 38), some (.int x1)] [] M (fun r M1 => px_T 0 112 34 [some (.ref 0), some (.int x1), some (.int x2)] (r.toList ++ []) M1 Q)) : px_T 0 112 26 [some (.ref 0), some (.int x1), some (.int x2)] [] M Q := by
  obtain ⟨n, h⟩ := px_T_cl (k := 112) (pc := 31) (y := 46) (st := [.int x1, .ref 38]) rfl (h1)
  exact ⟨n + 4, ⟨rfl, ⟨rfl, h⟩⟩⟩
theorem sg_112_34 {d1 : Option Value} {x2 : Int32} {s0 : Int32} {M : px_Mem} {Q : px_Po} (h1 : px_T 0 46 0 [some (.ref 38), some (.int x2)] [] M (fun r M1 => px_T 0 112 42 [some (.ref 0), d1, some (.int x2)] (r.toList ++ [.int s0]) M1 Q)) : px_T 0 112 34 [some (.ref 0), d1, some (.int x2)] [.int s0] M Q := by
  obtain ⟨n, h⟩ := px_T_cl (k := 112) (pc := 39) (y := 46) (st := [.int x2, .ref 38, .int s0]) rfl (h1)
  exact ⟨n + 4, ⟨rfl, ⟨rfl, h⟩⟩⟩
theorem sg_112_42 {d0 : Option Value} {d1 : Option Value} {d2 : Option Value} {s0 : Int32} {s1 : Int32} {M : px_Mem} {Q : px_Po} (h1 : (s1 = s0) → Q (some (.int 1)) M) (h2 : (¬ (s1 = s0)) → Q (some (.int 0)) M) : px_T 0 112 42 [d0, d1, d2] [.int s0, .int s1] M Q := by
  by_cases c1 : s1 = s0
  · exact ⟨4, ⟨fun q => absurd c1 q, fun _ => ⟨trivial, h1 c1⟩⟩⟩
  · exact ⟨3, ⟨fun _ => ⟨trivial, h2 c1⟩, fun q => absurd q c1⟩⟩
theorem sg_113_0 {x1 : Int32} {M : px_Mem} {Q : px_Po} (h1 : px_T 0 152 0 [some (.ref 0), some (.int x1)] [] M (fun r M1 => px_T 0 113 5 [some (.ref 0), some (.int x1)] (r.toList ++ []) M1 Q)) : px_T 0 113 0 [some (.ref 0), some (.int x1)] [] M Q := by
  obtain ⟨n, h⟩ := px_T_cl (k := 113) (pc := 2) (y := 152) (st := [.int x1, .ref 0]) rfl (h1)
  exact ⟨n + 3, ⟨rfl, h⟩⟩
theorem sg_113_5 {x1 : Int32} {s0 : Int32} {M : px_Mem} {Q : px_Po} (h1 : (s0 = 0) → px_T 0 48 0 [some (.ref 38), none] [] M (fun r M1 => px_T 0 113 18 [some (.ref 0), some (.int x1)] (r.toList ++ []) M1 Q)) (h2 : (¬ (s0 = 0)) → Q (some (.int (-2))) M) : px_T 0 113 5 [some (.ref 0), some (.int x1)] [.int s0] M Q := by
  by_cases c1 : s0 = 0
  · obtain ⟨n, h⟩ := px_T_cl (k := 113) (pc := 15) (y := 48) (st := [.ref 38]) rfl (h1 c1)
    exact ⟨n + 4, ⟨fun _ => ⟨rfl, ⟨rfl, h⟩⟩, fun q => absurd c1 q⟩⟩
  · exact ⟨3, ⟨fun q => absurd q c1, fun _ => ⟨trivial, h2 c1⟩⟩⟩
theorem sg_113_18 {x1 : Int32} {M : px_Mem} {Q : px_Po} (h1 : px_T 0 46 0 [some (.ref 38), some (.int x1)] [] M (fun r M1 => px_T 0 113 26 [some (.ref 0), some (.int x1)] (r.toList ++ []) M1 Q)) : px_T 0 113 18 [some (.ref 0), some (.int x1)] [] M Q := by
  obtain ⟨n, h⟩ := px_T_cl (k := 113) (pc := 23) (y := 46) (st := [.int x1, .ref 38]) rfl (h1)
  exact ⟨n + 4, ⟨rfl, ⟨rfl, h⟩⟩⟩
theorem sg_113_26 {d0 : Option Value} {d1 : Option Value} {s0 : Int32} {M : px_Mem} {Q : px_Po} (h1 : Q (some (.int s0)) M) : px_T 0 113 26 [d0, d1] [.int s0] M Q := by
  exact ⟨1, ⟨trivial, h1⟩⟩
theorem sg_114_0 {M : px_Mem} {Q : px_Po} (h1 : px_T 0 151 0 [some (.ref 0)] [] M (fun r M1 => px_T 0 114 4 [some (.ref 0), none, none] (r.toList ++ []) M1 Q)) : px_T 0 114 0 [some (.ref 0), none, none] [] M Q := by
  obtain ⟨n, h⟩ := px_T_cl (k := 114) (pc := 1) (y := 151) (st := [.ref 0]) rfl (h1)
  exact ⟨n + 2, ⟨rfl, h⟩⟩
theorem sg_114_4 {d1 : Option Value} {d2 : Option Value} {s0 : Int32} {M : px_Mem} {Q : px_Po} (h1 : (s0 = 0) → px_T 0 48 0 [some (.ref 38), none] [] M (fun r M1 => px_T 0 114 17 [some (.ref 0), d1, d2] (r.toList ++ []) M1 Q)) (h2 : (¬ (s0 = 0)) → Q (some (.int (-2))) M) : px_T 0 114 4 [some (.ref 0), d1, d2] [.int s0] M Q := by
  by_cases c1 : s0 = 0
  · obtain ⟨n, h⟩ := px_T_cl (k := 114) (pc := 14) (y := 48) (st := [.ref 38]) rfl (h1 c1)
    exact ⟨n + 4, ⟨fun _ => ⟨rfl, ⟨rfl, h⟩⟩, fun q => absurd c1 q⟩⟩
  · exact ⟨3, ⟨fun q => absurd q c1, fun _ => ⟨trivial, h2 c1⟩⟩⟩
theorem sg_114_17 {d1 : Option Value} {d2 : Option Value} {M : px_Mem} {Q : px_Po} (h1 : px_T 0 114 21 [some (.ref 0), some (.int 0), some (.int 0)] [] M Q) : px_T 0 114 17 [some (.ref 0), d1, d2] [] M Q := by
  obtain ⟨n, h⟩ := h1
  exact ⟨n + 4, h⟩
theorem sg_114_21 {x1 : Int32} {x2 : Int32} {M : px_Mem} {Q : px_Po} (h1 : px_T 0 53 0 [some (.ref 4)] [] M (fun r M1 => px_T 0 114 29 [some (.ref 0), some (.int x1), some (.int x2)] (r.toList ++ [.int x2]) M1 Q)) : px_T 0 114 21 [some (.ref 0), some (.int x1), some (.int x2)] [] M Q := by
  obtain ⟨n, h⟩ := px_T_cl (k := 114) (pc := 26) (y := 53) (st := [.ref 4, .int x2]) rfl (h1)
  exact ⟨n + 4, ⟨rfl, ⟨rfl, h⟩⟩⟩
theorem sg_114_29 {x1 : Int32} {x2 : Int32} {s0 : Int32} {s1 : Int32} {M : px_Mem} {Q : px_Po} (h1 : (s0 < s1) → Q (some (.int x1)) M) (h2 : (¬ (s0 < s1)) → px_T 0 46 0 [some (.ref 38), some (.int x2)] [] M (fun r M1 => px_T 0 114 40 [some (.ref 0), some (.int x1), some (.int x2)] (r.toList ++ []) M1 Q)) : px_T 0 114 29 [some (.ref 0), some (.int x1), some (.int x2)] [.int s0, .int s1] M Q := by
  by_cases c1 : s0 < s1
  · exact ⟨3, ⟨fun _ => ⟨trivial, h1 c1⟩, fun q => absurd c1 q⟩⟩
  · obtain ⟨n, h⟩ := px_T_cl (k := 114) (pc := 37) (y := 46) (st := [.int x2, .ref 38]) rfl (h2 c1)
    exact ⟨n + 5, ⟨fun q => absurd q c1, fun _ => ⟨rfl, ⟨rfl, h⟩⟩⟩⟩
theorem sg_114_40 {x1 : Int32} {x2 : Int32} {s0 : Int32} {M : px_Mem} {Q : px_Po} (h1 : (s0 = x2) → px_T 0 114 21 [some (.ref 0), some (.int (x1 + 1)), some (.int (x2 + 1))] [] M Q) (h2 : (¬ (s0 = x2)) → px_T 0 114 21 [some (.ref 0), some (.int x1), some (.int (x2 + 1))] [] M Q) : px_T 0 114 40 [some (.ref 0), some (.int x1), some (.int x2)] [.int s0] M Q := by
  by_cases c1 : s0 = x2
  · obtain ⟨n, h⟩ := h1 c1
    exact ⟨n + 5, ⟨fun q => absurd c1 q, fun _ => h⟩⟩
  · obtain ⟨n, h⟩ := h2 c1
    exact ⟨n + 4, ⟨fun _ => h, fun q => absurd q c1⟩⟩
theorem sg_115_0 {M : px_Mem} {Q : px_Po} (h1 : px_T 0 151 0 [some (.ref 0)] [] M (fun r M1 => px_T 0 115 4 [some (.ref 0)] (r.toList ++ []) M1 Q)) : px_T 0 115 0 [some (.ref 0)] [] M Q := by
  obtain ⟨n, h⟩ := px_T_cl (k := 115) (pc := 1) (y := 151) (st := [.ref 0]) rfl (h1)
  exact ⟨n + 2, ⟨rfl, h⟩⟩
theorem sg_115_4 {s0 : Int32} {M : px_Mem} {Q : px_Po} (h1 : (s0 = 0) → px_T 0 48 0 [some (.ref 38), none] [] M (fun r M1 => px_T 0 115 17 [some (.ref 0)] (r.toList ++ []) M1 Q)) (h2 : (¬ (s0 = 0)) → Q (some (.int (-2))) M) : px_T 0 115 4 [some (.ref 0)] [.int s0] M Q := by
  by_cases c1 : s0 = 0
  · obtain ⟨n, h⟩ := px_T_cl (k := 115) (pc := 14) (y := 48) (st := [.ref 38]) rfl (h1 c1)
    exact ⟨n + 4, ⟨fun _ => ⟨rfl, ⟨rfl, h⟩⟩, fun q => absurd c1 q⟩⟩
  · exact ⟨3, ⟨fun q => absurd q c1, fun _ => ⟨trivial, h2 c1⟩⟩⟩
theorem sg_115_17 {M : px_Mem} {Q : px_Po} (h1 : px_T 0 47 0 [some (.ref 38), none, none] [] M (fun r M1 => px_T 0 115 24 [some (.ref 0)] (r.toList ++ []) M1 Q)) : px_T 0 115 17 [some (.ref 0)] [] M Q := by
  obtain ⟨n, h⟩ := px_T_cl (k := 115) (pc := 21) (y := 47) (st := [.ref 38]) rfl (h1)
  exact ⟨n + 3, ⟨rfl, ⟨rfl, h⟩⟩⟩
theorem sg_115_24 {d0 : Option Value} {s0 : Int32} {M : px_Mem} {Q : px_Po} (h1 : Q (some (.int s0)) M) : px_T 0 115 24 [d0] [.int s0] M Q := by
  exact ⟨1, ⟨trivial, h1⟩⟩
theorem sg_116_0 {x1 : Int32} {x2 : Int32} {M : px_Mem} {Q : px_Po} (h1 : px_T 0 153 0 [some (.int x1)] [] M (fun r M1 => px_T 0 116 4 [some (.ref 0), some (.int x1), some (.int x2), none] (r.toList ++ []) M1 Q)) : px_T 0 116 0 [some (.ref 0), some (.int x1), some (.int x2), none] [] M Q := by
  obtain ⟨n, h⟩ := px_T_cl (k := 116) (pc := 1) (y := 153) (st := [.int x1]) rfl (h1)
  exact ⟨n + 2, h⟩
theorem sg_116_4 {x1 : Int32} {x2 : Int32} {d3 : Option Value} {s0 : Int32} {M : px_Mem} {Q : px_Po} (h1 : (s0 = 0) → px_T 0 152 0 [some (.ref 0), some (.int x2)] [] M (fun r M1 => px_T 0 116 12 [some (.ref 0), some (.int x1), some (.int x2), d3] (r.toList ++ []) M1 Q)) (h2 : (¬ (s0 = 0)) → Q (some (.int (-2))) M) : px_T 0 116 4 [some (.ref 0), some (.int x1), some (.int x2), d3] [.int s0] M Q := by
  by_cases c1 : s0 = 0
  · obtain ⟨n, h⟩ := px_T_cl (k := 116) (pc := 9) (y := 152) (st := [.int x2, .ref 0]) rfl (h1 c1)
    exact ⟨n + 4, ⟨fun q => absurd c1 q, fun _ => ⟨rfl, h⟩⟩⟩
  · exact ⟨3, ⟨fun _ => ⟨trivial, h2 c1⟩, fun q => absurd q c1⟩⟩
theorem sg_116_12 {x1 : Int32} {x2 : Int32} {d3 : Option Value} {s0 : Int32} {M : px_Mem} {Q : px_Po} (h1 : (s0 = 0) → px_T 0 11 0 [some (.ref 28), some (.int x2)] [] M (fun r M1 => px_T 0 116 26 [some (.ref 0), some (.int x1), some (.int x2), d3] (r.toList ++ []) M1 Q)) (h2 : (¬ (s0 = 0)) → Q (some (.int (-2))) M) : px_T 0 116 12 [some (.ref 0), some (.int x1), some (.int x2), d3] [.int s0] M Q := by
  by_cases c1 : s0 = 0
  · obtain ⟨n, h⟩ := px_T_cl (k := 116) (pc := 23) (y := 11) (st := [.int x2, .ref 28]) rfl (h1 c1)
    exact ⟨n + 5, ⟨fun _ => ⟨rfl, ⟨rfl, h⟩⟩, fun q => absurd c1 q⟩⟩
  · exact ⟨3, ⟨fun q => absurd q c1, fun _ => ⟨trivial, h2 c1⟩⟩⟩
theorem sg_116_26 {x1 : Int32} {d2 : Option Value} {d3 : Option Value} {s0 : Nat} {M : px_Mem} {Q : px_Po} (h_s0 : px_isW s0) (h1 : px_T 0 63 0 [some (.ref s0), some (.int x1)] [] M (fun r M1 => px_T 0 116 32 [some (.ref 0), some (.int x1), d2, some (.ref s0)] (r.toList ++ []) M1 Q)) : px_T 0 116 26 [some (.ref 0), some (.int x1), d2, d3] [.ref s0] M Q := by
  rcases h_s0 with rfl | rfl
  · obtain ⟨n, h⟩ := px_T_cl (k := 116) (pc := 29) (y := 63) (st := [.int x1, .ref 29]) rfl (h1)
    exact ⟨n + 4, ⟨rfl, h⟩⟩
  · obtain ⟨n, h⟩ := px_T_cl (k := 116) (pc := 29) (y := 63) (st := [.int x1, .ref 47]) rfl (h1)
    exact ⟨n + 4, ⟨rfl, h⟩⟩
theorem sg_116_32 {x1 : Int32} {d2 : Option Value} {x3 : Nat} {s0 : Int32} {M : px_Mem} {Q : px_Po} (h_x3 : px_isW x3) (h1 : (s0 = 0) → Q (some (.int (-1))) M) (h2 : (¬ (s0 = 0)) → px_T 0 16 0 [some (.ref 44), some (.ref x3), none] [] M (fun r M1 => px_T 0 116 45 [some (.ref 0), some (.int x1), d2, some (.ref x3)] (r.toList ++ []) M1 Q)) : px_T 0 116 32 [some (.ref 0), some (.int x1), d2, some (.ref x3)] [.int s0] M Q := by
  rcases h_x3 with rfl | rfl
  · by_cases c1 : s0 = 0
    · exact ⟨3, ⟨fun q => absurd c1 q, fun _ => ⟨trivial, h1 c1⟩⟩⟩
    · obtain ⟨n, h⟩ := px_T_cl (k := 116) (pc := 42) (y := 16) (st := [.ref 29, .ref 44]) rfl (h2 c1)
      exact ⟨n + 5, ⟨fun _ => ⟨rfl, ⟨rfl, h⟩⟩, fun q => absurd q c1⟩⟩
  · by_cases c1 : s0 = 0
    · exact ⟨3, ⟨fun q => absurd c1 q, fun _ => ⟨trivial, h1 c1⟩⟩⟩
    · obtain ⟨n, h⟩ := px_T_cl (k := 116) (pc := 42) (y := 16) (st := [.ref 47, .ref 44]) rfl (h2 c1)
      exact ⟨n + 5, ⟨fun _ => ⟨rfl, ⟨rfl, h⟩⟩, fun q => absurd q c1⟩⟩
theorem sg_116_45 {x1 : Int32} {d2 : Option Value} {d3 : Option Value} {M : px_Mem} {Q : px_Po} (h1 : vp_in x1 16) (h2 : Q (some (.int (M.1 45 x1.toNatClampNeg))) M) : px_T 0 116 45 [some (.ref 0), some (.int x1), d2, d3] [] M Q := by
  exact ⟨6, ⟨rfl, ⟨rfl, ⟨Or.inl ⟨0, 16, Or.inl rfl, rfl, h1⟩, ⟨trivial, h2⟩⟩⟩⟩⟩
theorem sg_117_0 {x1 : Int32} {M : px_Mem} {Q : px_Po} (h1 : px_T 0 152 0 [some (.ref 0), some (.int x1)] [] M (fun r M1 => px_T 0 117 5 [some (.ref 0), some (.int x1)] (r.toList ++ []) M1 Q)) : px_T 0 117 0 [some (.ref 0), some (.int x1)] [] M Q := by
  obtain ⟨n, h⟩ := px_T_cl (k := 117) (pc := 2) (y := 152) (st := [.int x1, .ref 0]) rfl (h1)
  exact ⟨n + 3, ⟨rfl, h⟩⟩
theorem sg_117_5 {x1 : Int32} {s0 : Int32} {M : px_Mem} {Q : px_Po} (h1 : (s0 = 0) → px_T 0 11 0 [some (.ref 28), some (.int x1)] [] M (fun r M1 => px_T 0 117 23 [some (.ref 0), some (.int x1)] (r.toList ++ [.ref 44]) M1 Q)) (h2 : (¬ (s0 = 0)) → Q (some (.int (-2))) M) : px_T 0 117 5 [some (.ref 0), some (.int x1)] [.int s0] M Q := by
  by_cases c1 : s0 = 0
  · obtain ⟨n, h⟩ := px_T_cl (k := 117) (pc := 20) (y := 11) (st := [.int x1, .ref 28, .ref 44]) rfl (h1 c1)
    exact ⟨n + 7, ⟨fun _ => ⟨rfl, ⟨rfl, ⟨rfl, h⟩⟩⟩, fun q => absurd c1 q⟩⟩
  · exact ⟨3, ⟨fun q => absurd q c1, fun _ => ⟨trivial, h2 c1⟩⟩⟩
theorem sg_117_23 {d1 : Option Value} {s0 : Nat} {M : px_Mem} {Q : px_Po} (h_s0 : px_isW s0) (h1 : px_T 0 16 0 [some (.ref 44), some (.ref s0), none] [] M (fun r M1 => px_T 0 117 26 [some (.ref 0), d1] (r.toList ++ []) M1 Q)) : px_T 0 117 23 [some (.ref 0), d1] [.ref s0, .ref 44] M Q := by
  rcases h_s0 with rfl | rfl
  · obtain ⟨n, h⟩ := px_T_cl (k := 117) (pc := 23) (y := 16) (st := [.ref 29, .ref 44]) rfl (h1)
    exact ⟨n + 1, ⟨rfl, h⟩⟩
  · obtain ⟨n, h⟩ := px_T_cl (k := 117) (pc := 23) (y := 16) (st := [.ref 47, .ref 44]) rfl (h1)
    exact ⟨n + 1, ⟨rfl, h⟩⟩
theorem sg_117_26 {d1 : Option Value} {M : px_Mem} {Q : px_Po} (h1 : Q (some (.int (M.1 44 3))) M) : px_T 0 117 26 [some (.ref 0), d1] [] M Q := by
  exact ⟨4, ⟨rfl, ⟨rfl, ⟨trivial, h1⟩⟩⟩⟩
theorem sg_118_0 {x1 : Int32} {M : px_Mem} {Q : px_Po} (h1 : px_T 0 152 0 [some (.ref 0), some (.int x1)] [] M (fun r M1 => px_T 0 118 5 [some (.ref 0), some (.int x1)] (r.toList ++ []) M1 Q)) : px_T 0 118 0 [some (.ref 0), some (.int x1)] [] M Q := by
  obtain ⟨n, h⟩ := px_T_cl (k := 118) (pc := 2) (y := 152) (st := [.int x1, .ref 0]) rfl (h1)
  exact ⟨n + 3, ⟨rfl, h⟩⟩
theorem sg_118_5 {x1 : Int32} {s0 : Int32} {M : px_Mem} {Q : px_Po} (h1 : (s0 = 0) → px_T 0 11 0 [some (.ref 28), some (.int x1)] [] M (fun r M1 => px_T 0 118 23 [some (.ref 0), some (.int x1)] (r.toList ++ [.ref 44]) M1 Q)) (h2 : (¬ (s0 = 0)) → Q (some (.int (-2))) M) : px_T 0 118 5 [some (.ref 0), some (.int x1)] [.int s0] M Q := by
  by_cases c1 : s0 = 0
  · obtain ⟨n, h⟩ := px_T_cl (k := 118) (pc := 20) (y := 11) (st := [.int x1, .ref 28, .ref 44]) rfl (h1 c1)
    exact ⟨n + 7, ⟨fun _ => ⟨rfl, ⟨rfl, ⟨rfl, h⟩⟩⟩, fun q => absurd c1 q⟩⟩
  · exact ⟨3, ⟨fun q => absurd q c1, fun _ => ⟨trivial, h2 c1⟩⟩⟩
theorem sg_118_23 {d1 : Option Value} {s0 : Nat} {M : px_Mem} {Q : px_Po} (h_s0 : px_isW s0) (h1 : px_T 0 16 0 [some (.ref 44), some (.ref s0), none] [] M (fun r M1 => px_T 0 118 26 [some (.ref 0), d1] (r.toList ++ []) M1 Q)) : px_T 0 118 23 [some (.ref 0), d1] [.ref s0, .ref 44] M Q := by
  rcases h_s0 with rfl | rfl
  · obtain ⟨n, h⟩ := px_T_cl (k := 118) (pc := 23) (y := 16) (st := [.ref 29, .ref 44]) rfl (h1)
    exact ⟨n + 1, ⟨rfl, h⟩⟩
  · obtain ⟨n, h⟩ := px_T_cl (k := 118) (pc := 23) (y := 16) (st := [.ref 47, .ref 44]) rfl (h1)
    exact ⟨n + 1, ⟨rfl, h⟩⟩
theorem sg_118_26 {d1 : Option Value} {M : px_Mem} {Q : px_Po} (h1 : px_T 0 17 0 [some (.ref 44), some (.int 1), none, none] [] M (fun r M1 => px_T 0 118 35 [some (.ref 0), d1] (r.toList ++ [.int 2]) M1 Q)) : px_T 0 118 26 [some (.ref 0), d1] [] M Q := by
  obtain ⟨n, h⟩ := px_T_cl (k := 118) (pc := 32) (y := 17) (st := [.int 1, .ref 44, .int 2]) rfl (h1)
  exact ⟨n + 5, ⟨rfl, ⟨rfl, h⟩⟩⟩
theorem sg_118_35 {d1 : Option Value} {s0 : Int32} {s1 : Int32} {M : px_Mem} {Q : px_Po} (h1 : px_T 0 17 0 [some (.ref 44), some (.int 2), none, none] [] M (fun r M1 => px_T 0 118 46 [some (.ref 0), d1] (r.toList ++ [.int (s1 * (s0 - 1))]) M1 Q)) : px_T 0 118 35 [some (.ref 0), d1] [.int s0, .int s1] M Q := by
  obtain ⟨n, h⟩ := px_T_cl (k := 118) (pc := 43) (y := 17) (st := [.int 2, .ref 44, .int (s1 * (s0 - 1))]) rfl (h1)
  exact ⟨n + 7, ⟨rfl, ⟨rfl, h⟩⟩⟩
theorem sg_118_46 {d1 : Option Value} {s0 : Int32} {s1 : Int32} {M : px_Mem} {Q : px_Po} (h1 : px_T 0 17 0 [some (.ref 44), some (.int 3), none, none] [] M (fun r M1 => px_T 0 118 55 [some (.ref 0), d1] (r.toList ++ [.int (s1 + s0)]) M1 Q)) : px_T 0 118 46 [some (.ref 0), d1] [.int s0, .int s1] M Q := by
  obtain ⟨n, h⟩ := px_T_cl (k := 118) (pc := 52) (y := 17) (st := [.int 3, .ref 44, .int (s1 + s0)]) rfl (h1)
  exact ⟨n + 5, ⟨rfl, ⟨rfl, h⟩⟩⟩
theorem sg_118_55 {d1 : Option Value} {s0 : Int32} {s1 : Int32} {M : px_Mem} {Q : px_Po} (h1 : px_T 0 17 0 [some (.ref 44), some (.int 4), none, none] [] M (fun r M1 => px_T 0 118 65 [some (.ref 0), d1] (r.toList ++ [.int 3, .int (s1 + s0)]) M1 Q)) : px_T 0 118 55 [some (.ref 0), d1] [.int s0, .int s1] M Q := by
  obtain ⟨n, h⟩ := px_T_cl (k := 118) (pc := 62) (y := 17) (st := [.int 4, .ref 44, .int 3, .int (s1 + s0)]) rfl (h1)
  exact ⟨n + 6, ⟨rfl, ⟨rfl, h⟩⟩⟩
theorem sg_118_65 {d0 : Option Value} {d1 : Option Value} {s0 : Int32} {s1 : Int32} {s2 : Int32} {M : px_Mem} {Q : px_Po} (h1 : Q (some (.int (s2 + (s1 * s0)))) M) : px_T 0 118 65 [d0, d1] [.int s0, .int s1, .int s2] M Q := by
  exact ⟨3, ⟨trivial, h1⟩⟩
theorem sg_119_0 {x1 : Int32} {x2 : Int32} {M : px_Mem} {Q : px_Po} (h1 : (x1 < 0) → Q (some (.int (-2))) M) (h2 : (¬ (x1 < 0)) → px_T 0 152 0 [some (.ref 0), some (.int x2)] [] M (fun r M1 => px_T 0 119 9 [some (.ref 0), some (.int x1), some (.int x2)] (r.toList ++ []) M1 Q)) : px_T 0 119 0 [some (.ref 0), some (.int x1), some (.int x2)] [] M Q := by
  by_cases c1 : x1 < 0
  · exact ⟨4, ⟨fun _ => ⟨trivial, h1 c1⟩, fun q => absurd c1 q⟩⟩
  · obtain ⟨n, h⟩ := px_T_cl (k := 119) (pc := 6) (y := 152) (st := [.int x2, .ref 0]) rfl (h2 c1)
    exact ⟨n + 5, ⟨fun q => absurd q c1, fun _ => ⟨rfl, h⟩⟩⟩
theorem sg_119_9 {x1 : Int32} {x2 : Int32} {s0 : Int32} {M : px_Mem} {Q : px_Po} (h1 : (s0 = 0) → px_T 0 11 0 [some (.ref 28), some (.int x2)] [] M (fun r M1 => px_T 0 119 27 [some (.ref 0), some (.int x1), some (.int x2)] (r.toList ++ [.ref 44]) M1 Q)) (h2 : (¬ (s0 = 0)) → Q (some (.int (-2))) M) : px_T 0 119 9 [some (.ref 0), some (.int x1), some (.int x2)] [.int s0] M Q := by
  by_cases c1 : s0 = 0
  · obtain ⟨n, h⟩ := px_T_cl (k := 119) (pc := 24) (y := 11) (st := [.int x2, .ref 28, .ref 44]) rfl (h1 c1)
    exact ⟨n + 7, ⟨fun _ => ⟨rfl, ⟨rfl, ⟨rfl, h⟩⟩⟩, fun q => absurd c1 q⟩⟩
  · exact ⟨3, ⟨fun q => absurd q c1, fun _ => ⟨trivial, h2 c1⟩⟩⟩
theorem sg_119_27 {x1 : Int32} {d2 : Option Value} {s0 : Nat} {M : px_Mem} {Q : px_Po} (h_s0 : px_isW s0) (h1 : px_T 0 16 0 [some (.ref 44), some (.ref s0), none] [] M (fun r M1 => px_T 0 119 30 [some (.ref 0), some (.int x1), d2] (r.toList ++ []) M1 Q)) : px_T 0 119 27 [some (.ref 0), some (.int x1), d2] [.ref s0, .ref 44] M Q := by
  rcases h_s0 with rfl | rfl
  · obtain ⟨n, h⟩ := px_T_cl (k := 119) (pc := 27) (y := 16) (st := [.ref 29, .ref 44]) rfl (h1)
    exact ⟨n + 1, ⟨rfl, h⟩⟩
  · obtain ⟨n, h⟩ := px_T_cl (k := 119) (pc := 27) (y := 16) (st := [.ref 47, .ref 44]) rfl (h1)
    exact ⟨n + 1, ⟨rfl, h⟩⟩
theorem sg_119_30 {x1 : Int32} {d2 : Option Value} {M : px_Mem} {Q : px_Po} (h1 : ((M.1 44 2) ≤ x1) → Q (some (.int (-1))) M) (h2 : (¬ ((M.1 44 2) ≤ x1)) → vp_in x1 15) (h3 : (¬ ((M.1 44 2) ≤ x1)) → Q (some (.int (M.1 46 x1.toNatClampNeg))) M) : px_T 0 119 30 [some (.ref 0), some (.int x1), d2] [] M Q := by
  by_cases c1 : (M.1 44 2) ≤ x1
  · exact ⟨7, ⟨rfl, ⟨rfl, ⟨fun _ => ⟨trivial, h1 c1⟩, fun q => absurd c1 q⟩⟩⟩⟩
  · exact ⟨12, ⟨rfl, ⟨rfl, ⟨fun q => absurd q c1, fun _ => ⟨rfl, ⟨rfl, ⟨Or.inl ⟨0, 15, Or.inl rfl, rfl, (h2 c1)⟩, ⟨trivial, h3 c1⟩⟩⟩⟩⟩⟩⟩⟩
theorem sg_120_0 {x1 : Int32} {M : px_Mem} {Q : px_Po} (h1 : px_T 0 152 0 [some (.ref 0), some (.int x1)] [] M (fun r M1 => px_T 0 120 5 [some (.ref 0), some (.int x1)] (r.toList ++ []) M1 Q)) : px_T 0 120 0 [some (.ref 0), some (.int x1)] [] M Q := by
  obtain ⟨n, h⟩ := px_T_cl (k := 120) (pc := 2) (y := 152) (st := [.int x1, .ref 0]) rfl (h1)
  exact ⟨n + 3, ⟨rfl, h⟩⟩
theorem sg_120_5 {x1 : Int32} {s0 : Int32} {M : px_Mem} {Q : px_Po} (h1 : (s0 = 0) → px_T 0 11 0 [some (.ref 28), some (.int x1)] [] M (fun r M1 => px_T 0 120 23 [some (.ref 0), some (.int x1)] (r.toList ++ [.ref 44]) M1 Q)) (h2 : (¬ (s0 = 0)) → Q (some (.int (-2))) M) : px_T 0 120 5 [some (.ref 0), some (.int x1)] [.int s0] M Q := by
  by_cases c1 : s0 = 0
  · obtain ⟨n, h⟩ := px_T_cl (k := 120) (pc := 20) (y := 11) (st := [.int x1, .ref 28, .ref 44]) rfl (h1 c1)
    exact ⟨n + 7, ⟨fun _ => ⟨rfl, ⟨rfl, ⟨rfl, h⟩⟩⟩, fun q => absurd c1 q⟩⟩
  · exact ⟨3, ⟨fun q => absurd q c1, fun _ => ⟨trivial, h2 c1⟩⟩⟩
theorem sg_120_23 {d1 : Option Value} {s0 : Nat} {M : px_Mem} {Q : px_Po} (h_s0 : px_isW s0) (h1 : px_T 0 16 0 [some (.ref 44), some (.ref s0), none] [] M (fun r M1 => px_T 0 120 26 [some (.ref 0), d1] (r.toList ++ []) M1 Q)) : px_T 0 120 23 [some (.ref 0), d1] [.ref s0, .ref 44] M Q := by
  rcases h_s0 with rfl | rfl
  · obtain ⟨n, h⟩ := px_T_cl (k := 120) (pc := 23) (y := 16) (st := [.ref 29, .ref 44]) rfl (h1)
    exact ⟨n + 1, ⟨rfl, h⟩⟩
  · obtain ⟨n, h⟩ := px_T_cl (k := 120) (pc := 23) (y := 16) (st := [.ref 47, .ref 44]) rfl (h1)
    exact ⟨n + 1, ⟨rfl, h⟩⟩
theorem sg_120_26 {d1 : Option Value} {M : px_Mem} {Q : px_Po} (h1 : px_T 0 17 0 [some (.ref 44), some (.int 4), none, none] [] M (fun r M1 => px_T 0 120 34 [some (.ref 0), d1] (r.toList ++ []) M1 Q)) : px_T 0 120 26 [some (.ref 0), d1] [] M Q := by
  obtain ⟨n, h⟩ := px_T_cl (k := 120) (pc := 31) (y := 17) (st := [.int 4, .ref 44]) rfl (h1)
  exact ⟨n + 4, ⟨rfl, ⟨rfl, h⟩⟩⟩
theorem sg_120_34 {d0 : Option Value} {d1 : Option Value} {s0 : Int32} {M : px_Mem} {Q : px_Po} (h1 : Q (some (.int s0)) M) : px_T 0 120 34 [d0, d1] [.int s0] M Q := by
  exact ⟨1, ⟨trivial, h1⟩⟩
theorem sg_121_0 {M : px_Mem} {Q : px_Po} (h1 : px_T 0 151 0 [some (.ref 0)] [] M (fun r M1 => px_T 0 121 4 [some (.ref 0), none, none] (r.toList ++ []) M1 Q)) : px_T 0 121 0 [some (.ref 0), none, none] [] M Q := by
  obtain ⟨n, h⟩ := px_T_cl (k := 121) (pc := 1) (y := 151) (st := [.ref 0]) rfl (h1)
  exact ⟨n + 2, ⟨rfl, h⟩⟩
theorem sg_121_4 {d1 : Option Value} {d2 : Option Value} {s0 : Int32} {M : px_Mem} {Q : px_Po} (h1 : (s0 = 0) → px_T 0 121 14 [some (.ref 0), some (.int 0), some (.int 0)] [] M Q) (h2 : (¬ (s0 = 0)) → Q (some (.int (-2))) M) : px_T 0 121 4 [some (.ref 0), d1, d2] [.int s0] M Q := by
  by_cases c1 : s0 = 0
  · obtain ⟨n, h⟩ := h1 c1
    exact ⟨n + 5, ⟨fun _ => h, fun q => absurd c1 q⟩⟩
  · exact ⟨3, ⟨fun q => absurd q c1, fun _ => ⟨trivial, h2 c1⟩⟩⟩
theorem sg_121_14 {x1 : Int32} {x2 : Int32} {M : px_Mem} {Q : px_Po} (h1 : px_T 0 53 0 [some (.ref 4)] [] M (fun r M1 => px_T 0 121 22 [some (.ref 0), some (.int x1), some (.int x2)] (r.toList ++ [.int x2]) M1 Q)) : px_T 0 121 14 [some (.ref 0), some (.int x1), some (.int x2)] [] M Q := by
  obtain ⟨n, h⟩ := px_T_cl (k := 121) (pc := 19) (y := 53) (st := [.ref 4, .int x2]) rfl (h1)
  exact ⟨n + 4, ⟨rfl, ⟨rfl, h⟩⟩⟩
theorem sg_121_22 {x1 : Int32} {x2 : Int32} {s0 : Int32} {s1 : Int32} {M : px_Mem} {Q : px_Po} (h1 : (s0 < s1) → Q (some (.int x1)) M) (h2 : (¬ (s0 < s1)) → px_T 0 11 0 [some (.ref 28), some (.int x2)] [] M (fun r M1 => px_T 0 121 37 [some (.ref 0), some (.int x1), some (.int x2)] (r.toList ++ [.ref 44]) M1 Q)) : px_T 0 121 22 [some (.ref 0), some (.int x1), some (.int x2)] [.int s0, .int s1] M Q := by
  by_cases c1 : s0 < s1
  · exact ⟨3, ⟨fun _ => ⟨trivial, h1 c1⟩, fun q => absurd c1 q⟩⟩
  · obtain ⟨n, h⟩ := px_T_cl (k := 121) (pc := 34) (y := 11) (st := [.int x2, .ref 28, .ref 44]) rfl (h2 c1)
    exact ⟨n + 7, ⟨fun q => absurd q c1, fun _ => ⟨rfl, ⟨rfl, ⟨rfl, h⟩⟩⟩⟩⟩
theorem sg_121_37 {x1 : Int32} {x2 : Int32} {s0 : Nat} {M : px_Mem} {Q : px_Po} (h_s0 : px_isW s0) (h1 : px_T 0 16 0 [some (.ref 44), some (.ref s0), none] [] M (fun r M1 => px_T 0 121 40 [some (.ref 0), some (.int x1), some (.int x2)] (r.toList ++ []) M1 Q)) : px_T 0 121 37 [some (.ref 0), some (.int x1), some (.int x2)] [.ref s0, .ref 44] M Q := by
  rcases h_s0 with rfl | rfl
  · obtain ⟨n, h⟩ := px_T_cl (k := 121) (pc := 37) (y := 16) (st := [.ref 29, .ref 44]) rfl (h1)
    exact ⟨n + 1, ⟨rfl, h⟩⟩
  · obtain ⟨n, h⟩ := px_T_cl (k := 121) (pc := 37) (y := 16) (st := [.ref 47, .ref 44]) rfl (h1)
    exact ⟨n + 1, ⟨rfl, h⟩⟩
theorem sg_121_40 {x1 : Int32} {x2 : Int32} {M : px_Mem} {Q : px_Po} (h1 : ((M.1 44 3) = 0) → px_T 0 121 14 [some (.ref 0), some (.int x2), some (.int (x2 + 1))] [] M Q) (h2 : (¬ ((M.1 44 3) = 0)) → px_T 0 121 14 [some (.ref 0), some (.int x1), some (.int (x2 + 1))] [] M Q) : px_T 0 121 40 [some (.ref 0), some (.int x1), some (.int x2)] [] M Q := by
  by_cases c1 : (M.1 44 3) = 0
  · obtain ⟨n, h⟩ := h1 c1
    exact ⟨n + 8, ⟨rfl, ⟨rfl, ⟨fun q => absurd c1 q, fun _ => h⟩⟩⟩⟩
  · obtain ⟨n, h⟩ := h2 c1
    exact ⟨n + 6, ⟨rfl, ⟨rfl, ⟨fun _ => h, fun q => absurd q c1⟩⟩⟩⟩
theorem sg_122_0 {x1 : Int32} {x2 : Int32} {x3 : Int32} {M : px_Mem} {Q : px_Po} (h1 : px_T 0 153 0 [some (.int x1)] [] M (fun r M1 => px_T 0 122 4 [some (.ref 0), some (.int x1), some (.int x2), some (.int x3), none] (r.toList ++ []) M1 Q)) : px_T 0 122 0 [some (.ref 0), some (.int x1), some (.int x2), some (.int x3), none] [] M Q := by
  obtain ⟨n, h⟩ := px_T_cl (k := 122) (pc := 1) (y := 153) (st := [.int x1]) rfl (h1)
  exact ⟨n + 2, h⟩
theorem sg_122_4 {x1 : Int32} {x2 : Int32} {x3 : Int32} {d4 : Option Value} {s0 : Int32} {M : px_Mem} {Q : px_Po} (h1 : (s0 = 0) → px_T 0 152 0 [some (.ref 0), some (.int x2)] [] M (fun r M1 => px_T 0 122 12 [some (.ref 0), some (.int x1), some (.int x2), some (.int x3), d4] (r.toList ++ []) M1 Q)) (h2 : (¬ (s0 = 0)) → Q (some (.int (-2))) M) : px_T 0 122 4 [some (.ref 0), some (.int x1), some (.int x2), some (.int x3), d4] [.int s0] M Q := by
  by_cases c1 : s0 = 0
  · obtain ⟨n, h⟩ := px_T_cl (k := 122) (pc := 9) (y := 152) (st := [.int x2, .ref 0]) rfl (h1 c1)
    exact ⟨n + 4, ⟨fun q => absurd c1 q, fun _ => ⟨rfl, h⟩⟩⟩
  · exact ⟨3, ⟨fun _ => ⟨trivial, h2 c1⟩, fun q => absurd q c1⟩⟩
theorem sg_122_12 {x1 : Int32} {x2 : Int32} {x3 : Int32} {d4 : Option Value} {s0 : Int32} {M : px_Mem} {Q : px_Po} (h1 : (s0 = 0) → px_T 0 152 0 [some (.ref 0), some (.int x3)] [] M (fun r M1 => px_T 0 122 20 [some (.ref 0), some (.int x1), some (.int x2), some (.int x3), d4] (r.toList ++ []) M1 Q)) (h2 : (¬ (s0 = 0)) → Q (some (.int (-2))) M) : px_T 0 122 12 [some (.ref 0), some (.int x1), some (.int x2), some (.int x3), d4] [.int s0] M Q := by
  by_cases c1 : s0 = 0
  · obtain ⟨n, h⟩ := px_T_cl (k := 122) (pc := 17) (y := 152) (st := [.int x3, .ref 0]) rfl (h1 c1)
    exact ⟨n + 4, ⟨fun q => absurd c1 q, fun _ => ⟨rfl, h⟩⟩⟩
  · exact ⟨3, ⟨fun _ => ⟨trivial, h2 c1⟩, fun q => absurd q c1⟩⟩
theorem sg_122_20 {x1 : Int32} {x2 : Int32} {x3 : Int32} {d4 : Option Value} {s0 : Int32} {M : px_Mem} {Q : px_Po} (h1 : (s0 = 0) → (x2 ≤ x3) → px_T 0 11 0 [some (.ref 28), some (.int x2)] [] M (fun r M1 => px_T 0 122 39 [some (.ref 0), some (.int x1), some (.int x2), some (.int x3), d4] (r.toList ++ []) M1 Q)) (h2 : (s0 = 0) → (¬ (x2 ≤ x3)) → Q (some (.int (-2))) M) (h3 : (¬ (s0 = 0)) → Q (some (.int (-2))) M) : px_T 0 122 20 [some (.ref 0), some (.int x1), some (.int x2), some (.int x3), d4] [.int s0] M Q := by
  by_cases c1 : s0 = 0
  · by_cases c2 : x2 ≤ x3
    · obtain ⟨n, h⟩ := px_T_cl (k := 122) (pc := 36) (y := 11) (st := [.int x2, .ref 28]) rfl (h1 c1 c2)
      exact ⟨n + 8, ⟨fun q => absurd c1 q, fun _ => ⟨fun _ => ⟨rfl, ⟨rfl, h⟩⟩, fun q => absurd c2 q⟩⟩⟩
    · exact ⟨6, ⟨fun q => absurd c1 q, fun _ => ⟨fun q => absurd q c2, fun _ => ⟨trivial, h2 c1 c2⟩⟩⟩⟩
  · exact ⟨3, ⟨fun _ => ⟨trivial, h3 c1⟩, fun q => absurd q c1⟩⟩
theorem sg_122_39 {x1 : Int32} {d2 : Option Value} {x3 : Int32} {d4 : Option Value} {s0 : Nat} {M : px_Mem} {Q : px_Po} (h_s0 : px_isW s0) (h1 : px_T 0 62 0 [some (.ref s0)] [] M (fun r M1 => px_T 0 122 42 [some (.ref 0), some (.int x1), d2, some (.int x3), d4] (r.toList ++ []) M1 Q)) : px_T 0 122 39 [some (.ref 0), some (.int x1), d2, some (.int x3), d4] [.ref s0] M Q := by
  rcases h_s0 with rfl | rfl
  · obtain ⟨n, h⟩ := px_T_cl (k := 122) (pc := 39) (y := 62) (st := [.ref 29]) rfl (h1)
    exact ⟨n + 1, ⟨rfl, h⟩⟩
  · obtain ⟨n, h⟩ := px_T_cl (k := 122) (pc := 39) (y := 62) (st := [.ref 47]) rfl (h1)
    exact ⟨n + 1, ⟨rfl, h⟩⟩
theorem sg_122_42 {x1 : Int32} {d2 : Option Value} {x3 : Int32} {d4 : Option Value} {M : px_Mem} {Q : px_Po} (h1 : px_T 0 11 0 [some (.ref 28), some (.int x3)] [] M (fun r M1 => px_T 0 122 50 [some (.ref 0), some (.int x1), d2, some (.int x3), d4] (r.toList ++ []) M1 Q)) : px_T 0 122 42 [some (.ref 0), some (.int x1), d2, some (.int x3), d4] [] M Q := by
  obtain ⟨n, h⟩ := px_T_cl (k := 122) (pc := 47) (y := 11) (st := [.int x3, .ref 28]) rfl (h1)
  exact ⟨n + 4, ⟨rfl, ⟨rfl, h⟩⟩⟩
theorem sg_122_50 {d0 : Option Value} {x1 : Int32} {d2 : Option Value} {d3 : Option Value} {d4 : Option Value} {s0 : Nat} {M : px_Mem} {Q : px_Po} (h_s0 : px_isW s0) (h1 : px_T 0 63 0 [some (.ref s0), some (.int x1)] [] M (fun r M1 => px_T 0 122 58 [d0, some (.int x1), d2, d3, some (.ref s0)] (r.toList ++ []) M1 Q)) : px_T 0 122 50 [d0, some (.int x1), d2, d3, d4] [.ref s0] M Q := by
  rcases h_s0 with rfl | rfl
  · obtain ⟨n, h⟩ := px_T_cl (k := 122) (pc := 55) (y := 63) (st := [.int x1, .ref 29]) rfl (h1)
    exact ⟨n + 4, ⟨rfl, h⟩⟩
  · obtain ⟨n, h⟩ := px_T_cl (k := 122) (pc := 55) (y := 63) (st := [.int x1, .ref 47]) rfl (h1)
    exact ⟨n + 4, ⟨rfl, h⟩⟩
theorem sg_122_58 {d0 : Option Value} {x1 : Int32} {d2 : Option Value} {d3 : Option Value} {x4 : Nat} {s0 : Int32} {M : px_Mem} {Q : px_Po} (h_x4 : px_isW x4) (h1 : (s0 = 0) → Q (some (.int 0)) M) (h2 : (¬ (s0 = 0)) → vp_in x1 16) (h3 : (¬ (s0 = 0)) → Q (some (.int (M.1 (x4 + 3) x1.toNatClampNeg))) M) : px_T 0 122 58 [d0, some (.int x1), d2, d3, some (.ref x4)] [.int s0] M Q := by
  rcases h_x4 with rfl | rfl
  · by_cases c1 : s0 = 0
    · exact ⟨3, ⟨fun _ => ⟨trivial, h1 c1⟩, fun q => absurd c1 q⟩⟩
    · exact ⟨7, ⟨fun q => absurd q c1, fun _ => ⟨rfl, ⟨Or.inl ⟨0, 16, Or.inl rfl, rfl, (h2 c1)⟩, ⟨trivial, h3 c1⟩⟩⟩⟩⟩
  · by_cases c1 : s0 = 0
    · exact ⟨3, ⟨fun _ => ⟨trivial, h1 c1⟩, fun q => absurd c1 q⟩⟩
    · exact ⟨7, ⟨fun q => absurd q c1, fun _ => ⟨rfl, ⟨Or.inl ⟨0, 16, Or.inl rfl, rfl, (h2 c1)⟩, ⟨trivial, h3 c1⟩⟩⟩⟩⟩
theorem sg_123_0 {x1 : Int32} {x2 : Int32} {x3 : Int32} {x4 : Int32} {M : px_Mem} {Q : px_Po} (h1 : px_T 0 159 0 [some (.ref 0), some (.int x1), some (.int x2), some (.int x3)] [] M (fun r M1 => px_T 0 123 7 [some (.ref 0), some (.int x1), some (.int x2), some (.int x3), some (.int x4)] (r.toList ++ []) M1 Q)) : px_T 0 123 0 [some (.ref 0), some (.int x1), some (.int x2), some (.int x3), some (.int x4)] [] M Q := by
  obtain ⟨n, h⟩ := px_T_cl (k := 123) (pc := 4) (y := 159) (st := [.int x3, .int x2, .int x1, .ref 0]) rfl (h1)
  exact ⟨n + 5, ⟨rfl, h⟩⟩
theorem sg_123_7 {x1 : Int32} {x2 : Int32} {x3 : Int32} {x4 : Int32} {s0 : Int32} {M : px_Mem} {Q : px_Po} (h1 : (s0 = 0) → ((0 : Int32) ≤ x4) → px_T 0 14 0 [some (.ref 28), some (.int x1), some (.int x2), some (.int x3), some (.int x4), none, none] [] M (fun r M1 => px_T 0 123 30 [some (.ref 0), some (.int x1), some (.int x2), some (.int x3), some (.int x4)] (r.toList ++ []) M1 Q)) (h2 : (s0 = 0) → (¬ ((0 : Int32) ≤ x4)) → Q (some (.int (-2))) M) (h3 : (¬ (s0 = 0)) → Q (some (.int (-2))) M) : px_T 0 123 7 [some (.ref 0), some (.int x1), some (.int x2), some (.int x3), some (.int x4)] [.int s0] M Q := by
  by_cases c1 : s0 = 0
  · by_cases c2 : (0 : Int32) ≤ x4
    · obtain ⟨n, h⟩ := px_T_cl (k := 123) (pc := 27) (y := 14) (st := [.int x4, .int x3, .int x2, .int x1, .ref 28]) rfl (h1 c1 c2)
      exact ⟨n + 10, ⟨fun q => absurd c1 q, fun _ => ⟨fun _ => ⟨rfl, ⟨rfl, h⟩⟩, fun q => absurd c2 q⟩⟩⟩
    · exact ⟨5, ⟨fun q => absurd c1 q, fun _ => ⟨fun q => absurd q c2, fun _ => ⟨trivial, h2 c1 c2⟩⟩⟩⟩
  · exact ⟨3, ⟨fun _ => ⟨trivial, h3 c1⟩, fun q => absurd q c1⟩⟩
theorem sg_123_30 {d1 : Option Value} {d2 : Option Value} {d3 : Option Value} {d4 : Option Value} {M : px_Mem} {Q : px_Po} (h1 : Q (some (.int (M.1 28 4))) M) : px_T 0 123 30 [some (.ref 0), d1, d2, d3, d4] [] M Q := by
  exact ⟨4, ⟨rfl, ⟨rfl, ⟨trivial, h1⟩⟩⟩⟩
theorem sg_124_0 {x1 : Int32} {x2 : Int32} {x3 : Int32} {M : px_Mem} {Q : px_Po} (h1 : px_T 0 159 0 [some (.ref 0), some (.int x1), some (.int x2), some (.int x3)] [] M (fun r M1 => px_T 0 124 7 [some (.ref 0), some (.int x1), some (.int x2), some (.int x3)] (r.toList ++ []) M1 Q)) : px_T 0 124 0 [some (.ref 0), some (.int x1), some (.int x2), some (.int x3)] [] M Q := by
  obtain ⟨n, h⟩ := px_T_cl (k := 124) (pc := 4) (y := 159) (st := [.int x3, .int x2, .int x1, .ref 0]) rfl (h1)
  exact ⟨n + 5, ⟨rfl, h⟩⟩
theorem sg_124_7 {x1 : Int32} {x2 : Int32} {x3 : Int32} {s0 : Int32} {M : px_Mem} {Q : px_Po} (h1 : (s0 = 0) → px_T 0 14 0 [some (.ref 28), some (.int x1), some (.int x2), some (.int x3), some (.int 0), none, none] [] M (fun r M1 => px_T 0 124 24 [some (.ref 0), some (.int x1), some (.int x2), some (.int x3)] (r.toList ++ []) M1 Q)) (h2 : (¬ (s0 = 0)) → Q (some (.int (-2))) M) : px_T 0 124 7 [some (.ref 0), some (.int x1), some (.int x2), some (.int x3)] [.int s0] M Q := by
  by_cases c1 : s0 = 0
  · obtain ⟨n, h⟩ := px_T_cl (k := 124) (pc := 21) (y := 14) (st := [.int 0, .int x3, .int x2, .int x1, .ref 28]) rfl (h1 c1)
    exact ⟨n + 8, ⟨fun _ => ⟨rfl, ⟨rfl, h⟩⟩, fun q => absurd c1 q⟩⟩
  · exact ⟨3, ⟨fun q => absurd q c1, fun _ => ⟨trivial, h2 c1⟩⟩⟩
theorem sg_124_24 {d1 : Option Value} {d2 : Option Value} {d3 : Option Value} {M : px_Mem} {Q : px_Po} (h1 : Q (some (.int (M.1 28 5))) M) : px_T 0 124 24 [some (.ref 0), d1, d2, d3] [] M Q := by
  exact ⟨4, ⟨rfl, ⟨rfl, ⟨trivial, h1⟩⟩⟩⟩
theorem sg_125_0 {x1 : Int32} {x2 : Int32} {M : px_Mem} {Q : px_Po} (h1 : px_T 0 159 0 [some (.ref 0), some (.int x1), some (.int 1), some (.int x2)] [] M (fun r M1 => px_T 0 125 7 [some (.ref 0), some (.int x1), some (.int x2), none, none, none, none, none] (r.toList ++ []) M1 Q)) : px_T 0 125 0 [some (.ref 0), some (.int x1), some (.int x2), none, none, none, none, none] [] M Q := by
  obtain ⟨n, h⟩ := px_T_cl (k := 125) (pc := 4) (y := 159) (st := [.int x2, .int 1, .int x1, .ref 0]) rfl (h1)
  exact ⟨n + 5, ⟨rfl, h⟩⟩
theorem sg_125_7 {x1 : Int32} {x2 : Int32} {d3 : Option Value} {d4 : Option Value} {d5 : Option Value} {d6 : Option Value} {d7 : Option Value} {s0 : Int32} {M : px_Mem} {Q : px_Po} (h1 : (s0 = 0) → px_T 0 125 24 [some (.ref 0), some (.int x1), some (.int x2), some (.int 0), some (.int 0), some (.int 0), some (.int 1), d7] [] M Q) (h2 : (¬ (s0 = 0)) → Q (some (.int (-2))) M) : px_T 0 125 7 [some (.ref 0), some (.int x1), some (.int x2), d3, d4, d5, d6, d7] [.int s0] M Q := by
  by_cases c1 : s0 = 0
  · obtain ⟨n, h⟩ := h1 c1
    exact ⟨n + 9, ⟨fun _ => h, fun q => absurd c1 q⟩⟩
  · exact ⟨3, ⟨fun q => absurd q c1, fun _ => ⟨trivial, h2 c1⟩⟩⟩
theorem sg_125_24 {x1 : Int32} {x2 : Int32} {x3 : Int32} {x4 : Int32} {x5 : Int32} {x6 : Int32} {d7 : Option Value} {M : px_Mem} {Q : px_Po} (h1 : ((40 : Int32) < x6) → Q (some (.int x3)) M) (h2 : (¬ ((40 : Int32) < x6)) → px_T 0 14 0 [some (.ref 28), some (.int x1), some (.int x6), some (.int x2), some (.int 0), none, none] [] M (fun r M1 => px_T 0 125 43 [some (.ref 0), some (.int x1), some (.int x2), some (.int x3), some (.int x4), some (.int x5), some (.int x6), d7] (r.toList ++ []) M1 Q)) : px_T 0 125 24 [some (.ref 0), some (.int x1), some (.int x2), some (.int x3), some (.int x4), some (.int x5), some (.int x6), d7] [] M Q := by
  by_cases c1 : (40 : Int32) < x6
  · exact ⟨5, ⟨fun _ => ⟨trivial, h1 c1⟩, fun q => absurd c1 q⟩⟩
  · obtain ⟨n, h⟩ := px_T_cl (k := 125) (pc := 40) (y := 14) (st := [.int 0, .int x2, .int x6, .int x1, .ref 28]) rfl (h2 c1)
    exact ⟨n + 10, ⟨fun q => absurd q c1, fun _ => ⟨rfl, ⟨rfl, h⟩⟩⟩⟩
theorem sg_125_43 {x1 : Int32} {x2 : Int32} {x3 : Int32} {x4 : Int32} {x5 : Int32} {x6 : Int32} {d7 : Option Value} {M : px_Mem} {Q : px_Po} (h1 : ((M.1 28 6) < x4) → (x3 = 0) → px_T 0 125 24 [some (.ref 0), some (.int x1), some (.int x2), some (.int x6), some (.int (M.1 28 6)), some (.int (M.1 28 5)), some (.int (x6 + 1)), some (.int 1)] [] M Q) (h2 : ((M.1 28 6) < x4) → (¬ (x3 = 0)) → px_T 0 125 24 [some (.ref 0), some (.int x1), some (.int x2), some (.int x6), some (.int (M.1 28 6)), some (.int (M.1 28 5)), some (.int (x6 + 1)), some (.int 1)] [] M Q) (h3 : (¬ ((M.1 28 6) < x4)) → ((M.1 28 6) = x4) → (x5 < (M.1 28 5)) → (x3 = 0) → px_T 0 125 24 [some (.ref 0), some (.int x1), some (.int x2), some (.int x6), some (.int (M.1 28 6)), some (.int (M.1 28 5)), some (.int (x6 + 1)), some (.int 0)] [] M Q) (h4 : (¬ ((M.1 28 6) < x4)) → ((M.1 28 6) = x4) → (x5 < (M.1 28 5)) → (¬ (x3 = 0)) → px_T 0 125 24 [some (.ref 0), some (.int x1), some (.int x2), some (.int x3), some (.int x4), some (.int x5), some (.int (x6 + 1)), some (.int 0)] [] M Q) (h5 : (¬ ((M.1 28 6) < x4)) → ((M.1 28 6) = x4) → (¬ (x5 < (M.1 28 5))) → (x3 = 0) → px_T 0 125 24 [some (.ref 0), some (.int x1), some (.int x2), some (.int x6), some (.int (M.1 28 6)), some (.int (M.1 28 5)), some (.int (x6 + 1)), some (.int 1)] [] M Q) (h6 : (¬ ((M.1 28 6) < x4)) → ((M.1 28 6) = x4) → (¬ (x5 < (M.1 28 5))) → (¬ (x3 = 0)) → px_T 0 125 24 [some (.ref 0), some (.int x1), some (.int x2), some (.int x6), some (.int (M.1 28 6)), some (.int (M.1 28 5)), some (.int (x6 + 1)), some (.int 1)] [] M Q) (h7 : (¬ ((M.1 28 6) < x4)) → (¬ ((M.1 28 6) = x4)) → (x3 = 0) → px_T 0 125 24 [some (.ref 0), some (.int x1), some (.int x2), some (.int x6), some (.int (M.1 28 6)), some (.int (M.1 28 5)), some (.int (x6 + 1)), some (.int 0)] [] M Q) (h8 : (¬ ((M.1 28 6) < x4)) → (¬ ((M.1 28 6) = x4)) → (¬ (x3 = 0)) → px_T 0 125 24 [some (.ref 0), some (.int x1), some (.int x2), some (.int x3), some (.int x4), some (.int x5), some (.int (x6 + 1)), some (.int 0)] [] M Q) : px_T 0 125 43 [some (.ref 0), some (.int x1), some (.int x2), some (.int x3), some (.int x4), some (.int x5), some (.int x6), d7] [] M Q := by
  by_cases c1 : (M.1 28 6) < x4
  · by_cases c2 : x3 = 0
    · obtain ⟨n, h⟩ := h1 c1 c2
      exact ⟨n + 22, ⟨rfl, ⟨rfl, ⟨fun _ => ⟨fun _ => ⟨rfl, ⟨rfl, ⟨rfl, ⟨rfl, h⟩⟩⟩⟩, fun q => absurd c2 q⟩, fun q => absurd c1 q⟩⟩⟩⟩
    · obtain ⟨n, h⟩ := h2 c1 c2
      exact ⟨n + 24, ⟨rfl, ⟨rfl, ⟨fun _ => ⟨fun q => absurd q c2, fun _ => ⟨fun q => absurd q (by decide), fun _ => ⟨rfl, ⟨rfl, ⟨rfl, ⟨rfl, h⟩⟩⟩⟩⟩⟩, fun q => absurd c1 q⟩⟩⟩⟩
  · by_cases c3 : (M.1 28 6) = x4
    · by_cases c4 : x5 < (M.1 28 5)
      · by_cases c5 : x3 = 0
        · obtain ⟨n, h⟩ := h3 c1 c3 c4 c5
          exact ⟨n + 31, ⟨rfl, ⟨rfl, ⟨fun q => absurd q c1, fun _ => ⟨rfl, ⟨rfl, ⟨fun q => absurd c3 q, fun _ => ⟨rfl, ⟨rfl, ⟨fun _ => ⟨fun _ => ⟨rfl, ⟨rfl, ⟨rfl, ⟨rfl, h⟩⟩⟩⟩, fun q => absurd c5 q⟩, fun q => absurd c4 q⟩⟩⟩⟩⟩⟩⟩⟩⟩⟩
        · obtain ⟨n, h⟩ := h4 c1 c3 c4 c5
          exact ⟨n + 23, ⟨rfl, ⟨rfl, ⟨fun q => absurd q c1, fun _ => ⟨rfl, ⟨rfl, ⟨fun q => absurd c3 q, fun _ => ⟨rfl, ⟨rfl, ⟨fun _ => ⟨fun q => absurd q c5, fun _ => ⟨fun _ => h, fun q => absurd (by decide) q⟩⟩, fun q => absurd c4 q⟩⟩⟩⟩⟩⟩⟩⟩⟩⟩
      · by_cases c6 : x3 = 0
        · obtain ⟨n, h⟩ := h5 c1 c3 c4 c6
          exact ⟨n + 32, ⟨rfl, ⟨rfl, ⟨fun q => absurd q c1, fun _ => ⟨rfl, ⟨rfl, ⟨fun q => absurd c3 q, fun _ => ⟨rfl, ⟨rfl, ⟨fun q => absurd q c4, fun _ => ⟨fun _ => ⟨rfl, ⟨rfl, ⟨rfl, ⟨rfl, h⟩⟩⟩⟩, fun q => absurd c6 q⟩⟩⟩⟩⟩⟩⟩⟩⟩⟩⟩
        · obtain ⟨n, h⟩ := h6 c1 c3 c4 c6
          exact ⟨n + 34, ⟨rfl, ⟨rfl, ⟨fun q => absurd q c1, fun _ => ⟨rfl, ⟨rfl, ⟨fun q => absurd c3 q, fun _ => ⟨rfl, ⟨rfl, ⟨fun q => absurd q c4, fun _ => ⟨fun q => absurd q c6, fun _ => ⟨fun q => absurd q (by decide), fun _ => ⟨rfl, ⟨rfl, ⟨rfl, ⟨rfl, h⟩⟩⟩⟩⟩⟩⟩⟩⟩⟩⟩⟩⟩⟩⟩⟩
    · by_cases c7 : x3 = 0
      · obtain ⟨n, h⟩ := h7 c1 c3 c7
        exact ⟨n + 26, ⟨rfl, ⟨rfl, ⟨fun q => absurd q c1, fun _ => ⟨rfl, ⟨rfl, ⟨fun _ => ⟨fun _ => ⟨rfl, ⟨rfl, ⟨rfl, ⟨rfl, h⟩⟩⟩⟩, fun q => absurd c7 q⟩, fun q => absurd q c3⟩⟩⟩⟩⟩⟩⟩
      · obtain ⟨n, h⟩ := h8 c1 c3 c7
        exact ⟨n + 18, ⟨rfl, ⟨rfl, ⟨fun q => absurd q c1, fun _ => ⟨rfl, ⟨rfl, ⟨fun _ => ⟨fun q => absurd q c7, fun _ => ⟨fun _ => h, fun q => absurd (by decide) q⟩⟩, fun q => absurd q c3⟩⟩⟩⟩⟩⟩⟩
theorem sg_126_0 {M : px_Mem} {Q : px_Po} (h1 : px_T 0 151 0 [some (.ref 0)] [] M (fun r M1 => px_T 0 126 4 [some (.ref 0), none, none, none, none] (r.toList ++ []) M1 Q)) : px_T 0 126 0 [some (.ref 0), none, none, none, none] [] M Q := by
  obtain ⟨n, h⟩ := px_T_cl (k := 126) (pc := 1) (y := 151) (st := [.ref 0]) rfl (h1)
  exact ⟨n + 2, ⟨rfl, h⟩⟩
theorem sg_126_4 {d1 : Option Value} {d2 : Option Value} {d3 : Option Value} {d4 : Option Value} {s0 : Int32} {M : px_Mem} {Q : px_Po} (h1 : (s0 = 0) → px_T 0 53 0 [some (.ref 4)] [] M (fun r M1 => px_T 0 126 21 [some (.ref 0), d1, d2, d3, d4] (r.toList ++ [.ref 28]) M1 Q)) (h2 : (¬ (s0 = 0)) → Q (some (.int (-2))) M) : px_T 0 126 4 [some (.ref 0), d1, d2, d3, d4] [.int s0] M Q := by
  by_cases c1 : s0 = 0
  · obtain ⟨n, h⟩ := px_T_cl (k := 126) (pc := 18) (y := 53) (st := [.ref 4, .ref 28]) rfl (h1 c1)
    exact ⟨n + 6, ⟨fun _ => ⟨rfl, ⟨rfl, ⟨rfl, h⟩⟩⟩, fun q => absurd c1 q⟩⟩
  · exact ⟨3, ⟨fun q => absurd q c1, fun _ => ⟨trivial, h2 c1⟩⟩⟩
theorem sg_126_21 {d1 : Option Value} {d2 : Option Value} {d3 : Option Value} {d4 : Option Value} {s0 : Int32} {M : px_Mem} {Q : px_Po} (h1 : px_T 0 11 0 [some (.ref 28), some (.int s0)] [] M (fun r M1 => px_T 0 126 24 [some (.ref 0), d1, d2, d3, d4] (r.toList ++ []) M1 Q)) : px_T 0 126 21 [some (.ref 0), d1, d2, d3, d4] [.int s0, .ref 28] M Q := by
  obtain ⟨n, h⟩ := px_T_cl (k := 126) (pc := 21) (y := 11) (st := [.int s0, .ref 28]) rfl (h1)
  exact ⟨n + 1, ⟨rfl, h⟩⟩
theorem sg_126_24 {d1 : Option Value} {d2 : Option Value} {d3 : Option Value} {d4 : Option Value} {s0 : Nat} {M : px_Mem} {Q : px_Po} (h_s0 : px_isW s0) (h1 : px_T 0 332 0 [some (.int (M.1 s0 0))] [] M (fun r M1 => px_T 0 126 30 [some (.ref 0), d1, d2, d3, d4] (r.toList ++ []) M1 Q)) : px_T 0 126 24 [some (.ref 0), d1, d2, d3, d4] [.ref s0] M Q := by
  rcases h_s0 with rfl | rfl
  · obtain ⟨n, h⟩ := px_T_cl (k := 126) (pc := 27) (y := 332) (st := [.int (M.1 29 0)]) rfl (h1)
    exact ⟨n + 2, ⟨rfl, h⟩⟩
  · obtain ⟨n, h⟩ := px_T_cl (k := 126) (pc := 27) (y := 332) (st := [.int (M.1 47 0)]) rfl (h1)
    exact ⟨n + 2, ⟨rfl, h⟩⟩
theorem sg_126_30 {d1 : Option Value} {d2 : Option Value} {d3 : Option Value} {d4 : Option Value} {s0 : Int32} {M : px_Mem} {Q : px_Po} (h1 : px_T 0 126 35 [some (.ref 0), some (.int s0), some (.int (-1)), some (.int 0), d4] [] M Q) : px_T 0 126 30 [some (.ref 0), d1, d2, d3, d4] [.int s0] M Q := by
  obtain ⟨n, h⟩ := h1
  exact ⟨n + 5, h⟩
theorem sg_126_35 {x1 : Int32} {x2 : Int32} {x3 : Int32} {d4 : Option Value} {M : px_Mem} {Q : px_Po} (h1 : ((M.1 4 4) ≤ x3) → Q (some (.int x2)) M) (h2 : (¬ ((M.1 4 4) ≤ x3)) → px_T 0 165 0 [some (.ref 0), some (.int x3), some (.int (M.1 4 2)), none, none] [] M (fun r M1 => px_T 0 126 58 [some (.ref 0), some (.int x1), some (.int x2), some (.int x3), d4] (r.toList ++ []) M1 Q)) : px_T 0 126 35 [some (.ref 0), some (.int x1), some (.int x2), some (.int x3), d4] [] M Q := by
  by_cases c1 : (M.1 4 4) ≤ x3
  · exact ⟨7, ⟨rfl, ⟨rfl, ⟨fun _ => ⟨trivial, h1 c1⟩, fun q => absurd c1 q⟩⟩⟩⟩
  · obtain ⟨n, h⟩ := px_T_cl (k := 126) (pc := 55) (y := 165) (st := [.int (M.1 4 2), .int x3, .ref 0]) rfl (h2 c1)
    exact ⟨n + 11, ⟨rfl, ⟨rfl, ⟨fun q => absurd q c1, fun _ => ⟨rfl, ⟨rfl, ⟨rfl, h⟩⟩⟩⟩⟩⟩⟩
theorem sg_126_58 {x1 : Int32} {x2 : Int32} {x3 : Int32} {d4 : Option Value} {s0 : Int32} {M : px_Mem} {Q : px_Po} (h1 : px_T 0 332 0 [some (.int (M.1 47 0))] [] M (fun r M1 => px_T 0 126 69 [some (.ref 0), some (.int x1), some (.int x2), some (.int x3), d4] (r.toList ++ []) M1 Q)) : px_T 0 126 58 [some (.ref 0), some (.int x1), some (.int x2), some (.int x3), d4] [.int s0] M Q := by
  obtain ⟨n, h⟩ := px_T_cl (k := 126) (pc := 66) (y := 332) (st := [.int (M.1 47 0)]) rfl (h1)
  exact ⟨n + 5, ⟨rfl, ⟨rfl, h⟩⟩⟩
theorem sg_126_69 {x1 : Int32} {x2 : Int32} {x3 : Int32} {d4 : Option Value} {s0 : Int32} {M : px_Mem} {Q : px_Po} (h1 : (s0 ≤ x1) → px_T 0 126 35 [some (.ref 0), some (.int x1), some (.int x2), some (.int (x3 + 1)), some (.int s0)] [] M Q) (h2 : (¬ (s0 ≤ x1)) → px_T 0 126 35 [some (.ref 0), some (.int s0), some (.int x3), some (.int (x3 + 1)), some (.int s0)] [] M Q) : px_T 0 126 69 [some (.ref 0), some (.int x1), some (.int x2), some (.int x3), d4] [.int s0] M Q := by
  by_cases c1 : s0 ≤ x1
  · obtain ⟨n, h⟩ := h1 c1
    exact ⟨n + 6, ⟨fun _ => h, fun q => absurd c1 q⟩⟩
  · obtain ⟨n, h⟩ := h2 c1
    exact ⟨n + 10, ⟨fun q => absurd q c1, fun _ => h⟩⟩
theorem sg_127_0 {M : px_Mem} {Q : px_Po} (h1 : px_T 0 151 0 [some (.ref 0)] [] M (fun r M1 => px_T 0 127 4 [some (.ref 0), none, none, none, none, none, none] (r.toList ++ []) M1 Q)) : px_T 0 127 0 [some (.ref 0), none, none, none, none, none, none] [] M Q := by
  obtain ⟨n, h⟩ := px_T_cl (k := 127) (pc := 1) (y := 151) (st := [.ref 0]) rfl (h1)
  exact ⟨n + 2, ⟨rfl, h⟩⟩
theorem sg_127_4 {d1 : Option Value} {d2 : Option Value} {d3 : Option Value} {d4 : Option Value} {d5 : Option Value} {d6 : Option Value} {s0 : Int32} {M : px_Mem} {Q : px_Po} (h1 : (s0 = 0) → px_T 0 53 0 [some (.ref 4)] [] M (fun r M1 => px_T 0 127 21 [some (.ref 0), d1, d2, d3, d4, d5, d6] (r.toList ++ [.ref 28]) M1 Q)) (h2 : (¬ (s0 = 0)) → Q (some (.int (-2))) M) : px_T 0 127 4 [some (.ref 0), d1, d2, d3, d4, d5, d6] [.int s0] M Q := by
  by_cases c1 : s0 = 0
  · obtain ⟨n, h⟩ := px_T_cl (k := 127) (pc := 18) (y := 53) (st := [.ref 4, .ref 28]) rfl (h1 c1)
    exact ⟨n + 6, ⟨fun _ => ⟨rfl, ⟨rfl, ⟨rfl, h⟩⟩⟩, fun q => absurd c1 q⟩⟩
  · exact ⟨3, ⟨fun q => absurd q c1, fun _ => ⟨trivial, h2 c1⟩⟩⟩
