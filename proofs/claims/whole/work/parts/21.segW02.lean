theorem sg_333_0 {x0 : Nat} {npx_rfx00 : Nat} {M : px_Mem} {Q : px_Po} (h1 : px_sh 0 x0 = some (.inl 12)) (h2 : px_sh 0 (px_rf x0 0) = some (.inr (2, npx_rfx00))) (h3 : px_T 0 335 0 [some (.ref x0)] [] M (fun r M1 => px_T 0 333 9 [some (.ref x0)] (r.toList ++ [.int (Int32.ofNat npx_rfx00)]) M1 Q)) : px_T 0 333 0 [some (.ref x0)] [] M Q := by
  obtain ⟨n, h⟩ := px_T_cl (k := 333) (pc := 6) (y := 335) (st := [.ref x0, .int (Int32.ofNat npx_rfx00)]) rfl (h3)
  exact ⟨n + 5, ⟨h1, (Or.inl ⟨2, npx_rfx00, h2, (by decide), ⟨h1, h⟩⟩)⟩⟩
theorem sg_333_9 {d0 : Option Value} {s0 : Int32} {s1 : Int32} {M : px_Mem} {Q : px_Po} (h1 : Q (some (.int (s1 >>> (s0 &&& 31)))) M) : px_T 0 333 9 [d0] [.int s0, .int s1] M Q := by
  exact ⟨2, ⟨trivial, h1⟩⟩
theorem sg_334_0 {x0 : Nat} {x1 : Int32} {M : px_Mem} {Q : px_Po} (h1 : px_T 0 336 0 [some (.ref x0)] [] M (fun r M1 => px_T 0 334 4 [some (.ref x0), some (.int x1)] (r.toList ++ []) M1 Q)) (h2 : px_sh 0 x0 = some (.inl 12)) : px_T 0 334 0 [some (.ref x0), some (.int x1)] [] M Q := by
  obtain ⟨n, h⟩ := px_T_cl (k := 334) (pc := 1) (y := 336) (st := [.ref x0]) rfl (h1)
  exact ⟨n + 2, ⟨h2, h⟩⟩
theorem sg_334_4 {x0 : Nat} {x1 : Int32} {s0 : Int32} {M : px_Mem} {Q : px_Po} (h1 : (s0 = 0) → px_sh 0 x0 = some (.inl 12)) (h2 : (s0 = 0) → False) (h3 : (¬ (s0 = 0)) → px_sh 0 x0 = some (.inl 12)) (h4 : (¬ (s0 = 0)) → px_T 0 338 0 [some (.ref (px_rf x0 0)), some (.int x1)] [] M (fun r M1 => px_T 0 334 15 [some (.ref x0), some (.int x1)] (r.toList ++ []) M1 Q)) : px_T 0 334 4 [some (.ref x0), some (.int x1)] [.int s0] M Q := by
  by_cases c1 : s0 = 0
  · exact (h2 c1).elim
  · obtain ⟨n, h⟩ := px_T_cl (k := 334) (pc := 12) (y := 338) (st := [.int x1, .ref (px_rf x0 0)]) rfl (h4 c1)
    exact ⟨n + 5, ⟨fun q => absurd q c1, fun _ => ⟨(h3 c1), h⟩⟩⟩
theorem sg_334_15 {d0 : Option Value} {d1 : Option Value} {s0 : Int32} {M : px_Mem} {Q : px_Po} (h1 : narrow .char (.int s0) = .int s0) (h2 : Q (some (.int s0)) M) : px_T 0 334 15 [d0, d1] [.int s0] M Q := by
  exact ⟨1, ⟨h1, h2⟩⟩
theorem sg_335_0 {x0 : Nat} {M : px_Mem} {Q : px_Po} (h1 : px_sh 0 x0 = some (.inl 12)) (h2 : narrow .byte (.int (M.1 x0 1)) = .int (M.1 x0 1)) (h3 : Q (some (.int (M.1 x0 1))) M) : px_T 0 335 0 [some (.ref x0)] [] M Q := by
  exact ⟨6, ⟨rfl, ⟨fun q => absurd q (by decide), fun _ => ⟨h1, ⟨h2, h3⟩⟩⟩⟩⟩
theorem sg_336_0 {x0 : Nat} {M : px_Mem} {Q : px_Po} (h1 : px_sh 0 x0 = some (.inl 12)) (h2 : ((M.1 x0 1) = 0) → Q (some (.int 1)) M) (h3 : (¬ ((M.1 x0 1) = 0)) → Q (some (.int 0)) M) : px_T 0 336 0 [some (.ref x0)] [] M Q := by
  by_cases c1 : (M.1 x0 1) = 0
  · exact ⟨8, ⟨rfl, ⟨fun q => absurd q (by decide), fun _ => ⟨h1, ⟨fun q => absurd c1 q, fun _ => ⟨Or.inr rfl, h2 c1⟩⟩⟩⟩⟩⟩
  · exact ⟨7, ⟨rfl, ⟨fun q => absurd q (by decide), fun _ => ⟨h1, ⟨fun _ => ⟨Or.inl rfl, h3 c1⟩, fun q => absurd q c1⟩⟩⟩⟩⟩
theorem sg_337_0 {x0 : Int32} {x1 : Int32} {M : px_Mem} {Q : px_Po} (h1 : px_T 0 341 0 [some (.int x0), some (.int x1), some (.ref 1003)] [] M (fun r M1 => px_T 0 337 8 [some (.int x0), some (.int x1)] (r.toList ++ []) M1 Q)) : px_T 0 337 0 [some (.int x0), some (.int x1)] [] M Q := by
  obtain ⟨n, h⟩ := px_T_cl (k := 337) (pc := 5) (y := 341) (st := [.ref 1003, .int x1, .int x0]) rfl (h1)
  exact ⟨n + 4, ⟨rfl, h⟩⟩
theorem sg_337_8 {d0 : Option Value} {d1 : Option Value} {s0 : Int32} {M : px_Mem} {Q : px_Po} (h1 : Q none M) : px_T 0 337 8 [d0, d1] [.int s0] M Q := by
  exact ⟨2, ⟨rfl, h1⟩⟩
theorem sg_338_0 {x0 : Nat} {x1 : Int32} {nx0 : Nat} {M : px_Mem} {Q : px_Po} (h1 : px_sh 0 x0 = some (.inr (2, nx0))) (h2 : px_T 0 337 0 [some (.int x1), some (.int (Int32.ofNat nx0))] [] M (fun r M1 => px_T 0 338 6 [some (.ref x0), some (.int x1)] (r.toList ++ []) M1 Q)) : px_T 0 338 0 [some (.ref x0), some (.int x1)] [] M Q := by
  obtain ⟨n, h⟩ := px_T_cl (k := 338) (pc := 3) (y := 337) (st := [.int (Int32.ofNat nx0), .int x1]) rfl (h2)
  exact ⟨n + 4, (Or.inl ⟨2, nx0, h1, (by decide), h⟩)⟩
theorem sg_338_6 {x0 : Nat} {x1 : Int32} {M : px_Mem} {Q : px_Po} (h1 : px_ba 0 x0 x1) (h2 : narrow .char (.int ((((M.1 x0 x1.toNatClampNeg) &&& 255).toUInt32 % 65536).toInt32)) = .int ((((M.1 x0 x1.toNatClampNeg) &&& 255).toUInt32 % 65536).toInt32)) (h3 : Q (some (.int ((((M.1 x0 x1.toNatClampNeg) &&& 255).toUInt32 % 65536).toInt32))) M) : px_T 0 338 6 [some (.ref x0), some (.int x1)] [] M Q := by
  exact ⟨7, ⟨h1, ⟨h2, h3⟩⟩⟩
theorem sg_339_0 {x0 : Nat} {x1 : Int64} {nx0 : Nat} {M : px_Mem} {Q : px_Po} (h1 : px_sh 0 x0 = some (.inr (1, nx0))) (h2 : px_T 0 339 6 [some (.ref x0), some (.long x1), none, some (.int 0), some (.int (Int32.ofNat nx0))] [] M Q) : px_T 0 339 0 [some (.ref x0), some (.long x1), none, none, none] [] M Q := by
  obtain ⟨n, h⟩ := h2
  exact ⟨n + 5, (Or.inl ⟨1, nx0, h1, (by decide), h⟩)⟩
theorem sg_339_6 {x0 : Nat} {x1 : Int64} {x3 : Int32} {x4 : Int32} {M : px_Mem} {Q : px_Po} (h1 : (x4 ≤ x3) → Q none M) (h2 : (¬ (x4 ≤ x3)) → px_at 0 1 x0 x3) (h3 : (¬ (x4 ≤ x3)) → px_T 0 339 6 [some (.ref x0), some (.long x1), none, some (.int (x3 + 1)), some (.int x4)] [] (px_wL M x0 x3.toNatClampNeg x1) Q) : px_T 0 339 6 [some (.ref x0), some (.long x1), none, some (.int x3), some (.int x4)] [] M Q := by
  by_cases c1 : x4 ≤ x3
  · exact ⟨4, ⟨fun _ => ⟨rfl, h1 c1⟩, fun q => absurd c1 q⟩⟩
  · obtain ⟨n, h⟩ := h3 c1
    exact ⟨n + 9, ⟨fun q => absurd q c1, fun _ => ⟨(h2 c1), h⟩⟩⟩
theorem sg_340_0 {g : Nat} {x0 : Nat} {x1 : Int32} {nx0 : Nat} {M : px_Mem} {Q : px_Po} (h1 : px_sh g x0 = some (.inr (0, nx0))) (h2 : px_T g 340 5 [some (.ref x0), some (.int x1), some (.int 0), some (.int (Int32.ofNat nx0))] [] M Q) : px_T g 340 0 [some (.ref x0), some (.int x1), none, none] [] M Q := by
  obtain ⟨n, h⟩ := h2
  exact ⟨n + 5, (Or.inl ⟨0, nx0, h1, (by decide), h⟩)⟩
theorem sg_340_5 {g : Nat} {x0 : Nat} {x1 : Int32} {x2 : Int32} {x3 : Int32} {M : px_Mem} {Q : px_Po} (h1 : (x3 ≤ x2) → Q none M) (h2 : (¬ (x3 ≤ x2)) → px_at g 0 x0 x2) (h3 : (¬ (x3 ≤ x2)) → px_T g 340 5 [some (.ref x0), some (.int x1), some (.int (x2 + 1)), some (.int x3)] [] (px_wI M x0 x2.toNatClampNeg x1) Q) : px_T g 340 5 [some (.ref x0), some (.int x1), some (.int x2), some (.int x3)] [] M Q := by
  by_cases c1 : x3 ≤ x2
  · exact ⟨4, ⟨fun _ => ⟨rfl, h1 c1⟩, fun q => absurd c1 q⟩⟩
  · obtain ⟨n, h⟩ := h3 c1
    exact ⟨n + 9, ⟨fun q => absurd q c1, fun _ => ⟨(h2 c1), h⟩⟩⟩
theorem sg_341_0 {x0 : Int32} {x1 : Int32} {x2 : Nat} {M : px_Mem} {Q : px_Po} (h1 : (x0 < 0) → False) (h2 : (¬ (x0 < 0)) → (x0 < x1) → Q (some (.int x0)) M) (h3 : (¬ (x0 < 0)) → (¬ (x0 < x1)) → False) : px_T 0 341 0 [some (.int x0), some (.int x1), some (.ref x2)] [] M Q := by
  by_cases c1 : x0 < 0
  · exact (h1 c1).elim
  · by_cases c2 : x0 < x1
    · exact ⟨7, ⟨fun q => absurd q c1, fun _ => ⟨fun _ => ⟨trivial, h2 c1 c2⟩, fun q => absurd c2 q⟩⟩⟩
    · exact (h3 c1 c2).elim
