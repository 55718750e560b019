theorem sg_342_2285 {x3 : Int32} {M : px_Mem} {Q : px_Po} (h1 : px_T 0 342 18 [some (.ref 1000), some (.ref 0), some (.ref 56), some (.int (x3 + 6))] [] M Q) : px_T 0 342 2285 [some (.ref 1000), some (.ref 0), some (.ref 56), some (.int x3)] [] M Q := by
  obtain ⟨n, h⟩ := h1
  exact ⟨n + 2, h⟩
theorem sg_342_337 {x3 : Int32} {s0 : Int32} {M : px_Mem} {Q : px_Po} (h1 : vp_in (x3 + 1) (M.1 999 0).toNatClampNeg) (h2 : vp_in (x3 + 2) (M.1 999 0).toNatClampNeg) (h3 : vp_in (x3 + 3) (M.1 999 0).toNatClampNeg) (h4 : vp_in (x3 + 4) (M.1 999 0).toNatClampNeg) (h5 : vp_in (x3 + 5) (M.1 999 0).toNatClampNeg) (h6 : px_T 0 190 0 [some (.ref 56), some (.int (M.1 1000 ((x3 + 1).toNatClampNeg))), some (.int (M.1 1000 ((x3 + 2).toNatClampNeg))), some (.int (M.1 1000 ((x3 + 3).toNatClampNeg))), some (.int (M.1 1000 ((x3 + 4).toNatClampNeg))), some (.int (M.1 1000 ((x3 + 5).toNatClampNeg))), none] [] M (fun r M1 => px_T 0 342 366 [some (.ref 1000), some (.ref 0), some (.ref 56), some (.int x3)] (r.toList ++ [.int s0]) M1 Q)) : px_T 0 342 337 [some (.ref 1000), some (.ref 0), some (.ref 56), some (.int x3)] [.int s0] M Q := by
  obtain ⟨n, h⟩ := px_T_cl (k := 342) (pc := 363) (y := 190) (st := [.int (M.1 1000 ((x3 + 5).toNatClampNeg)), .int (M.1 1000 ((x3 + 4).toNatClampNeg)), .int (M.1 1000 ((x3 + 3).toNatClampNeg)), .int (M.1 1000 ((x3 + 2).toNatClampNeg)), .int (M.1 1000 ((x3 + 1).toNatClampNeg)), .ref 56, .int s0]) rfl (h6)
  exact ⟨n + 27, ⟨Or.inr ⟨rfl, h1⟩, ⟨Or.inr ⟨rfl, h2⟩, ⟨Or.inr ⟨rfl, h3⟩, ⟨Or.inr ⟨rfl, h4⟩, ⟨Or.inr ⟨rfl, h5⟩, ⟨rfl, h⟩⟩⟩⟩⟩⟩⟩
theorem sg_342_380 {x3 : Int32} {s0 : Int32} {M : px_Mem} {Q : px_Po} (h1 : vp_in (x3 + 1) (M.1 999 0).toNatClampNeg) (h2 : px_T 0 191 0 [some (.ref 56), some (.int (M.1 1000 ((x3 + 1).toNatClampNeg)))] [] M (fun r M1 => px_T 0 342 389 [some (.ref 1000), some (.ref 0), some (.ref 56), some (.int x3)] (r.toList ++ [.int s0]) M1 Q)) : px_T 0 342 380 [some (.ref 1000), some (.ref 0), some (.ref 56), some (.int x3)] [.int s0] M Q := by
  obtain ⟨n, h⟩ := px_T_cl (k := 342) (pc := 386) (y := 191) (st := [.int (M.1 1000 ((x3 + 1).toNatClampNeg)), .ref 56, .int s0]) rfl (h2)
  exact ⟨n + 7, ⟨Or.inr ⟨rfl, h1⟩, ⟨rfl, h⟩⟩⟩
theorem sg_342_398 {x3 : Int32} {s0 : Int32} {M : px_Mem} {Q : px_Po} (h1 : px_T 0 206 0 [some (.ref 56), none] [] M (fun r M1 => px_T 0 342 402 [some (.ref 1000), some (.ref 0), some (.ref 56), some (.int x3)] (r.toList ++ [.int s0]) M1 Q)) : px_T 0 342 398 [some (.ref 1000), some (.ref 0), some (.ref 56), some (.int x3)] [.int s0] M Q := by
  obtain ⟨n, h⟩ := px_T_cl (k := 342) (pc := 399) (y := 206) (st := [.ref 56, .int s0]) rfl (h1)
  exact ⟨n + 2, ⟨rfl, h⟩⟩
theorem sg_342_416 {x3 : Int32} {s0 : Int32} {M : px_Mem} {Q : px_Po} (h1 : vp_in (x3 + 1) (M.1 999 0).toNatClampNeg) (h2 : px_T 0 201 0 [some (.ref 56), some (.int (M.1 1000 ((x3 + 1).toNatClampNeg)))] [] M (fun r M1 => px_T 0 342 425 [some (.ref 1000), some (.ref 0), some (.ref 56), some (.int x3)] (r.toList ++ [.int s0]) M1 Q)) : px_T 0 342 416 [some (.ref 1000), some (.ref 0), some (.ref 56), some (.int x3)] [.int s0] M Q := by
  obtain ⟨n, h⟩ := px_T_cl (k := 342) (pc := 422) (y := 201) (st := [.int (M.1 1000 ((x3 + 1).toNatClampNeg)), .ref 56, .int s0]) rfl (h2)
  exact ⟨n + 7, ⟨Or.inr ⟨rfl, h1⟩, ⟨rfl, h⟩⟩⟩
theorem sg_342_444 {x3 : Int32} {s0 : Int32} {M : px_Mem} {Q : px_Po} (h1 : vp_in (x3 + 1) (M.1 999 0).toNatClampNeg) (h2 : vp_in (x3 + 2) (M.1 999 0).toNatClampNeg) (h3 : px_T 0 207 0 [some (.ref 56), some (.int (M.1 1000 ((x3 + 1).toNatClampNeg))), some (.int (M.1 1000 ((x3 + 2).toNatClampNeg)))] [] M (fun r M1 => px_T 0 342 458 [some (.ref 1000), some (.ref 0), some (.ref 56), some (.int x3)] (r.toList ++ [.int s0]) M1 Q)) : px_T 0 342 444 [some (.ref 1000), some (.ref 0), some (.ref 56), some (.int x3)] [.int s0] M Q := by
  obtain ⟨n, h⟩ := px_T_cl (k := 342) (pc := 455) (y := 207) (st := [.int (M.1 1000 ((x3 + 2).toNatClampNeg)), .int (M.1 1000 ((x3 + 1).toNatClampNeg)), .ref 56, .int s0]) rfl (h3)
  exact ⟨n + 12, ⟨Or.inr ⟨rfl, h1⟩, ⟨Or.inr ⟨rfl, h2⟩, ⟨rfl, h⟩⟩⟩⟩
theorem sg_342_472 {x3 : Int32} {s0 : Int32} {M : px_Mem} {Q : px_Po} (h1 : vp_in (x3 + 1) (M.1 999 0).toNatClampNeg) (h2 : px_T 0 231 0 [some (.ref 56), some (.int (M.1 1000 ((x3 + 1).toNatClampNeg)))] [] M (fun r M1 => px_T 0 342 481 [some (.ref 1000), some (.ref 0), some (.ref 56), some (.int x3)] (r.toList ++ [.int s0]) M1 Q)) : px_T 0 342 472 [some (.ref 1000), some (.ref 0), some (.ref 56), some (.int x3)] [.int s0] M Q := by
  obtain ⟨n, h⟩ := px_T_cl (k := 342) (pc := 478) (y := 231) (st := [.int (M.1 1000 ((x3 + 1).toNatClampNeg)), .ref 56, .int s0]) rfl (h2)
  exact ⟨n + 7, ⟨Or.inr ⟨rfl, h1⟩, ⟨rfl, h⟩⟩⟩
theorem sg_342_495 {x3 : Int32} {s0 : Int32} {M : px_Mem} {Q : px_Po} (h1 : vp_in (x3 + 1) (M.1 999 0).toNatClampNeg) (h2 : px_T 0 232 0 [some (.ref 56), some (.int (M.1 1000 ((x3 + 1).toNatClampNeg))), none, none] [] M (fun r M1 => px_T 0 342 504 [some (.ref 1000), some (.ref 0), some (.ref 56), some (.int x3)] (r.toList ++ [.int s0]) M1 Q)) : px_T 0 342 495 [some (.ref 1000), some (.ref 0), some (.ref 56), some (.int x3)] [.int s0] M Q := by
  obtain ⟨n, h⟩ := px_T_cl (k := 342) (pc := 501) (y := 232) (st := [.int (M.1 1000 ((x3 + 1).toNatClampNeg)), .ref 56, .int s0]) rfl (h2)
  exact ⟨n + 7, ⟨Or.inr ⟨rfl, h1⟩, ⟨rfl, h⟩⟩⟩
theorem sg_342_518 {x3 : Int32} {s0 : Int32} {M : px_Mem} {Q : px_Po} (h1 : vp_in (x3 + 1) (M.1 999 0).toNatClampNeg) (h2 : px_T 0 233 0 [some (.ref 56), some (.int (M.1 1000 ((x3 + 1).toNatClampNeg)))] [] M (fun r M1 => px_T 0 342 527 [some (.ref 1000), some (.ref 0), some (.ref 56), some (.int x3)] (r.toList ++ [.int s0]) M1 Q)) : px_T 0 342 518 [some (.ref 1000), some (.ref 0), some (.ref 56), some (.int x3)] [.int s0] M Q := by
  obtain ⟨n, h⟩ := px_T_cl (k := 342) (pc := 524) (y := 233) (st := [.int (M.1 1000 ((x3 + 1).toNatClampNeg)), .ref 56, .int s0]) rfl (h2)
  exact ⟨n + 7, ⟨Or.inr ⟨rfl, h1⟩, ⟨rfl, h⟩⟩⟩
theorem sg_342_546 {x3 : Int32} {s0 : Int32} {M : px_Mem} {Q : px_Po} (h1 : vp_in (x3 + 1) (M.1 999 0).toNatClampNeg) (h2 : vp_in (x3 + 2) (M.1 999 0).toNatClampNeg) (h3 : px_T 0 234 0 [some (.ref 56), some (.int (M.1 1000 ((x3 + 1).toNatClampNeg))), some (.int (M.1 1000 ((x3 + 2).toNatClampNeg)))] [] M (fun r M1 => px_T 0 342 560 [some (.ref 1000), some (.ref 0), some (.ref 56), some (.int x3)] (r.toList ++ [.int s0]) M1 Q)) : px_T 0 342 546 [some (.ref 1000), some (.ref 0), some (.ref 56), some (.int x3)] [.int s0] M Q := by
  obtain ⟨n, h⟩ := px_T_cl (k := 342) (pc := 557) (y := 234) (st := [.int (M.1 1000 ((x3 + 2).toNatClampNeg)), .int (M.1 1000 ((x3 + 1).toNatClampNeg)), .ref 56, .int s0]) rfl (h3)
  exact ⟨n + 12, ⟨Or.inr ⟨rfl, h1⟩, ⟨Or.inr ⟨rfl, h2⟩, ⟨rfl, h⟩⟩⟩⟩
theorem sg_342_579 {x3 : Int32} {s0 : Int32} {M : px_Mem} {Q : px_Po} (h1 : vp_in (x3 + 1) (M.1 999 0).toNatClampNeg) (h2 : vp_in (x3 + 2) (M.1 999 0).toNatClampNeg) (h3 : px_T 0 235 0 [some (.ref 56), some (.int (M.1 1000 ((x3 + 1).toNatClampNeg))), some (.int (M.1 1000 ((x3 + 2).toNatClampNeg)))] [] M (fun r M1 => px_T 0 342 593 [some (.ref 1000), some (.ref 0), some (.ref 56), some (.int x3)] (r.toList ++ [.int s0]) M1 Q)) : px_T 0 342 579 [some (.ref 1000), some (.ref 0), some (.ref 56), some (.int x3)] [.int s0] M Q := by
  obtain ⟨n, h⟩ := px_T_cl (k := 342) (pc := 590) (y := 235) (st := [.int (M.1 1000 ((x3 + 2).toNatClampNeg)), .int (M.1 1000 ((x3 + 1).toNatClampNeg)), .ref 56, .int s0]) rfl (h3)
  exact ⟨n + 12, ⟨Or.inr ⟨rfl, h1⟩, ⟨Or.inr ⟨rfl, h2⟩, ⟨rfl, h⟩⟩⟩⟩
theorem sg_342_612 {x3 : Int32} {s0 : Int32} {M : px_Mem} {Q : px_Po} (h1 : vp_in (x3 + 1) (M.1 999 0).toNatClampNeg) (h2 : vp_in (x3 + 2) (M.1 999 0).toNatClampNeg) (h3 : px_T 0 236 0 [some (.ref 56), some (.int (M.1 1000 ((x3 + 1).toNatClampNeg))), some (.int (M.1 1000 ((x3 + 2).toNatClampNeg))), none, none] [] M (fun r M1 => px_T 0 342 626 [some (.ref 1000), some (.ref 0), some (.ref 56), some (.int x3)] (r.toList ++ [.int s0]) M1 Q)) : px_T 0 342 612 [some (.ref 1000), some (.ref 0), some (.ref 56), some (.int x3)] [.int s0] M Q := by
  obtain ⟨n, h⟩ := px_T_cl (k := 342) (pc := 623) (y := 236) (st := [.int (M.1 1000 ((x3 + 2).toNatClampNeg)), .int (M.1 1000 ((x3 + 1).toNatClampNeg)), .ref 56, .int s0]) rfl (h3)
  exact ⟨n + 12, ⟨Or.inr ⟨rfl, h1⟩, ⟨Or.inr ⟨rfl, h2⟩, ⟨rfl, h⟩⟩⟩⟩
theorem sg_342_645 {x3 : Int32} {s0 : Int32} {M : px_Mem} {Q : px_Po} (h1 : vp_in (x3 + 1) (M.1 999 0).toNatClampNeg) (h2 : vp_in (x3 + 2) (M.1 999 0).toNatClampNeg) (h3 : px_T 0 238 0 [some (.ref 56), some (.int (M.1 1000 ((x3 + 1).toNatClampNeg))), some (.int (M.1 1000 ((x3 + 2).toNatClampNeg)))] [] M (fun r M1 => px_T 0 342 659 [some (.ref 1000), some (.ref 0), some (.ref 56), some (.int x3)] (r.toList ++ [.int s0]) M1 Q)) : px_T 0 342 645 [some (.ref 1000), some (.ref 0), some (.ref 56), some (.int x3)] [.int s0] M Q := by
  obtain ⟨n, h⟩ := px_T_cl (k := 342) (pc := 656) (y := 238) (st := [.int (M.1 1000 ((x3 + 2).toNatClampNeg)), .int (M.1 1000 ((x3 + 1).toNatClampNeg)), .ref 56, .int s0]) rfl (h3)
  exact ⟨n + 12, ⟨Or.inr ⟨rfl, h1⟩, ⟨Or.inr ⟨rfl, h2⟩, ⟨rfl, h⟩⟩⟩⟩
theorem sg_342_678 {x3 : Int32} {s0 : Int32} {M : px_Mem} {Q : px_Po} (h1 : vp_in (x3 + 1) (M.1 999 0).toNatClampNeg) (h2 : vp_in (x3 + 2) (M.1 999 0).toNatClampNeg) (h3 : px_T 0 239 0 [some (.ref 56), some (.int (M.1 1000 ((x3 + 1).toNatClampNeg))), some (.int (M.1 1000 ((x3 + 2).toNatClampNeg))), none, none] [] M (fun r M1 => px_T 0 342 692 [some (.ref 1000), some (.ref 0), some (.ref 56), some (.int x3)] (r.toList ++ [.int s0]) M1 Q)) : px_T 0 342 678 [some (.ref 1000), some (.ref 0), some (.ref 56), some (.int x3)] [.int s0] M Q := by
  obtain ⟨n, h⟩ := px_T_cl (k := 342) (pc := 689) (y := 239) (st := [.int (M.1 1000 ((x3 + 2).toNatClampNeg)), .int (M.1 1000 ((x3 + 1).toNatClampNeg)), .ref 56, .int s0]) rfl (h3)
  exact ⟨n + 12, ⟨Or.inr ⟨rfl, h1⟩, ⟨Or.inr ⟨rfl, h2⟩, ⟨rfl, h⟩⟩⟩⟩
theorem sg_342_711 {x3 : Int32} {s0 : Int32} {M : px_Mem} {Q : px_Po} (h1 : vp_in (x3 + 1) (M.1 999 0).toNatClampNeg) (h2 : vp_in (x3 + 2) (M.1 999 0).toNatClampNeg) (h3 : px_T 0 241 0 [some (.ref 56), some (.int (M.1 1000 ((x3 + 1).toNatClampNeg))), some (.int (M.1 1000 ((x3 + 2).toNatClampNeg)))] [] M (fun r M1 => px_T 0 342 725 [some (.ref 1000), some (.ref 0), some (.ref 56), some (.int x3)] (r.toList ++ [.int s0]) M1 Q)) : px_T 0 342 711 [some (.ref 1000), some (.ref 0), some (.ref 56), some (.int x3)] [.int s0] M Q := by
  obtain ⟨n, h⟩ := px_T_cl (k := 342) (pc := 722) (y := 241) (st := [.int (M.1 1000 ((x3 + 2).toNatClampNeg)), .int (M.1 1000 ((x3 + 1).toNatClampNeg)), .ref 56, .int s0]) rfl (h3)
  exact ⟨n + 12, ⟨Or.inr ⟨rfl, h1⟩, ⟨Or.inr ⟨rfl, h2⟩, ⟨rfl, h⟩⟩⟩⟩
theorem sg_342_739 {x3 : Int32} {s0 : Int32} {M : px_Mem} {Q : px_Po} (h1 : vp_in (x3 + 1) (M.1 999 0).toNatClampNeg) (h2 : px_T 0 242 0 [some (.ref 56), some (.int (M.1 1000 ((x3 + 1).toNatClampNeg))), none, none] [] M (fun r M1 => px_T 0 342 748 [some (.ref 1000), some (.ref 0), some (.ref 56), some (.int x3)] (r.toList ++ [.int s0]) M1 Q)) : px_T 0 342 739 [some (.ref 1000), some (.ref 0), some (.ref 56), some (.int x3)] [.int s0] M Q := by
  obtain ⟨n, h⟩ := px_T_cl (k := 342) (pc := 745) (y := 242) (st := [.int (M.1 1000 ((x3 + 1).toNatClampNeg)), .ref 56, .int s0]) rfl (h2)
  exact ⟨n + 7, ⟨Or.inr ⟨rfl, h1⟩, ⟨rfl, h⟩⟩⟩
theorem sg_342_762 {x3 : Int32} {s0 : Int32} {M : px_Mem} {Q : px_Po} (h1 : vp_in (x3 + 1) (M.1 999 0).toNatClampNeg) (h2 : px_T 0 244 0 [some (.ref 56), some (.int (M.1 1000 ((x3 + 1).toNatClampNeg)))] [] M (fun r M1 => px_T 0 342 771 [some (.ref 1000), some (.ref 0), some (.ref 56), some (.int x3)] (r.toList ++ [.int s0]) M1 Q)) : px_T 0 342 762 [some (.ref 1000), some (.ref 0), some (.ref 56), some (.int x3)] [.int s0] M Q := by
  obtain ⟨n, h⟩ := px_T_cl (k := 342) (pc := 768) (y := 244) (st := [.int (M.1 1000 ((x3 + 1).toNatClampNeg)), .ref 56, .int s0]) rfl (h2)
  exact ⟨n + 7, ⟨Or.inr ⟨rfl, h1⟩, ⟨rfl, h⟩⟩⟩
theorem sg_342_785 {x3 : Int32} {s0 : Int32} {M : px_Mem} {Q : px_Po} (h1 : vp_in (x3 + 1) (M.1 999 0).toNatClampNeg) (h2 : px_T 0 245 0 [some (.ref 56), some (.int (M.1 1000 ((x3 + 1).toNatClampNeg))), none] [] M (fun r M1 => px_T 0 342 794 [some (.ref 1000), some (.ref 0), some (.ref 56), some (.int x3)] (r.toList ++ [.int s0]) M1 Q)) : px_T 0 342 785 [some (.ref 1000), some (.ref 0), some (.ref 56), some (.int x3)] [.int s0] M Q := by
  obtain ⟨n, h⟩ := px_T_cl (k := 342) (pc := 791) (y := 245) (st := [.int (M.1 1000 ((x3 + 1).toNatClampNeg)), .ref 56, .int s0]) rfl (h2)
  exact ⟨n + 7, ⟨Or.inr ⟨rfl, h1⟩, ⟨rfl, h⟩⟩⟩
theorem sg_342_818 {x3 : Int32} {s0 : Int32} {M : px_Mem} {Q : px_Po} (h1 : vp_in (x3 + 1) (M.1 999 0).toNatClampNeg) (h2 : vp_in (x3 + 2) (M.1 999 0).toNatClampNeg) (h3 : vp_in (x3 + 3) (M.1 999 0).toNatClampNeg) (h4 : px_T 0 248 0 [some (.ref 56), some (.int (M.1 1000 ((x3 + 1).toNatClampNeg))), some (.int (M.1 1000 ((x3 + 2).toNatClampNeg))), some (.int (M.1 1000 ((x3 + 3).toNatClampNeg)))] [] M (fun r M1 => px_T 0 342 837 [some (.ref 1000), some (.ref 0), some (.ref 56), some (.int x3)] (r.toList ++ [.int s0]) M1 Q)) : px_T 0 342 818 [some (.ref 1000), some (.ref 0), some (.ref 56), some (.int x3)] [.int s0] M Q := by
  obtain ⟨n, h⟩ := px_T_cl (k := 342) (pc := 834) (y := 248) (st := [.int (M.1 1000 ((x3 + 3).toNatClampNeg)), .int (M.1 1000 ((x3 + 2).toNatClampNeg)), .int (M.1 1000 ((x3 + 1).toNatClampNeg)), .ref 56, .int s0]) rfl (h4)
  exact ⟨n + 17, ⟨Or.inr ⟨rfl, h1⟩, ⟨Or.inr ⟨rfl, h2⟩, ⟨Or.inr ⟨rfl, h3⟩, ⟨rfl, h⟩⟩⟩⟩⟩
theorem sg_342_856 {x3 : Int32} {s0 : Int32} {M : px_Mem} {Q : px_Po} (h1 : vp_in (x3 + 1) (M.1 999 0).toNatClampNeg) (h2 : vp_in (x3 + 2) (M.1 999 0).toNatClampNeg) (h3 : px_T 0 249 0 [some (.ref 56), some (.int (M.1 1000 ((x3 + 1).toNatClampNeg))), some (.int (M.1 1000 ((x3 + 2).toNatClampNeg))), none, none] [] M (fun r M1 => px_T 0 342 870 [some (.ref 1000), some (.ref 0), some (.ref 56), some (.int x3)] (r.toList ++ [.int s0]) M1 Q)) : px_T 0 342 856 [some (.ref 1000), some (.ref 0), some (.ref 56), some (.int x3)] [.int s0] M Q := by
  obtain ⟨n, h⟩ := px_T_cl (k := 342) (pc := 867) (y := 249) (st := [.int (M.1 1000 ((x3 + 2).toNatClampNeg)), .int (M.1 1000 ((x3 + 1).toNatClampNeg)), .ref 56, .int s0]) rfl (h3)
  exact ⟨n + 12, ⟨Or.inr ⟨rfl, h1⟩, ⟨Or.inr ⟨rfl, h2⟩, ⟨rfl, h⟩⟩⟩⟩
theorem sg_342_889 {x3 : Int32} {s0 : Int32} {M : px_Mem} {Q : px_Po} (h1 : vp_in (x3 + 1) (M.1 999 0).toNatClampNeg) (h2 : vp_in (x3 + 2) (M.1 999 0).toNatClampNeg) (h3 : px_T 0 250 0 [some (.ref 56), some (.int (M.1 1000 ((x3 + 1).toNatClampNeg))), some (.int (M.1 1000 ((x3 + 2).toNatClampNeg)))] [] M (fun r M1 => px_T 0 342 903 [some (.ref 1000), some (.ref 0), some (.ref 56), some (.int x3)] (r.toList ++ [.int s0]) M1 Q)) : px_T 0 342 889 [some (.ref 1000), some (.ref 0), some (.ref 56), some (.int x3)] [.int s0] M Q := by
  obtain ⟨n, h⟩ := px_T_cl (k := 342) (pc := 900) (y := 250) (st := [.int (M.1 1000 ((x3 + 2).toNatClampNeg)), .int (M.1 1000 ((x3 + 1).toNatClampNeg)), .ref 56, .int s0]) rfl (h3)
  exact ⟨n + 12, ⟨Or.inr ⟨rfl, h1⟩, ⟨Or.inr ⟨rfl, h2⟩, ⟨rfl, h⟩⟩⟩⟩
theorem sg_342_922 {x3 : Int32} {s0 : Int32} {M : px_Mem} {Q : px_Po} (h1 : vp_in (x3 + 1) (M.1 999 0).toNatClampNeg) (h2 : vp_in (x3 + 2) (M.1 999 0).toNatClampNeg) (h3 : px_T 0 251 0 [some (.ref 56), some (.int (M.1 1000 ((x3 + 1).toNatClampNeg))), some (.int (M.1 1000 ((x3 + 2).toNatClampNeg)))] [] M (fun r M1 => px_T 0 342 936 [some (.ref 1000), some (.ref 0), some (.ref 56), some (.int x3)] (r.toList ++ [.int s0]) M1 Q)) : px_T 0 342 922 [some (.ref 1000), some (.ref 0), some (.ref 56), some (.int x3)] [.int s0] M Q := by
  obtain ⟨n, h⟩ := px_T_cl (k := 342) (pc := 933) (y := 251) (st := [.int (M.1 1000 ((x3 + 2).toNatClampNeg)), .int (M.1 1000 ((x3 + 1).toNatClampNeg)), .ref 56, .int s0]) rfl (h3)
  exact ⟨n + 12, ⟨Or.inr ⟨rfl, h1⟩, ⟨Or.inr ⟨rfl, h2⟩, ⟨rfl, h⟩⟩⟩⟩
theorem sg_342_950 {x3 : Int32} {s0 : Int32} {M : px_Mem} {Q : px_Po} (h1 : vp_in (x3 + 1) (M.1 999 0).toNatClampNeg) (h2 : px_T 0 252 0 [some (.ref 56), some (.int (M.1 1000 ((x3 + 1).toNatClampNeg))), none, none] [] M (fun r M1 => px_T 0 342 959 [some (.ref 1000), some (.ref 0), some (.ref 56), some (.int x3)] (r.toList ++ [.int s0]) M1 Q)) : px_T 0 342 950 [some (.ref 1000), some (.ref 0), some (.ref 56), some (.int x3)] [.int s0] M Q := by
  obtain ⟨n, h⟩ := px_T_cl (k := 342) (pc := 956) (y := 252) (st := [.int (M.1 1000 ((x3 + 1).toNatClampNeg)), .ref 56, .int s0]) rfl (h2)
  exact ⟨n + 7, ⟨Or.inr ⟨rfl, h1⟩, ⟨rfl, h⟩⟩⟩
theorem sg_342_978 {x3 : Int32} {s0 : Int32} {M : px_Mem} {Q : px_Po} (h1 : vp_in (x3 + 1) (M.1 999 0).toNatClampNeg) (h2 : vp_in (x3 + 2) (M.1 999 0).toNatClampNeg) (h3 : px_T 0 254 0 [some (.ref 56), some (.int (M.1 1000 ((x3 + 1).toNatClampNeg))), some (.int (M.1 1000 ((x3 + 2).toNatClampNeg)))] [] M (fun r M1 => px_T 0 342 992 [some (.ref 1000), some (.ref 0), some (.ref 56), some (.int x3)] (r.toList ++ [.int s0]) M1 Q)) : px_T 0 342 978 [some (.ref 1000), some (.ref 0), some (.ref 56), some (.int x3)] [.int s0] M Q := by
  obtain ⟨n, h⟩ := px_T_cl (k := 342) (pc := 989) (y := 254) (st := [.int (M.1 1000 ((x3 + 2).toNatClampNeg)), .int (M.1 1000 ((x3 + 1).toNatClampNeg)), .ref 56, .int s0]) rfl (h3)
  exact ⟨n + 12, ⟨Or.inr ⟨rfl, h1⟩, ⟨Or.inr ⟨rfl, h2⟩, ⟨rfl, h⟩⟩⟩⟩
theorem sg_342_1006 {x3 : Int32} {s0 : Int32} {M : px_Mem} {Q : px_Po} (h1 : vp_in (x3 + 1) (M.1 999 0).toNatClampNeg) (h2 : px_T 0 255 0 [some (.ref 56), some (.int (M.1 1000 ((x3 + 1).toNatClampNeg))), none, none] [] M (fun r M1 => px_T 0 342 1015 [some (.ref 1000), some (.ref 0), some (.ref 56), some (.int x3)] (r.toList ++ [.int s0]) M1 Q)) : px_T 0 342 1006 [some (.ref 1000), some (.ref 0), some (.ref 56), some (.int x3)] [.int s0] M Q := by
  obtain ⟨n, h⟩ := px_T_cl (k := 342) (pc := 1012) (y := 255) (st := [.int (M.1 1000 ((x3 + 1).toNatClampNeg)), .ref 56, .int s0]) rfl (h2)
  exact ⟨n + 7, ⟨Or.inr ⟨rfl, h1⟩, ⟨rfl, h⟩⟩⟩
theorem sg_342_1039 {x3 : Int32} {s0 : Int32} {M : px_Mem} {Q : px_Po} (h1 : vp_in (x3 + 1) (M.1 999 0).toNatClampNeg) (h2 : vp_in (x3 + 2) (M.1 999 0).toNatClampNeg) (h3 : vp_in (x3 + 3) (M.1 999 0).toNatClampNeg) (h4 : px_T 0 257 0 [some (.ref 56), some (.int (M.1 1000 ((x3 + 1).toNatClampNeg))), some (.int (M.1 1000 ((x3 + 2).toNatClampNeg))), some (.int (M.1 1000 ((x3 + 3).toNatClampNeg)))] [] M (fun r M1 => px_T 0 342 1058 [some (.ref 1000), some (.ref 0), some (.ref 56), some (.int x3)] (r.toList ++ [.int s0]) M1 Q)) : px_T 0 342 1039 [some (.ref 1000), some (.ref 0), some (.ref 56), some (.int x3)] [.int s0] M Q := by
  obtain ⟨n, h⟩ := px_T_cl (k := 342) (pc := 1055) (y := 257) (st := [.int (M.1 1000 ((x3 + 3).toNatClampNeg)), .int (M.1 1000 ((x3 + 2).toNatClampNeg)), .int (M.1 1000 ((x3 + 1).toNatClampNeg)), .ref 56, .int s0]) rfl (h4)
  exact ⟨n + 17, ⟨Or.inr ⟨rfl, h1⟩, ⟨Or.inr ⟨rfl, h2⟩, ⟨Or.inr ⟨rfl, h3⟩, ⟨rfl, h⟩⟩⟩⟩⟩
theorem sg_342_1082 {x3 : Int32} {s0 : Int32} {M : px_Mem} {Q : px_Po} (h1 : vp_in (x3 + 1) (M.1 999 0).toNatClampNeg) (h2 : vp_in (x3 + 2) (M.1 999 0).toNatClampNeg) (h3 : vp_in (x3 + 3) (M.1 999 0).toNatClampNeg) (h4 : px_T 0 258 0 [some (.ref 56), some (.int (M.1 1000 ((x3 + 1).toNatClampNeg))), some (.int (M.1 1000 ((x3 + 2).toNatClampNeg))), some (.int (M.1 1000 ((x3 + 3).toNatClampNeg))), none, none, none, none] [] M (fun r M1 => px_T 0 342 1101 [some (.ref 1000), some (.ref 0), some (.ref 56), some (.int x3)] (r.toList ++ [.int s0]) M1 Q)) : px_T 0 342 1082 [some (.ref 1000), some (.ref 0), some (.ref 56), some (.int x3)] [.int s0] M Q := by
  obtain ⟨n, h⟩ := px_T_cl (k := 342) (pc := 1098) (y := 258) (st := [.int (M.1 1000 ((x3 + 3).toNatClampNeg)), .int (M.1 1000 ((x3 + 2).toNatClampNeg)), .int (M.1 1000 ((x3 + 1).toNatClampNeg)), .ref 56, .int s0]) rfl (h4)
  exact ⟨n + 17, ⟨Or.inr ⟨rfl, h1⟩, ⟨Or.inr ⟨rfl, h2⟩, ⟨Or.inr ⟨rfl, h3⟩, ⟨rfl, h⟩⟩⟩⟩⟩
theorem sg_342_1120 {x3 : Int32} {s0 : Int32} {M : px_Mem} {Q : px_Po} (h1 : vp_in (x3 + 1) (M.1 999 0).toNatClampNeg) (h2 : vp_in (x3 + 2) (M.1 999 0).toNatClampNeg) (h3 : px_T 0 263 0 [some (.ref 56), some (.int (M.1 1000 ((x3 + 1).toNatClampNeg))), some (.int (M.1 1000 ((x3 + 2).toNatClampNeg)))] [] M (fun r M1 => px_T 0 342 1134 [some (.ref 1000), some (.ref 0), some (.ref 56), some (.int x3)] (r.toList ++ [.int s0]) M1 Q)) : px_T 0 342 1120 [some (.ref 1000), some (.ref 0), some (.ref 56), some (.int x3)] [.int s0] M Q := by
  obtain ⟨n, h⟩ := px_T_cl (k := 342) (pc := 1131) (y := 263) (st := [.int (M.1 1000 ((x3 + 2).toNatClampNeg)), .int (M.1 1000 ((x3 + 1).toNatClampNeg)), .ref 56, .int s0]) rfl (h3)
  exact ⟨n + 12, ⟨Or.inr ⟨rfl, h1⟩, ⟨Or.inr ⟨rfl, h2⟩, ⟨rfl, h⟩⟩⟩⟩
theorem sg_342_1148 {x3 : Int32} {s0 : Int32} {M : px_Mem} {Q : px_Po} (h1 : vp_in (x3 + 1) (M.1 999 0).toNatClampNeg) (h2 : px_T 0 264 0 [some (.ref 56), some (.int (M.1 1000 ((x3 + 1).toNatClampNeg)))] [] M (fun r M1 => px_T 0 342 1157 [some (.ref 1000), some (.ref 0), some (.ref 56), some (.int x3)] (r.toList ++ [.int s0]) M1 Q)) : px_T 0 342 1148 [some (.ref 1000), some (.ref 0), some (.ref 56), some (.int x3)] [.int s0] M Q := by
  obtain ⟨n, h⟩ := px_T_cl (k := 342) (pc := 1154) (y := 264) (st := [.int (M.1 1000 ((x3 + 1).toNatClampNeg)), .ref 56, .int s0]) rfl (h2)
  exact ⟨n + 7, ⟨Or.inr ⟨rfl, h1⟩, ⟨rfl, h⟩⟩⟩
theorem sg_342_1166 {x3 : Int32} {s0 : Int32} {M : px_Mem} {Q : px_Po} (h1 : px_T 0 265 0 [some (.ref 56), none, none] [] M (fun r M1 => px_T 0 342 1170 [some (.ref 1000), some (.ref 0), some (.ref 56), some (.int x3)] (r.toList ++ [.int s0]) M1 Q)) : px_T 0 342 1166 [some (.ref 1000), some (.ref 0), some (.ref 56), some (.int x3)] [.int s0] M Q := by
  obtain ⟨n, h⟩ := px_T_cl (k := 342) (pc := 1167) (y := 265) (st := [.ref 56, .int s0]) rfl (h1)
  exact ⟨n + 2, ⟨rfl, h⟩⟩
theorem sg_342_1179 {x3 : Int32} {s0 : Int32} {M : px_Mem} {Q : px_Po} (h1 : px_T 0 266 0 [some (.ref 56), none, none, none, none, none] [] M (fun r M1 => px_T 0 342 1183 [some (.ref 1000), some (.ref 0), some (.ref 56), some (.int x3)] (r.toList ++ [.int s0]) M1 Q)) : px_T 0 342 1179 [some (.ref 1000), some (.ref 0), some (.ref 56), some (.int x3)] [.int s0] M Q := by
  obtain ⟨n, h⟩ := px_T_cl (k := 342) (pc := 1180) (y := 266) (st := [.ref 56, .int s0]) rfl (h1)
  exact ⟨n + 2, ⟨rfl, h⟩⟩
theorem sg_342_1202 {x3 : Int32} {s0 : Int32} {M : px_Mem} {Q : px_Po} (h1 : vp_in (x3 + 1) (M.1 999 0).toNatClampNeg) (h2 : vp_in (x3 + 2) (M.1 999 0).toNatClampNeg) (h3 : px_T 0 273 0 [some (.ref 56), some (.int (M.1 1000 ((x3 + 1).toNatClampNeg))), some (.int (M.1 1000 ((x3 + 2).toNatClampNeg)))] [] M (fun r M1 => px_T 0 342 1216 [some (.ref 1000), some (.ref 0), some (.ref 56), some (.int x3)] (r.toList ++ [.int s0]) M1 Q)) : px_T 0 342 1202 [some (.ref 1000), some (.ref 0), some (.ref 56), some (.int x3)] [.int s0] M Q := by
  obtain ⟨n, h⟩ := px_T_cl (k := 342) (pc := 1213) (y := 273) (st := [.int (M.1 1000 ((x3 + 2).toNatClampNeg)), .int (M.1 1000 ((x3 + 1).toNatClampNeg)), .ref 56, .int s0]) rfl (h3)
  exact ⟨n + 12, ⟨Or.inr ⟨rfl, h1⟩, ⟨Or.inr ⟨rfl, h2⟩, ⟨rfl, h⟩⟩⟩⟩
theorem sg_342_1230 {x3 : Int32} {s0 : Int32} {M : px_Mem} {Q : px_Po} (h1 : vp_in (x3 + 1) (M.1 999 0).toNatClampNeg) (h2 : px_T 0 274 0 [some (.ref 56), some (.int (M.1 1000 ((x3 + 1).toNatClampNeg)))] [] M (fun r M1 => px_T 0 342 1239 [some (.ref 1000), some (.ref 0), some (.ref 56), some (.int x3)] (r.toList ++ [.int s0]) M1 Q)) : px_T 0 342 1230 [some (.ref 1000), some (.ref 0), some (.ref 56), some (.int x3)] [.int s0] M Q := by
  obtain ⟨n, h⟩ := px_T_cl (k := 342) (pc := 1236) (y := 274) (st := [.int (M.1 1000 ((x3 + 1).toNatClampNeg)), .ref 56, .int s0]) rfl (h2)
  exact ⟨n + 7, ⟨Or.inr ⟨rfl, h1⟩, ⟨rfl, h⟩⟩⟩
theorem sg_342_1253 {x3 : Int32} {s0 : Int32} {M : px_Mem} {Q : px_Po} (h1 : vp_in (x3 + 1) (M.1 999 0).toNatClampNeg) (h2 : px_T 0 275 0 [some (.ref 56), some (.int (M.1 1000 ((x3 + 1).toNatClampNeg))), none, none] [] M (fun r M1 => px_T 0 342 1262 [some (.ref 1000), some (.ref 0), some (.ref 56), some (.int x3)] (r.toList ++ [.int s0]) M1 Q)) : px_T 0 342 1253 [some (.ref 1000), some (.ref 0), some (.ref 56), some (.int x3)] [.int s0] M Q := by
  obtain ⟨n, h⟩ := px_T_cl (k := 342) (pc := 1259) (y := 275) (st := [.int (M.1 1000 ((x3 + 1).toNatClampNeg)), .ref 56, .int s0]) rfl (h2)
  exact ⟨n + 7, ⟨Or.inr ⟨rfl, h1⟩, ⟨rfl, h⟩⟩⟩
theorem sg_342_1281 {x3 : Int32} {s0 : Int32} {M : px_Mem} {Q : px_Po} (h1 : vp_in (x3 + 1) (M.1 999 0).toNatClampNeg) (h2 : vp_in (x3 + 2) (M.1 999 0).toNatClampNeg) (h3 : px_T 0 276 0 [some (.ref 56), some (.int (M.1 1000 ((x3 + 1).toNatClampNeg))), some (.int (M.1 1000 ((x3 + 2).toNatClampNeg)))] [] M (fun r M1 => px_T 0 342 1295 [some (.ref 1000), some (.ref 0), some (.ref 56), some (.int x3)] (r.toList ++ [.int s0]) M1 Q)) : px_T 0 342 1281 [some (.ref 1000), some (.ref 0), some (.ref 56), some (.int x3)] [.int s0] M Q := by
  obtain ⟨n, h⟩ := px_T_cl (k := 342) (pc := 1292) (y := 276) (st := [.int (M.1 1000 ((x3 + 2).toNatClampNeg)), .int (M.1 1000 ((x3 + 1).toNatClampNeg)), .ref 56, .int s0]) rfl (h3)
  exact ⟨n + 12, ⟨Or.inr ⟨rfl, h1⟩, ⟨Or.inr ⟨rfl, h2⟩, ⟨rfl, h⟩⟩⟩⟩
theorem sg_342_1309 {x3 : Int32} {s0 : Int32} {M : px_Mem} {Q : px_Po} (h1 : vp_in (x3 + 1) (M.1 999 0).toNatClampNeg) (h2 : px_T 0 277 0 [some (.ref 56), some (.int (M.1 1000 ((x3 + 1).toNatClampNeg))), none, none] [] M (fun r M1 => px_T 0 342 1318 [some (.ref 1000), some (.ref 0), some (.ref 56), some (.int x3)] (r.toList ++ [.int s0]) M1 Q)) : px_T 0 342 1309 [some (.ref 1000), some (.ref 0), some (.ref 56), some (.int x3)] [.int s0] M Q := by
  obtain ⟨n, h⟩ := px_T_cl (k := 342) (pc := 1315) (y := 277) (st := [.int (M.1 1000 ((x3 + 1).toNatClampNeg)), .ref 56, .int s0]) rfl (h2)
  exact ⟨n + 7, ⟨Or.inr ⟨rfl, h1⟩, ⟨rfl, h⟩⟩⟩
theorem sg_342_1327 {x3 : Int32} {s0 : Int32} {M : px_Mem} {Q : px_Po} (h1 : px_T 0 278 0 [some (.ref 56), none] [] M (fun r M1 => px_T 0 342 1331 [some (.ref 1000), some (.ref 0), some (.ref 56), some (.int x3)] (r.toList ++ [.int s0]) M1 Q)) : px_T 0 342 1327 [some (.ref 1000), some (.ref 0), some (.ref 56), some (.int x3)] [.int s0] M Q := by
  obtain ⟨n, h⟩ := px_T_cl (k := 342) (pc := 1328) (y := 278) (st := [.ref 56, .int s0]) rfl (h1)
  exact ⟨n + 2, ⟨rfl, h⟩⟩
theorem sg_342_1355 {x3 : Int32} {s0 : Int32} {M : px_Mem} {Q : px_Po} (h1 : vp_in (x3 + 1) (M.1 999 0).toNatClampNeg) (h2 : vp_in (x3 + 2) (M.1 999 0).toNatClampNeg) (h3 : vp_in (x3 + 3) (M.1 999 0).toNatClampNeg) (h4 : px_T 0 280 0 [some (.ref 56), some (.int (M.1 1000 ((x3 + 1).toNatClampNeg))), some (.int (M.1 1000 ((x3 + 2).toNatClampNeg))), some (.int (M.1 1000 ((x3 + 3).toNatClampNeg)))] [] M (fun r M1 => px_T 0 342 1374 [some (.ref 1000), some (.ref 0), some (.ref 56), some (.int x3)] (r.toList ++ [.int s0]) M1 Q)) : px_T 0 342 1355 [some (.ref 1000), some (.ref 0), some (.ref 56), some (.int x3)] [.int s0] M Q := by
  obtain ⟨n, h⟩ := px_T_cl (k := 342) (pc := 1371) (y := 280) (st := [.int (M.1 1000 ((x3 + 3).toNatClampNeg)), .int (M.1 1000 ((x3 + 2).toNatClampNeg)), .int (M.1 1000 ((x3 + 1).toNatClampNeg)), .ref 56, .int s0]) rfl (h4)
  exact ⟨n + 17, ⟨Or.inr ⟨rfl, h1⟩, ⟨Or.inr ⟨rfl, h2⟩, ⟨Or.inr ⟨rfl, h3⟩, ⟨rfl, h⟩⟩⟩⟩⟩
theorem sg_342_1403 {x3 : Int32} {s0 : Int32} {M : px_Mem} {Q : px_Po} (h1 : vp_in (x3 + 1) (M.1 999 0).toNatClampNeg) (h2 : vp_in (x3 + 2) (M.1 999 0).toNatClampNeg) (h3 : vp_in (x3 + 3) (M.1 999 0).toNatClampNeg) (h4 : vp_in (x3 + 4) (M.1 999 0).toNatClampNeg) (h5 : px_T 0 286 0 [some (.ref 56), some (.int (M.1 1000 ((x3 + 1).toNatClampNeg))), some (.int (M.1 1000 ((x3 + 2).toNatClampNeg))), some (.int (M.1 1000 ((x3 + 3).toNatClampNeg))), some (.int (M.1 1000 ((x3 + 4).toNatClampNeg)))] [] M (fun r M1 => px_T 0 342 1427 [some (.ref 1000), some (.ref 0), some (.ref 56), some (.int x3)] (r.toList ++ [.int s0]) M1 Q)) : px_T 0 342 1403 [some (.ref 1000), some (.ref 0), some (.ref 56), some (.int x3)] [.int s0] M Q := by
  obtain ⟨n, h⟩ := px_T_cl (k := 342) (pc := 1424) (y := 286) (st := [.int (M.1 1000 ((x3 + 4).toNatClampNeg)), .int (M.1 1000 ((x3 + 3).toNatClampNeg)), .int (M.1 1000 ((x3 + 2).toNatClampNeg)), .int (M.1 1000 ((x3 + 1).toNatClampNeg)), .ref 56, .int s0]) rfl (h5)
  exact ⟨n + 22, ⟨Or.inr ⟨rfl, h1⟩, ⟨Or.inr ⟨rfl, h2⟩, ⟨Or.inr ⟨rfl, h3⟩, ⟨Or.inr ⟨rfl, h4⟩, ⟨rfl, h⟩⟩⟩⟩⟩⟩
theorem sg_342_1451 {x3 : Int32} {s0 : Int32} {M : px_Mem} {Q : px_Po} (h1 : vp_in (x3 + 1) (M.1 999 0).toNatClampNeg) (h2 : vp_in (x3 + 2) (M.1 999 0).toNatClampNeg) (h3 : vp_in (x3 + 3) (M.1 999 0).toNatClampNeg) (h4 : px_T 0 287 0 [some (.ref 56), some (.int (M.1 1000 ((x3 + 1).toNatClampNeg))), some (.int (M.1 1000 ((x3 + 2).toNatClampNeg))), some (.int (M.1 1000 ((x3 + 3).toNatClampNeg)))] [] M (fun r M1 => px_T 0 342 1470 [some (.ref 1000), some (.ref 0), some (.ref 56), some (.int x3)] (r.toList ++ [.int s0]) M1 Q)) : px_T 0 342 1451 [some (.ref 1000), some (.ref 0), some (.ref 56), some (.int x3)] [.int s0] M Q := by
  obtain ⟨n, h⟩ := px_T_cl (k := 342) (pc := 1467) (y := 287) (st := [.int (M.1 1000 ((x3 + 3).toNatClampNeg)), .int (M.1 1000 ((x3 + 2).toNatClampNeg)), .int (M.1 1000 ((x3 + 1).toNatClampNeg)), .ref 56, .int s0]) rfl (h4)
  exact ⟨n + 17, ⟨Or.inr ⟨rfl, h1⟩, ⟨Or.inr ⟨rfl, h2⟩, ⟨Or.inr ⟨rfl, h3⟩, ⟨rfl, h⟩⟩⟩⟩⟩
theorem sg_342_1489 {x3 : Int32} {s0 : Int32} {M : px_Mem} {Q : px_Po} (h1 : vp_in (x3 + 1) (M.1 999 0).toNatClampNeg) (h2 : vp_in (x3 + 2) (M.1 999 0).toNatClampNeg) (h3 : px_T 0 288 0 [some (.ref 56), some (.int (M.1 1000 ((x3 + 1).toNatClampNeg))), some (.int (M.1 1000 ((x3 + 2).toNatClampNeg))), none, none, none] [] M (fun r M1 => px_T 0 342 1503 [some (.ref 1000), some (.ref 0), some (.ref 56), some (.int x3)] (r.toList ++ [.int s0]) M1 Q)) : px_T 0 342 1489 [some (.ref 1000), some (.ref 0), some (.ref 56), some (.int x3)] [.int s0] M Q := by
  obtain ⟨n, h⟩ := px_T_cl (k := 342) (pc := 1500) (y := 288) (st := [.int (M.1 1000 ((x3 + 2).toNatClampNeg)), .int (M.1 1000 ((x3 + 1).toNatClampNeg)), .ref 56, .int s0]) rfl (h3)
  exact ⟨n + 12, ⟨Or.inr ⟨rfl, h1⟩, ⟨Or.inr ⟨rfl, h2⟩, ⟨rfl, h⟩⟩⟩⟩
theorem sg_342_1512 {x3 : Int32} {s0 : Int32} {M : px_Mem} {Q : px_Po} (h1 : px_T 0 290 0 [some (.ref 56), none, none, none] [] M (fun r M1 => px_T 0 342 1516 [some (.ref 1000), some (.ref 0), some (.ref 56), some (.int x3)] (r.toList ++ [.int s0]) M1 Q)) : px_T 0 342 1512 [some (.ref 1000), some (.ref 0), some (.ref 56), some (.int x3)] [.int s0] M Q := by
  obtain ⟨n, h⟩ := px_T_cl (k := 342) (pc := 1513) (y := 290) (st := [.ref 56, .int s0]) rfl (h1)
  exact ⟨n + 2, ⟨rfl, h⟩⟩
theorem sg_342_1525 {x3 : Int32} {s0 : Int32} {M : px_Mem} {Q : px_Po} (h1 : px_T 0 292 0 [some (.ref 56), none, none, none, none, none] [] M (fun r M1 => px_T 0 342 1529 [some (.ref 1000), some (.ref 0), some (.ref 56), some (.int x3)] (r.toList ++ [.int s0]) M1 Q)) : px_T 0 342 1525 [some (.ref 1000), some (.ref 0), some (.ref 56), some (.int x3)] [.int s0] M Q := by
  obtain ⟨n, h⟩ := px_T_cl (k := 342) (pc := 1526) (y := 292) (st := [.ref 56, .int s0]) rfl (h1)
  exact ⟨n + 2, ⟨rfl, h⟩⟩
theorem sg_342_1543 {x3 : Int32} {s0 : Int32} {M : px_Mem} {Q : px_Po} (h1 : vp_in (x3 + 1) (M.1 999 0).toNatClampNeg) (h2 : px_T 0 297 0 [some (.ref 56), some (.int (M.1 1000 ((x3 + 1).toNatClampNeg))), none] [] M (fun r M1 => px_T 0 342 1552 [some (.ref 1000), some (.ref 0), some (.ref 56), some (.int x3)] (r.toList ++ [.int s0]) M1 Q)) : px_T 0 342 1543 [some (.ref 1000), some (.ref 0), some (.ref 56), some (.int x3)] [.int s0] M Q := by
  obtain ⟨n, h⟩ := px_T_cl (k := 342) (pc := 1549) (y := 297) (st := [.int (M.1 1000 ((x3 + 1).toNatClampNeg)), .ref 56, .int s0]) rfl (h2)
  exact ⟨n + 7, ⟨Or.inr ⟨rfl, h1⟩, ⟨rfl, h⟩⟩⟩
theorem sg_342_1566 {x3 : Int32} {s0 : Int32} {M : px_Mem} {Q : px_Po} (h1 : vp_in (x3 + 1) (M.1 999 0).toNatClampNeg) (h2 : px_T 0 298 0 [some (.ref 56), some (.int (M.1 1000 ((x3 + 1).toNatClampNeg))), none] [] M (fun r M1 => px_T 0 342 1575 [some (.ref 1000), some (.ref 0), some (.ref 56), some (.int x3)] (r.toList ++ [.int s0]) M1 Q)) : px_T 0 342 1566 [some (.ref 1000), some (.ref 0), some (.ref 56), some (.int x3)] [.int s0] M Q := by
  obtain ⟨n, h⟩ := px_T_cl (k := 342) (pc := 1572) (y := 298) (st := [.int (M.1 1000 ((x3 + 1).toNatClampNeg)), .ref 56, .int s0]) rfl (h2)
  exact ⟨n + 7, ⟨Or.inr ⟨rfl, h1⟩, ⟨rfl, h⟩⟩⟩
theorem sg_342_1589 {x3 : Int32} {s0 : Int32} {M : px_Mem} {Q : px_Po} (h1 : vp_in (x3 + 1) (M.1 999 0).toNatClampNeg) (h2 : px_T 0 299 0 [some (.ref 56), some (.int (M.1 1000 ((x3 + 1).toNatClampNeg))), none] [] M (fun r M1 => px_T 0 342 1598 [some (.ref 1000), some (.ref 0), some (.ref 56), some (.int x3)] (r.toList ++ [.int s0]) M1 Q)) : px_T 0 342 1589 [some (.ref 1000), some (.ref 0), some (.ref 56), some (.int x3)] [.int s0] M Q := by
  obtain ⟨n, h⟩ := px_T_cl (k := 342) (pc := 1595) (y := 299) (st := [.int (M.1 1000 ((x3 + 1).toNatClampNeg)), .ref 56, .int s0]) rfl (h2)
  exact ⟨n + 7, ⟨Or.inr ⟨rfl, h1⟩, ⟨rfl, h⟩⟩⟩
theorem sg_342_1612 {x3 : Int32} {s0 : Int32} {M : px_Mem} {Q : px_Po} (h1 : vp_in (x3 + 1) (M.1 999 0).toNatClampNeg) (h2 : px_T 0 300 0 [some (.ref 56), some (.int (M.1 1000 ((x3 + 1).toNatClampNeg))), none, none] [] M (fun r M1 => px_T 0 342 1621 [some (.ref 1000), some (.ref 0), some (.ref 56), some (.int x3)] (r.toList ++ [.int s0]) M1 Q)) : px_T 0 342 1612 [some (.ref 1000), some (.ref 0), some (.ref 56), some (.int x3)] [.int s0] M Q := by
  obtain ⟨n, h⟩ := px_T_cl (k := 342) (pc := 1618) (y := 300) (st := [.int (M.1 1000 ((x3 + 1).toNatClampNeg)), .ref 56, .int s0]) rfl (h2)
  exact ⟨n + 7, ⟨Or.inr ⟨rfl, h1⟩, ⟨rfl, h⟩⟩⟩
theorem sg_342_1635 {x3 : Int32} {s0 : Int32} {M : px_Mem} {Q : px_Po} (h1 : vp_in (x3 + 1) (M.1 999 0).toNatClampNeg) (h2 : px_T 0 302 0 [some (.ref 56), some (.int (M.1 1000 ((x3 + 1).toNatClampNeg)))] [] M (fun r M1 => px_T 0 342 1644 [some (.ref 1000), some (.ref 0), some (.ref 56), some (.int x3)] (r.toList ++ [.int s0]) M1 Q)) : px_T 0 342 1635 [some (.ref 1000), some (.ref 0), some (.ref 56), some (.int x3)] [.int s0] M Q := by
  obtain ⟨n, h⟩ := px_T_cl (k := 342) (pc := 1641) (y := 302) (st := [.int (M.1 1000 ((x3 + 1).toNatClampNeg)), .ref 56, .int s0]) rfl (h2)
  exact ⟨n + 7, ⟨Or.inr ⟨rfl, h1⟩, ⟨rfl, h⟩⟩⟩
theorem sg_342_1653 {x3 : Int32} {s0 : Int32} {M : px_Mem} {Q : px_Po} (h1 : px_T 0 303 0 [some (.ref 56), none, none] [] M (fun r M1 => px_T 0 342 1657 [some (.ref 1000), some (.ref 0), some (.ref 56), some (.int x3)] (r.toList ++ [.int s0]) M1 Q)) : px_T 0 342 1653 [some (.ref 1000), some (.ref 0), some (.ref 56), some (.int x3)] [.int s0] M Q := by
  obtain ⟨n, h⟩ := px_T_cl (k := 342) (pc := 1654) (y := 303) (st := [.ref 56, .int s0]) rfl (h1)
  exact ⟨n + 2, ⟨rfl, h⟩⟩
theorem sg_342_1671 {x3 : Int32} {s0 : Int32} {M : px_Mem} {Q : px_Po} (h1 : vp_in (x3 + 1) (M.1 999 0).toNatClampNeg) (h2 : px_T 0 305 0 [some (.ref 56), some (.int (M.1 1000 ((x3 + 1).toNatClampNeg)))] [] M (fun r M1 => px_T 0 342 1680 [some (.ref 1000), some (.ref 0), some (.ref 56), some (.int x3)] (r.toList ++ [.int s0]) M1 Q)) : px_T 0 342 1671 [some (.ref 1000), some (.ref 0), some (.ref 56), some (.int x3)] [.int s0] M Q := by
  obtain ⟨n, h⟩ := px_T_cl (k := 342) (pc := 1677) (y := 305) (st := [.int (M.1 1000 ((x3 + 1).toNatClampNeg)), .ref 56, .int s0]) rfl (h2)
  exact ⟨n + 7, ⟨Or.inr ⟨rfl, h1⟩, ⟨rfl, h⟩⟩⟩
theorem sg_342_1699 {x3 : Int32} {s0 : Int32} {M : px_Mem} {Q : px_Po} (h1 : vp_in (x3 + 1) (M.1 999 0).toNatClampNeg) (h2 : vp_in (x3 + 2) (M.1 999 0).toNatClampNeg) (h3 : px_T 0 309 0 [some (.ref 56), some (.int (M.1 1000 ((x3 + 1).toNatClampNeg))), some (.int (M.1 1000 ((x3 + 2).toNatClampNeg))), none, none, none, none] [] M (fun r M1 => px_T 0 342 1713 [some (.ref 1000), some (.ref 0), some (.ref 56), some (.int x3)] (r.toList ++ [.int s0]) M1 Q)) : px_T 0 342 1699 [some (.ref 1000), some (.ref 0), some (.ref 56), some (.int x3)] [.int s0] M Q := by
  obtain ⟨n, h⟩ := px_T_cl (k := 342) (pc := 1710) (y := 309) (st := [.int (M.1 1000 ((x3 + 2).toNatClampNeg)), .int (M.1 1000 ((x3 + 1).toNatClampNeg)), .ref 56, .int s0]) rfl (h3)
  exact ⟨n + 12, ⟨Or.inr ⟨rfl, h1⟩, ⟨Or.inr ⟨rfl, h2⟩, ⟨rfl, h⟩⟩⟩⟩
theorem sg_342_1732 {x3 : Int32} {s0 : Int32} {M : px_Mem} {Q : px_Po} (h1 : vp_in (x3 + 1) (M.1 999 0).toNatClampNeg) (h2 : vp_in (x3 + 2) (M.1 999 0).toNatClampNeg) (h3 : px_T 0 312 0 [some (.ref 56), some (.int (M.1 1000 ((x3 + 1).toNatClampNeg))), some (.int (M.1 1000 ((x3 + 2).toNatClampNeg))), none, none, none, none, none] [] M (fun r M1 => px_T 0 342 1746 [some (.ref 1000), some (.ref 0), some (.ref 56), some (.int x3)] (r.toList ++ [.int s0]) M1 Q)) : px_T 0 342 1732 [some (.ref 1000), some (.ref 0), some (.ref 56), some (.int x3)] [.int s0] M Q := by
  obtain ⟨n, h⟩ := px_T_cl (k := 342) (pc := 1743) (y := 312) (st := [.int (M.1 1000 ((x3 + 2).toNatClampNeg)), .int (M.1 1000 ((x3 + 1).toNatClampNeg)), .ref 56, .int s0]) rfl (h3)
  exact ⟨n + 12, ⟨Or.inr ⟨rfl, h1⟩, ⟨Or.inr ⟨rfl, h2⟩, ⟨rfl, h⟩⟩⟩⟩
theorem sg_342_1775 {x3 : Int32} {s0 : Int32} {M : px_Mem} {Q : px_Po} (h1 : vp_in (x3 + 1) (M.1 999 0).toNatClampNeg) (h2 : vp_in (x3 + 2) (M.1 999 0).toNatClampNeg) (h3 : vp_in (x3 + 3) (M.1 999 0).toNatClampNeg) (h4 : vp_in (x3 + 4) (M.1 999 0).toNatClampNeg) (h5 : px_T 0 313 0 [some (.ref 56), some (.int (M.1 1000 ((x3 + 1).toNatClampNeg))), some (.int (M.1 1000 ((x3 + 2).toNatClampNeg))), some (.int (M.1 1000 ((x3 + 3).toNatClampNeg))), some (.int (M.1 1000 ((x3 + 4).toNatClampNeg)))] [] M (fun r M1 => px_T 0 342 1799 [some (.ref 1000), some (.ref 0), some (.ref 56), some (.int x3)] (r.toList ++ [.int s0]) M1 Q)) : px_T 0 342 1775 [some (.ref 1000), some (.ref 0), some (.ref 56), some (.int x3)] [.int s0] M Q := by
  obtain ⟨n, h⟩ := px_T_cl (k := 342) (pc := 1796) (y := 313) (st := [.int (M.1 1000 ((x3 + 4).toNatClampNeg)), .int (M.1 1000 ((x3 + 3).toNatClampNeg)), .int (M.1 1000 ((x3 + 2).toNatClampNeg)), .int (M.1 1000 ((x3 + 1).toNatClampNeg)), .ref 56, .int s0]) rfl (h5)
  exact ⟨n + 22, ⟨Or.inr ⟨rfl, h1⟩, ⟨Or.inr ⟨rfl, h2⟩, ⟨Or.inr ⟨rfl, h3⟩, ⟨Or.inr ⟨rfl, h4⟩, ⟨rfl, h⟩⟩⟩⟩⟩⟩
theorem sg_342_1823 {x3 : Int32} {s0 : Int64} {M : px_Mem} {Q : px_Po} (h1 : vp_in (x3 + 1) (M.1 999 0).toNatClampNeg) (h2 : vp_in (x3 + 2) (M.1 999 0).toNatClampNeg) (h3 : vp_in (x3 + 3) (M.1 999 0).toNatClampNeg) (h4 : px_T 0 316 0 [some (.ref 56), some (.int (M.1 1000 ((x3 + 1).toNatClampNeg))), some (.int (M.1 1000 ((x3 + 2).toNatClampNeg))), some (.int (M.1 1000 ((x3 + 3).toNatClampNeg)))] [] M (fun r M1 => px_T 0 342 1842 [some (.ref 1000), some (.ref 0), some (.ref 56), some (.int x3)] (r.toList ++ [.long s0]) M1 Q)) : px_T 0 342 1823 [some (.ref 1000), some (.ref 0), some (.ref 56), some (.int x3)] [.long s0] M Q := by
  obtain ⟨n, h⟩ := px_T_cl (k := 342) (pc := 1839) (y := 316) (st := [.int (M.1 1000 ((x3 + 3).toNatClampNeg)), .int (M.1 1000 ((x3 + 2).toNatClampNeg)), .int (M.1 1000 ((x3 + 1).toNatClampNeg)), .ref 56, .long s0]) rfl (h4)
  exact ⟨n + 17, ⟨Or.inr ⟨rfl, h1⟩, ⟨Or.inr ⟨rfl, h2⟩, ⟨Or.inr ⟨rfl, h3⟩, ⟨rfl, h⟩⟩⟩⟩⟩
theorem sg_342_1862 {x3 : Int32} {s0 : Int64} {M : px_Mem} {Q : px_Po} (h1 : vp_in (x3 + 1) (M.1 999 0).toNatClampNeg) (h2 : vp_in (x3 + 2) (M.1 999 0).toNatClampNeg) (h3 : px_T 0 317 0 [some (.ref 56), some (.int (M.1 1000 ((x3 + 1).toNatClampNeg))), some (.int (M.1 1000 ((x3 + 2).toNatClampNeg)))] [] M (fun r M1 => px_T 0 342 1876 [some (.ref 1000), some (.ref 0), some (.ref 56), some (.int x3)] (r.toList ++ [.long s0]) M1 Q)) : px_T 0 342 1862 [some (.ref 1000), some (.ref 0), some (.ref 56), some (.int x3)] [.long s0] M Q := by
  obtain ⟨n, h⟩ := px_T_cl (k := 342) (pc := 1873) (y := 317) (st := [.int (M.1 1000 ((x3 + 2).toNatClampNeg)), .int (M.1 1000 ((x3 + 1).toNatClampNeg)), .ref 56, .long s0]) rfl (h3)
  exact ⟨n + 12, ⟨Or.inr ⟨rfl, h1⟩, ⟨Or.inr ⟨rfl, h2⟩, ⟨rfl, h⟩⟩⟩⟩
theorem sg_342_1906 {x3 : Int32} {s0 : Int32} {M : px_Mem} {Q : px_Po} (h1 : vp_in (x3 + 1) (M.1 999 0).toNatClampNeg) (h2 : vp_in (x3 + 2) (M.1 999 0).toNatClampNeg) (h3 : vp_in (x3 + 3) (M.1 999 0).toNatClampNeg) (h4 : vp_in (x3 + 4) (M.1 999 0).toNatClampNeg) (h5 : px_T 0 319 0 [some (.ref 56), some (.int (M.1 1000 ((x3 + 1).toNatClampNeg))), some (.int (M.1 1000 ((x3 + 2).toNatClampNeg))), some (.int (M.1 1000 ((x3 + 3).toNatClampNeg))), some (.int (M.1 1000 ((x3 + 4).toNatClampNeg))), none] [] M (fun r M1 => px_T 0 342 1930 [some (.ref 1000), some (.ref 0), some (.ref 56), some (.int x3)] (r.toList ++ [.int s0]) M1 Q)) : px_T 0 342 1906 [some (.ref 1000), some (.ref 0), some (.ref 56), some (.int x3)] [.int s0] M Q := by
  obtain ⟨n, h⟩ := px_T_cl (k := 342) (pc := 1927) (y := 319) (st := [.int (M.1 1000 ((x3 + 4).toNatClampNeg)), .int (M.1 1000 ((x3 + 3).toNatClampNeg)), .int (M.1 1000 ((x3 + 2).toNatClampNeg)), .int (M.1 1000 ((x3 + 1).toNatClampNeg)), .ref 56, .int s0]) rfl (h5)
  exact ⟨n + 22, ⟨Or.inr ⟨rfl, h1⟩, ⟨Or.inr ⟨rfl, h2⟩, ⟨Or.inr ⟨rfl, h3⟩, ⟨Or.inr ⟨rfl, h4⟩, ⟨rfl, h⟩⟩⟩⟩⟩⟩
theorem sg_342_1939 {x3 : Int32} {s0 : Int32} {M : px_Mem} {Q : px_Po} (h1 : px_T 0 320 0 [some (.ref 56)] [] M (fun r M1 => px_T 0 342 1943 [some (.ref 1000), some (.ref 0), some (.ref 56), some (.int x3)] (r.toList ++ [.int s0]) M1 Q)) : px_T 0 342 1939 [some (.ref 1000), some (.ref 0), some (.ref 56), some (.int x3)] [.int s0] M Q := by
  obtain ⟨n, h⟩ := px_T_cl (k := 342) (pc := 1940) (y := 320) (st := [.ref 56, .int s0]) rfl (h1)
  exact ⟨n + 2, ⟨rfl, h⟩⟩
theorem sg_342_1952 {x3 : Int32} {s0 : Int32} {M : px_Mem} {Q : px_Po} (h1 : px_T 0 321 0 [some (.ref 56), none] [] M (fun r M1 => px_T 0 342 1956 [some (.ref 1000), some (.ref 0), some (.ref 56), some (.int x3)] (r.toList ++ [.int s0]) M1 Q)) : px_T 0 342 1952 [some (.ref 1000), some (.ref 0), some (.ref 56), some (.int x3)] [.int s0] M Q := by
  obtain ⟨n, h⟩ := px_T_cl (k := 342) (pc := 1953) (y := 321) (st := [.ref 56, .int s0]) rfl (h1)
  exact ⟨n + 2, ⟨rfl, h⟩⟩
theorem sg_342_1975 {x3 : Int32} {s0 : Int32} {M : px_Mem} {Q : px_Po} (h1 : vp_in (x3 + 1) (M.1 999 0).toNatClampNeg) (h2 : vp_in (x3 + 2) (M.1 999 0).toNatClampNeg) (h3 : px_T 0 324 0 [some (.ref 56), some (.int (M.1 1000 ((x3 + 1).toNatClampNeg))), some (.int (M.1 1000 ((x3 + 2).toNatClampNeg))), none] [] M (fun r M1 => px_T 0 342 1989 [some (.ref 1000), some (.ref 0), some (.ref 56), some (.int x3)] (r.toList ++ [.int s0]) M1 Q)) : px_T 0 342 1975 [some (.ref 1000), some (.ref 0), some (.ref 56), some (.int x3)] [.int s0] M Q := by
  obtain ⟨n, h⟩ := px_T_cl (k := 342) (pc := 1986) (y := 324) (st := [.int (M.1 1000 ((x3 + 2).toNatClampNeg)), .int (M.1 1000 ((x3 + 1).toNatClampNeg)), .ref 56, .int s0]) rfl (h3)
  exact ⟨n + 12, ⟨Or.inr ⟨rfl, h1⟩, ⟨Or.inr ⟨rfl, h2⟩, ⟨rfl, h⟩⟩⟩⟩
theorem sg_342_2013 {x3 : Int32} {s0 : Int32} {M : px_Mem} {Q : px_Po} (h1 : vp_in (x3 + 1) (M.1 999 0).toNatClampNeg) (h2 : vp_in (x3 + 2) (M.1 999 0).toNatClampNeg) (h3 : vp_in (x3 + 3) (M.1 999 0).toNatClampNeg) (h4 : px_T 0 325 0 [some (.ref 56), some (.int (M.1 1000 ((x3 + 1).toNatClampNeg))), some (.int (M.1 1000 ((x3 + 2).toNatClampNeg))), some (.int (M.1 1000 ((x3 + 3).toNatClampNeg))), none, none] [] M (fun r M1 => px_T 0 342 2032 [some (.ref 1000), some (.ref 0), some (.ref 56), some (.int x3)] (r.toList ++ [.int s0]) M1 Q)) : px_T 0 342 2013 [some (.ref 1000), some (.ref 0), some (.ref 56), some (.int x3)] [.int s0] M Q := by
  obtain ⟨n, h⟩ := px_T_cl (k := 342) (pc := 2029) (y := 325) (st := [.int (M.1 1000 ((x3 + 3).toNatClampNeg)), .int (M.1 1000 ((x3 + 2).toNatClampNeg)), .int (M.1 1000 ((x3 + 1).toNatClampNeg)), .ref 56, .int s0]) rfl (h4)
  exact ⟨n + 17, ⟨Or.inr ⟨rfl, h1⟩, ⟨Or.inr ⟨rfl, h2⟩, ⟨Or.inr ⟨rfl, h3⟩, ⟨rfl, h⟩⟩⟩⟩⟩
theorem sg_342_2046 {x3 : Int32} {s0 : Int32} {M : px_Mem} {Q : px_Po} (h1 : vp_in (x3 + 1) (M.1 999 0).toNatClampNeg) (h2 : px_T 0 326 0 [some (.ref 56), some (.int (M.1 1000 ((x3 + 1).toNatClampNeg))), none, none] [] M (fun r M1 => px_T 0 342 2055 [some (.ref 1000), some (.ref 0), some (.ref 56), some (.int x3)] (r.toList ++ [.int s0]) M1 Q)) : px_T 0 342 2046 [some (.ref 1000), some (.ref 0), some (.ref 56), some (.int x3)] [.int s0] M Q := by
  obtain ⟨n, h⟩ := px_T_cl (k := 342) (pc := 2052) (y := 326) (st := [.int (M.1 1000 ((x3 + 1).toNatClampNeg)), .ref 56, .int s0]) rfl (h2)
  exact ⟨n + 7, ⟨Or.inr ⟨rfl, h1⟩, ⟨rfl, h⟩⟩⟩
theorem sg_342_2069 {x3 : Int32} {s0 : Int32} {M : px_Mem} {Q : px_Po} (h1 : vp_in (x3 + 1) (M.1 999 0).toNatClampNeg) (h2 : px_T 0 178 0 [some (.ref 56), some (.int (M.1 1000 ((x3 + 1).toNatClampNeg))), none] [] M (fun r M1 => px_T 0 342 2078 [some (.ref 1000), some (.ref 0), some (.ref 56), some (.int x3)] (r.toList ++ [.int s0]) M1 Q)) : px_T 0 342 2069 [some (.ref 1000), some (.ref 0), some (.ref 56), some (.int x3)] [.int s0] M Q := by
  obtain ⟨n, h⟩ := px_T_cl (k := 342) (pc := 2075) (y := 178) (st := [.int (M.1 1000 ((x3 + 1).toNatClampNeg)), .ref 56, .int s0]) rfl (h2)
  exact ⟨n + 7, ⟨Or.inr ⟨rfl, h1⟩, ⟨rfl, h⟩⟩⟩
theorem sg_342_2092 {x3 : Int32} {s0 : Int32} {M : px_Mem} {Q : px_Po} (h1 : vp_in (x3 + 1) (M.1 999 0).toNatClampNeg) (h2 : px_T 0 179 0 [some (.ref 56), some (.int (M.1 1000 ((x3 + 1).toNatClampNeg))), none] [] M (fun r M1 => px_T 0 342 2101 [some (.ref 1000), some (.ref 0), some (.ref 56), some (.int x3)] (r.toList ++ [.int s0]) M1 Q)) : px_T 0 342 2092 [some (.ref 1000), some (.ref 0), some (.ref 56), some (.int x3)] [.int s0] M Q := by
  obtain ⟨n, h⟩ := px_T_cl (k := 342) (pc := 2098) (y := 179) (st := [.int (M.1 1000 ((x3 + 1).toNatClampNeg)), .ref 56, .int s0]) rfl (h2)
  exact ⟨n + 7, ⟨Or.inr ⟨rfl, h1⟩, ⟨rfl, h⟩⟩⟩
theorem sg_342_2125 {x3 : Int32} {s0 : Int32} {M : px_Mem} {Q : px_Po} (h1 : vp_in (x3 + 1) (M.1 999 0).toNatClampNeg) (h2 : vp_in (x3 + 2) (M.1 999 0).toNatClampNeg) (h3 : vp_in (x3 + 3) (M.1 999 0).toNatClampNeg) (h4 : px_T 0 329 0 [some (.ref 56), some (.int (M.1 1000 ((x3 + 1).toNatClampNeg))), some (.int (M.1 1000 ((x3 + 2).toNatClampNeg))), some (.int (M.1 1000 ((x3 + 3).toNatClampNeg))), none] [] M (fun r M1 => px_T 0 342 2144 [some (.ref 1000), some (.ref 0), some (.ref 56), some (.int x3)] (r.toList ++ [.int s0]) M1 Q)) : px_T 0 342 2125 [some (.ref 1000), some (.ref 0), some (.ref 56), some (.int x3)] [.int s0] M Q := by
  obtain ⟨n, h⟩ := px_T_cl (k := 342) (pc := 2141) (y := 329) (st := [.int (M.1 1000 ((x3 + 3).toNatClampNeg)), .int (M.1 1000 ((x3 + 2).toNatClampNeg)), .int (M.1 1000 ((x3 + 1).toNatClampNeg)), .ref 56, .int s0]) rfl (h4)
  exact ⟨n + 17, ⟨Or.inr ⟨rfl, h1⟩, ⟨Or.inr ⟨rfl, h2⟩, ⟨Or.inr ⟨rfl, h3⟩, ⟨rfl, h⟩⟩⟩⟩⟩
theorem sg_342_2183 {x3 : Int32} {s0 : Int32} {M : px_Mem} {Q : px_Po} (h1 : vp_in (x3 + 1) (M.1 999 0).toNatClampNeg) (h2 : vp_in (x3 + 2) (M.1 999 0).toNatClampNeg) (h3 : vp_in (x3 + 3) (M.1 999 0).toNatClampNeg) (h4 : vp_in (x3 + 4) (M.1 999 0).toNatClampNeg) (h5 : px_T 0 330 0 [some (.ref 56), some (.int (M.1 1000 ((x3 + 1).toNatClampNeg))), some (.int (M.1 1000 ((x3 + 2).toNatClampNeg))), some (.long ((((M.1 1000 ((x3 + 3).toNatClampNeg)).toInt64) <<< ((32 : Int32).toInt64 &&& 63)) ||| (((M.1 1000 ((x3 + 4).toNatClampNeg)).toInt64) &&& 4294967295))), none] [] M (fun r M1 => px_T 0 342 2217 [some (.ref 1000), some (.ref 0), some (.ref 56), some (.int x3)] (r.toList ++ [.int s0]) M1 Q)) : px_T 0 342 2183 [some (.ref 1000), some (.ref 0), some (.ref 56), some (.int x3)] [.int s0] M Q := by
  obtain ⟨n, h⟩ := px_T_cl (k := 342) (pc := 2214) (y := 330) (st := [.long ((((M.1 1000 ((x3 + 3).toNatClampNeg)).toInt64) <<< ((32 : Int32).toInt64 &&& 63)) ||| (((M.1 1000 ((x3 + 4).toNatClampNeg)).toInt64) &&& 4294967295)), .int (M.1 1000 ((x3 + 2).toNatClampNeg)), .int (M.1 1000 ((x3 + 1).toNatClampNeg)), .ref 56, .int s0]) rfl (h5)
  exact ⟨n + 29, ⟨Or.inr ⟨rfl, h1⟩, ⟨Or.inr ⟨rfl, h2⟩, ⟨Or.inr ⟨rfl, h3⟩, ⟨Or.inr ⟨rfl, h4⟩, ⟨rfl, h⟩⟩⟩⟩⟩⟩
theorem sg_342_2251 {x3 : Int32} {s0 : Int32} {M : px_Mem} {Q : px_Po} (h1 : vp_in (x3 + 1) (M.1 999 0).toNatClampNeg) (h2 : vp_in (x3 + 2) (M.1 999 0).toNatClampNeg) (h3 : vp_in (x3 + 3) (M.1 999 0).toNatClampNeg) (h4 : vp_in (x3 + 4) (M.1 999 0).toNatClampNeg) (h5 : vp_in (x3 + 5) (M.1 999 0).toNatClampNeg) (h6 : px_T 0 331 0 [some (.ref 56), some (.int (M.1 1000 ((x3 + 1).toNatClampNeg))), some (.int (M.1 1000 ((x3 + 2).toNatClampNeg))), some (.int (M.1 1000 ((x3 + 3).toNatClampNeg))), some (.int (M.1 1000 ((x3 + 4).toNatClampNeg))), some (.int (M.1 1000 ((x3 + 5).toNatClampNeg))), none] [] M (fun r M1 => px_T 0 342 2280 [some (.ref 1000), some (.ref 0), some (.ref 56), some (.int x3)] (r.toList ++ [.int s0]) M1 Q)) : px_T 0 342 2251 [some (.ref 1000), some (.ref 0), some (.ref 56), some (.int x3)] [.int s0] M Q := by
  obtain ⟨n, h⟩ := px_T_cl (k := 342) (pc := 2277) (y := 331) (st := [.int (M.1 1000 ((x3 + 5).toNatClampNeg)), .int (M.1 1000 ((x3 + 4).toNatClampNeg)), .int (M.1 1000 ((x3 + 3).toNatClampNeg)), .int (M.1 1000 ((x3 + 2).toNatClampNeg)), .int (M.1 1000 ((x3 + 1).toNatClampNeg)), .ref 56, .int s0]) rfl (h6)
  exact ⟨n + 27, ⟨Or.inr ⟨rfl, h1⟩, ⟨Or.inr ⟨rfl, h2⟩, ⟨Or.inr ⟨rfl, h3⟩, ⟨Or.inr ⟨rfl, h4⟩, ⟨Or.inr ⟨rfl, h5⟩, ⟨rfl, h⟩⟩⟩⟩⟩⟩⟩
theorem sg_342_366 {x3 : Int32} {s0 : Int32} {s1 : Int32} {M : px_Mem} {Q : px_Po} (h1 : (s1 = s0) → px_T 0 342 2285 [some (.ref 1000), some (.ref 0), some (.ref 56), some (.int x3)] [] M Q) (h2 : (¬ (s1 = s0)) → Q (some (.int 0)) M) : px_T 0 342 366 [some (.ref 1000), some (.ref 0), some (.ref 56), some (.int x3)] [.int s0, .int s1] M Q := by
  by_cases c1 : s1 = s0
  · obtain ⟨n, h⟩ := h1 c1
    exact ⟨n + 1, ⟨fun _ => h, fun q => absurd c1 q⟩⟩
  · exact ⟨3, ⟨fun q => absurd q c1, fun _ => ⟨Or.inl rfl, h2 c1⟩⟩⟩
theorem sg_342_389 {x3 : Int32} {s0 : Int32} {s1 : Int32} {M : px_Mem} {Q : px_Po} (h1 : (s1 = s0) → px_T 0 342 2285 [some (.ref 1000), some (.ref 0), some (.ref 56), some (.int x3)] [] M Q) (h2 : (¬ (s1 = s0)) → Q (some (.int 0)) M) : px_T 0 342 389 [some (.ref 1000), some (.ref 0), some (.ref 56), some (.int x3)] [.int s0, .int s1] M Q := by
  by_cases c1 : s1 = s0
  · obtain ⟨n, h⟩ := h1 c1
    exact ⟨n + 1, ⟨fun _ => h, fun q => absurd c1 q⟩⟩
  · exact ⟨3, ⟨fun q => absurd q c1, fun _ => ⟨Or.inl rfl, h2 c1⟩⟩⟩
theorem sg_342_402 {x3 : Int32} {s0 : Int32} {s1 : Int32} {M : px_Mem} {Q : px_Po} (h1 : (s1 = s0) → px_T 0 342 2285 [some (.ref 1000), some (.ref 0), some (.ref 56), some (.int x3)] [] M Q) (h2 : (¬ (s1 = s0)) → Q (some (.int 0)) M) : px_T 0 342 402 [some (.ref 1000), some (.ref 0), some (.ref 56), some (.int x3)] [.int s0, .int s1] M Q := by
  by_cases c1 : s1 = s0
  · obtain ⟨n, h⟩ := h1 c1
    exact ⟨n + 1, ⟨fun _ => h, fun q => absurd c1 q⟩⟩
  · exact ⟨3, ⟨fun q => absurd q c1, fun _ => ⟨Or.inl rfl, h2 c1⟩⟩⟩
theorem sg_342_425 {x3 : Int32} {s0 : Int32} {s1 : Int32} {M : px_Mem} {Q : px_Po} (h1 : (s1 = s0) → px_T 0 342 2285 [some (.ref 1000), some (.ref 0), some (.ref 56), some (.int x3)] [] M Q) (h2 : (¬ (s1 = s0)) → Q (some (.int 0)) M) : px_T 0 342 425 [some (.ref 1000), some (.ref 0), some (.ref 56), some (.int x3)] [.int s0, .int s1] M Q := by
  by_cases c1 : s1 = s0
  · obtain ⟨n, h⟩ := h1 c1
    exact ⟨n + 1, ⟨fun _ => h, fun q => absurd c1 q⟩⟩
  · exact ⟨3, ⟨fun q => absurd q c1, fun _ => ⟨Or.inl rfl, h2 c1⟩⟩⟩
theorem sg_342_458 {x3 : Int32} {s0 : Int32} {s1 : Int32} {M : px_Mem} {Q : px_Po} (h1 : (s1 = s0) → px_T 0 342 2285 [some (.ref 1000), some (.ref 0), some (.ref 56), some (.int x3)] [] M Q) (h2 : (¬ (s1 = s0)) → Q (some (.int 0)) M) : px_T 0 342 458 [some (.ref 1000), some (.ref 0), some (.ref 56), some (.int x3)] [.int s0, .int s1] M Q := by
  by_cases c1 : s1 = s0
  · obtain ⟨n, h⟩ := h1 c1
    exact ⟨n + 1, ⟨fun _ => h, fun q => absurd c1 q⟩⟩
  · exact ⟨3, ⟨fun q => absurd q c1, fun _ => ⟨Or.inl rfl, h2 c1⟩⟩⟩
theorem sg_342_481 {x3 : Int32} {s0 : Int32} {s1 : Int32} {M : px_Mem} {Q : px_Po} (h1 : (s1 = s0) → px_T 0 342 2285 [some (.ref 1000), some (.ref 0), some (.ref 56), some (.int x3)] [] M Q) (h2 : (¬ (s1 = s0)) → Q (some (.int 0)) M) : px_T 0 342 481 [some (.ref 1000), some (.ref 0), some (.ref 56), some (.int x3)] [.int s0, .int s1] M Q := by
  by_cases c1 : s1 = s0
  · obtain ⟨n, h⟩ := h1 c1
    exact ⟨n + 1, ⟨fun _ => h, fun q => absurd c1 q⟩⟩
  · exact ⟨3, ⟨fun q => absurd q c1, fun _ => ⟨Or.inl rfl, h2 c1⟩⟩⟩
theorem sg_342_504 {x3 : Int32} {s0 : Int32} {s1 : Int32} {M : px_Mem} {Q : px_Po} (h1 : (s1 = s0) → px_T 0 342 2285 [some (.ref 1000), some (.ref 0), some (.ref 56), some (.int x3)] [] M Q) (h2 : (¬ (s1 = s0)) → Q (some (.int 0)) M) : px_T 0 342 504 [some (.ref 1000), some (.ref 0), some (.ref 56), some (.int x3)] [.int s0, .int s1] M Q := by
  by_cases c1 : s1 = s0
  · obtain ⟨n, h⟩ := h1 c1
    exact ⟨n + 1, ⟨fun _ => h, fun q => absurd c1 q⟩⟩
  · exact ⟨3, ⟨fun q => absurd q c1, fun _ => ⟨Or.inl rfl, h2 c1⟩⟩⟩
theorem sg_342_527 {x3 : Int32} {s0 : Int32} {s1 : Int32} {M : px_Mem} {Q : px_Po} (h1 : (s1 = s0) → px_T 0 342 2285 [some (.ref 1000), some (.ref 0), some (.ref 56), some (.int x3)] [] M Q) (h2 : (¬ (s1 = s0)) → Q (some (.int 0)) M) : px_T 0 342 527 [some (.ref 1000), some (.ref 0), some (.ref 56), some (.int x3)] [.int s0, .int s1] M Q := by
  by_cases c1 : s1 = s0
  · obtain ⟨n, h⟩ := h1 c1
    exact ⟨n + 1, ⟨fun _ => h, fun q => absurd c1 q⟩⟩
  · exact ⟨3, ⟨fun q => absurd q c1, fun _ => ⟨Or.inl rfl, h2 c1⟩⟩⟩
theorem sg_342_560 {x3 : Int32} {s0 : Int32} {s1 : Int32} {M : px_Mem} {Q : px_Po} (h1 : (s1 = s0) → px_T 0 342 2285 [some (.ref 1000), some (.ref 0), some (.ref 56), some (.int x3)] [] M Q) (h2 : (¬ (s1 = s0)) → Q (some (.int 0)) M) : px_T 0 342 560 [some (.ref 1000), some (.ref 0), some (.ref 56), some (.int x3)] [.int s0, .int s1] M Q := by
  by_cases c1 : s1 = s0
  · obtain ⟨n, h⟩ := h1 c1
    exact ⟨n + 1, ⟨fun _ => h, fun q => absurd c1 q⟩⟩
  · exact ⟨3, ⟨fun q => absurd q c1, fun _ => ⟨Or.inl rfl, h2 c1⟩⟩⟩
theorem sg_342_593 {x3 : Int32} {s0 : Int32} {s1 : Int32} {M : px_Mem} {Q : px_Po} (h1 : (s1 = s0) → px_T 0 342 2285 [some (.ref 1000), some (.ref 0), some (.ref 56), some (.int x3)] [] M Q) (h2 : (¬ (s1 = s0)) → Q (some (.int 0)) M) : px_T 0 342 593 [some (.ref 1000), some (.ref 0), some (.ref 56), some (.int x3)] [.int s0, .int s1] M Q := by
  by_cases c1 : s1 = s0
  · obtain ⟨n, h⟩ := h1 c1
    exact ⟨n + 1, ⟨fun _ => h, fun q => absurd c1 q⟩⟩
  · exact ⟨3, ⟨fun q => absurd q c1, fun _ => ⟨Or.inl rfl, h2 c1⟩⟩⟩
theorem sg_342_626 {x3 : Int32} {s0 : Int32} {s1 : Int32} {M : px_Mem} {Q : px_Po} (h1 : (s1 = s0) → px_T 0 342 2285 [some (.ref 1000), some (.ref 0), some (.ref 56), some (.int x3)] [] M Q) (h2 : (¬ (s1 = s0)) → Q (some (.int 0)) M) : px_T 0 342 626 [some (.ref 1000), some (.ref 0), some (.ref 56), some (.int x3)] [.int s0, .int s1] M Q := by
  by_cases c1 : s1 = s0
  · obtain ⟨n, h⟩ := h1 c1
    exact ⟨n + 1, ⟨fun _ => h, fun q => absurd c1 q⟩⟩
  · exact ⟨3, ⟨fun q => absurd q c1, fun _ => ⟨Or.inl rfl, h2 c1⟩⟩⟩
theorem sg_342_659 {x3 : Int32} {s0 : Int32} {s1 : Int32} {M : px_Mem} {Q : px_Po} (h1 : (s1 = s0) → px_T 0 342 2285 [some (.ref 1000), some (.ref 0), some (.ref 56), some (.int x3)] [] M Q) (h2 : (¬ (s1 = s0)) → Q (some (.int 0)) M) : px_T 0 342 659 [some (.ref 1000), some (.ref 0), some (.ref 56), some (.int x3)] [.int s0, .int s1] M Q := by
  by_cases c1 : s1 = s0
  · obtain ⟨n, h⟩ := h1 c1
    exact ⟨n + 1, ⟨fun _ => h, fun q => absurd c1 q⟩⟩
  · exact ⟨3, ⟨fun q => absurd q c1, fun _ => ⟨Or.inl rfl, h2 c1⟩⟩⟩
theorem sg_342_692 {x3 : Int32} {s0 : Int32} {s1 : Int32} {M : px_Mem} {Q : px_Po} (h1 : (s1 = s0) → px_T 0 342 2285 [some (.ref 1000), some (.ref 0), some (.ref 56), some (.int x3)] [] M Q) (h2 : (¬ (s1 = s0)) → Q (some (.int 0)) M) : px_T 0 342 692 [some (.ref 1000), some (.ref 0), some (.ref 56), some (.int x3)] [.int s0, .int s1] M Q := by
  by_cases c1 : s1 = s0
  · obtain ⟨n, h⟩ := h1 c1
    exact ⟨n + 1, ⟨fun _ => h, fun q => absurd c1 q⟩⟩
  · exact ⟨3, ⟨fun q => absurd q c1, fun _ => ⟨Or.inl rfl, h2 c1⟩⟩⟩
theorem sg_342_725 {x3 : Int32} {s0 : Int32} {s1 : Int32} {M : px_Mem} {Q : px_Po} (h1 : (s1 = s0) → px_T 0 342 2285 [some (.ref 1000), some (.ref 0), some (.ref 56), some (.int x3)] [] M Q) (h2 : (¬ (s1 = s0)) → Q (some (.int 0)) M) : px_T 0 342 725 [some (.ref 1000), some (.ref 0), some (.ref 56), some (.int x3)] [.int s0, .int s1] M Q := by
  by_cases c1 : s1 = s0
  · obtain ⟨n, h⟩ := h1 c1
    exact ⟨n + 1, ⟨fun _ => h, fun q => absurd c1 q⟩⟩
  · exact ⟨3, ⟨fun q => absurd q c1, fun _ => ⟨Or.inl rfl, h2 c1⟩⟩⟩
theorem sg_342_748 {x3 : Int32} {s0 : Int32} {s1 : Int32} {M : px_Mem} {Q : px_Po} (h1 : (s1 = s0) → px_T 0 342 2285 [some (.ref 1000), some (.ref 0), some (.ref 56), some (.int x3)] [] M Q) (h2 : (¬ (s1 = s0)) → Q (some (.int 0)) M) : px_T 0 342 748 [some (.ref 1000), some (.ref 0), some (.ref 56), some (.int x3)] [.int s0, .int s1] M Q := by
  by_cases c1 : s1 = s0
  · obtain ⟨n, h⟩ := h1 c1
    exact ⟨n + 1, ⟨fun _ => h, fun q => absurd c1 q⟩⟩
  · exact ⟨3, ⟨fun q => absurd q c1, fun _ => ⟨Or.inl rfl, h2 c1⟩⟩⟩
theorem sg_342_771 {x3 : Int32} {s0 : Int32} {s1 : Int32} {M : px_Mem} {Q : px_Po} (h1 : (s1 = s0) → px_T 0 342 2285 [some (.ref 1000), some (.ref 0), some (.ref 56), some (.int x3)] [] M Q) (h2 : (¬ (s1 = s0)) → Q (some (.int 0)) M) : px_T 0 342 771 [some (.ref 1000), some (.ref 0), some (.ref 56), some (.int x3)] [.int s0, .int s1] M Q := by
  by_cases c1 : s1 = s0
  · obtain ⟨n, h⟩ := h1 c1
    exact ⟨n + 1, ⟨fun _ => h, fun q => absurd c1 q⟩⟩
  · exact ⟨3, ⟨fun q => absurd q c1, fun _ => ⟨Or.inl rfl, h2 c1⟩⟩⟩
theorem sg_342_794 {x3 : Int32} {s0 : Int32} {s1 : Int32} {M : px_Mem} {Q : px_Po} (h1 : (s1 = s0) → px_T 0 342 2285 [some (.ref 1000), some (.ref 0), some (.ref 56), some (.int x3)] [] M Q) (h2 : (¬ (s1 = s0)) → Q (some (.int 0)) M) : px_T 0 342 794 [some (.ref 1000), some (.ref 0), some (.ref 56), some (.int x3)] [.int s0, .int s1] M Q := by
  by_cases c1 : s1 = s0
  · obtain ⟨n, h⟩ := h1 c1
    exact ⟨n + 1, ⟨fun _ => h, fun q => absurd c1 q⟩⟩
  · exact ⟨3, ⟨fun q => absurd q c1, fun _ => ⟨Or.inl rfl, h2 c1⟩⟩⟩
theorem sg_342_837 {x3 : Int32} {s0 : Int32} {s1 : Int32} {M : px_Mem} {Q : px_Po} (h1 : (s1 = s0) → px_T 0 342 2285 [some (.ref 1000), some (.ref 0), some (.ref 56), some (.int x3)] [] M Q) (h2 : (¬ (s1 = s0)) → Q (some (.int 0)) M) : px_T 0 342 837 [some (.ref 1000), some (.ref 0), some (.ref 56), some (.int x3)] [.int s0, .int s1] M Q := by
  by_cases c1 : s1 = s0
  · obtain ⟨n, h⟩ := h1 c1
    exact ⟨n + 1, ⟨fun _ => h, fun q => absurd c1 q⟩⟩
  · exact ⟨3, ⟨fun q => absurd q c1, fun _ => ⟨Or.inl rfl, h2 c1⟩⟩⟩
theorem sg_342_870 {x3 : Int32} {s0 : Int32} {s1 : Int32} {M : px_Mem} {Q : px_Po} (h1 : (s1 = s0) → px_T 0 342 2285 [some (.ref 1000), some (.ref 0), some (.ref 56), some (.int x3)] [] M Q) (h2 : (¬ (s1 = s0)) → Q (some (.int 0)) M) : px_T 0 342 870 [some (.ref 1000), some (.ref 0), some (.ref 56), some (.int x3)] [.int s0, .int s1] M Q := by
  by_cases c1 : s1 = s0
  · obtain ⟨n, h⟩ := h1 c1
    exact ⟨n + 1, ⟨fun _ => h, fun q => absurd c1 q⟩⟩
  · exact ⟨3, ⟨fun q => absurd q c1, fun _ => ⟨Or.inl rfl, h2 c1⟩⟩⟩
theorem sg_342_903 {x3 : Int32} {s0 : Int32} {s1 : Int32} {M : px_Mem} {Q : px_Po} (h1 : (s1 = s0) → px_T 0 342 2285 [some (.ref 1000), some (.ref 0), some (.ref 56), some (.int x3)] [] M Q) (h2 : (¬ (s1 = s0)) → Q (some (.int 0)) M) : px_T 0 342 903 [some (.ref 1000), some (.ref 0), some (.ref 56), some (.int x3)] [.int s0, .int s1] M Q := by
  by_cases c1 : s1 = s0
  · obtain ⟨n, h⟩ := h1 c1
    exact ⟨n + 1, ⟨fun _ => h, fun q => absurd c1 q⟩⟩
  · exact ⟨3, ⟨fun q => absurd q c1, fun _ => ⟨Or.inl rfl, h2 c1⟩⟩⟩
theorem sg_342_936 {x3 : Int32} {s0 : Int32} {s1 : Int32} {M : px_Mem} {Q : px_Po} (h1 : (s1 = s0) → px_T 0 342 2285 [some (.ref 1000), some (.ref 0), some (.ref 56), some (.int x3)] [] M Q) (h2 : (¬ (s1 = s0)) → Q (some (.int 0)) M) : px_T 0 342 936 [some (.ref 1000), some (.ref 0), some (.ref 56), some (.int x3)] [.int s0, .int s1] M Q := by
  by_cases c1 : s1 = s0
  · obtain ⟨n, h⟩ := h1 c1
    exact ⟨n + 1, ⟨fun _ => h, fun q => absurd c1 q⟩⟩
  · exact ⟨3, ⟨fun q => absurd q c1, fun _ => ⟨Or.inl rfl, h2 c1⟩⟩⟩
theorem sg_342_959 {x3 : Int32} {s0 : Int32} {s1 : Int32} {M : px_Mem} {Q : px_Po} (h1 : (s1 = s0) → px_T 0 342 2285 [some (.ref 1000), some (.ref 0), some (.ref 56), some (.int x3)] [] M Q) (h2 : (¬ (s1 = s0)) → Q (some (.int 0)) M) : px_T 0 342 959 [some (.ref 1000), some (.ref 0), some (.ref 56), some (.int x3)] [.int s0, .int s1] M Q := by
  by_cases c1 : s1 = s0
  · obtain ⟨n, h⟩ := h1 c1
    exact ⟨n + 1, ⟨fun _ => h, fun q => absurd c1 q⟩⟩
  · exact ⟨3, ⟨fun q => absurd q c1, fun _ => ⟨Or.inl rfl, h2 c1⟩⟩⟩
