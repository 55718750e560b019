theorem sg_342_18 {x3 : Int32} {M : px_Mem} {Q : px_Po} (h1 : (((M.1 999 0) - 6) < x3) → Q (some (.int 1)) M) (h2 : (¬ (((M.1 999 0) - 6) < x3)) → vp_in x3 (M.1 999 0).toNatClampNeg) (h3 : (¬ (((M.1 999 0) - 6) < x3)) → px_T 0 342 33 [some (.ref 1000), some (.ref 0), some (.ref 56), some (.int x3)] [.int ((M.1 1000 x3.toNatClampNeg) &&& 127)] M Q) : px_T 0 342 18 [some (.ref 1000), some (.ref 0), some (.ref 56), some (.int x3)] [] M Q := by
  by_cases c1 : ((M.1 999 0) - 6) < x3
  · exact ⟨8, (Or.inr ⟨rfl, ⟨fun _ => ⟨Or.inr rfl, h1 c1⟩, fun q => absurd c1 q⟩⟩)⟩
  · obtain ⟨n, h⟩ := h3 c1
    exact ⟨n + 11, (Or.inr ⟨rfl, ⟨fun q => absurd q c1, fun _ => ⟨Or.inr ⟨rfl, (h2 c1)⟩, h⟩⟩⟩)⟩
theorem sg_342_33 {x3 : Int32} {s0 : Int32} {M : px_Mem} {Q : px_Po} (h1 : (s0 = 0) → px_T 0 342 308 [some (.ref 1000), some (.ref 0), some (.ref 56), some (.int x3)] [] M Q) (h2 : (s0 = 1) → px_T 0 342 371 [some (.ref 1000), some (.ref 0), some (.ref 56), some (.int x3)] [] M Q) (h3 : (s0 = 2) → px_T 0 342 394 [some (.ref 1000), some (.ref 0), some (.ref 56), some (.int x3)] [] M Q) (h4 : (s0 = 3) → px_T 0 342 407 [some (.ref 1000), some (.ref 0), some (.ref 56), some (.int x3)] [] M Q) (h5 : (s0 = 4) → px_T 0 342 430 [some (.ref 1000), some (.ref 0), some (.ref 56), some (.int x3)] [] M Q) (h6 : (s0 = 5) → px_T 0 342 463 [some (.ref 1000), some (.ref 0), some (.ref 56), some (.int x3)] [] M Q) (h7 : (s0 = 6) → px_T 0 342 486 [some (.ref 1000), some (.ref 0), some (.ref 56), some (.int x3)] [] M Q) (h8 : (s0 = 7) → px_T 0 342 509 [some (.ref 1000), some (.ref 0), some (.ref 56), some (.int x3)] [] M Q) (h9 : (s0 = 8) → px_T 0 342 532 [some (.ref 1000), some (.ref 0), some (.ref 56), some (.int x3)] [] M Q) (h10 : (s0 = 9) → px_T 0 342 565 [some (.ref 1000), some (.ref 0), some (.ref 56), some (.int x3)] [] M Q) (h11 : (s0 = 10) → px_T 0 342 598 [some (.ref 1000), some (.ref 0), some (.ref 56), some (.int x3)] [] M Q) (h12 : (s0 = 11) → px_T 0 342 631 [some (.ref 1000), some (.ref 0), some (.ref 56), some (.int x3)] [] M Q) (h13 : (s0 = 12) → px_T 0 342 664 [some (.ref 1000), some (.ref 0), some (.ref 56), some (.int x3)] [] M Q) (h14 : (s0 = 13) → px_T 0 342 697 [some (.ref 1000), some (.ref 0), some (.ref 56), some (.int x3)] [] M Q) (h15 : (s0 = 14) → px_T 0 342 730 [some (.ref 1000), some (.ref 0), some (.ref 56), some (.int x3)] [] M Q) (h16 : (s0 = 15) → px_T 0 342 753 [some (.ref 1000), some (.ref 0), some (.ref 56), some (.int x3)] [] M Q) (h17 : (s0 = 16) → px_T 0 342 776 [some (.ref 1000), some (.ref 0), some (.ref 56), some (.int x3)] [] M Q) (h18 : (s0 = 17) → px_T 0 342 799 [some (.ref 1000), some (.ref 0), some (.ref 56), some (.int x3)] [] M Q) (h19 : (s0 = 18) → px_T 0 342 842 [some (.ref 1000), some (.ref 0), some (.ref 56), some (.int x3)] [] M Q) (h20 : (s0 = 19) → px_T 0 342 875 [some (.ref 1000), some (.ref 0), some (.ref 56), some (.int x3)] [] M Q) (h21 : (s0 = 20) → px_T 0 342 908 [some (.ref 1000), some (.ref 0), some (.ref 56), some (.int x3)] [] M Q) (h22 : (s0 = 21) → px_T 0 342 941 [some (.ref 1000), some (.ref 0), some (.ref 56), some (.int x3)] [] M Q) (h23 : (s0 = 22) → px_T 0 342 964 [some (.ref 1000), some (.ref 0), some (.ref 56), some (.int x3)] [] M Q) (h24 : (s0 = 23) → px_T 0 342 997 [some (.ref 1000), some (.ref 0), some (.ref 56), some (.int x3)] [] M Q) (h25 : (s0 = 24) → px_T 0 342 1020 [some (.ref 1000), some (.ref 0), some (.ref 56), some (.int x3)] [] M Q) (h26 : (s0 = 25) → px_T 0 342 1063 [some (.ref 1000), some (.ref 0), some (.ref 56), some (.int x3)] [] M Q) (h27 : (s0 = 26) → px_T 0 342 1106 [some (.ref 1000), some (.ref 0), some (.ref 56), some (.int x3)] [] M Q) (h28 : (s0 = 27) → px_T 0 342 1139 [some (.ref 1000), some (.ref 0), some (.ref 56), some (.int x3)] [] M Q) (h29 : (s0 = 28) → px_T 0 342 1162 [some (.ref 1000), some (.ref 0), some (.ref 56), some (.int x3)] [] M Q) (h30 : (s0 = 29) → px_T 0 342 1175 [some (.ref 1000), some (.ref 0), some (.ref 56), some (.int x3)] [] M Q) (h31 : (s0 = 30) → px_T 0 342 1188 [some (.ref 1000), some (.ref 0), some (.ref 56), some (.int x3)] [] M Q) (h32 : (s0 = 31) → px_T 0 342 1221 [some (.ref 1000), some (.ref 0), some (.ref 56), some (.int x3)] [] M Q) (h33 : (s0 = 32) → px_T 0 342 1244 [some (.ref 1000), some (.ref 0), some (.ref 56), some (.int x3)] [] M Q) (h34 : (s0 = 33) → px_T 0 342 1267 [some (.ref 1000), some (.ref 0), some (.ref 56), some (.int x3)] [] M Q) (h35 : (s0 = 34) → px_T 0 342 1300 [some (.ref 1000), some (.ref 0), some (.ref 56), some (.int x3)] [] M Q) (h36 : (s0 = 35) → px_T 0 342 1323 [some (.ref 1000), some (.ref 0), some (.ref 56), some (.int x3)] [] M Q) (h37 : (s0 = 36) → px_T 0 342 1336 [some (.ref 1000), some (.ref 0), some (.ref 56), some (.int x3)] [] M Q) (h38 : (s0 = 37) → px_T 0 342 1379 [some (.ref 1000), some (.ref 0), some (.ref 56), some (.int x3)] [] M Q) (h39 : (s0 = 38) → px_T 0 342 1432 [some (.ref 1000), some (.ref 0), some (.ref 56), some (.int x3)] [] M Q) (h40 : (s0 = 39) → px_T 0 342 1475 [some (.ref 1000), some (.ref 0), some (.ref 56), some (.int x3)] [] M Q) (h41 : (s0 = 40) → px_T 0 342 1508 [some (.ref 1000), some (.ref 0), some (.ref 56), some (.int x3)] [] M Q) (h42 : (s0 = 41) → px_T 0 342 1521 [some (.ref 1000), some (.ref 0), some (.ref 56), some (.int x3)] [] M Q) (h43 : (s0 = 42) → px_T 0 342 1534 [some (.ref 1000), some (.ref 0), some (.ref 56), some (.int x3)] [] M Q) (h44 : (s0 = 43) → px_T 0 342 1557 [some (.ref 1000), some (.ref 0), some (.ref 56), some (.int x3)] [] M Q) (h45 : (s0 = 44) → px_T 0 342 1580 [some (.ref 1000), some (.ref 0), some (.ref 56), some (.int x3)] [] M Q) (h46 : (s0 = 45) → px_T 0 342 1603 [some (.ref 1000), some (.ref 0), some (.ref 56), some (.int x3)] [] M Q) (h47 : (s0 = 46) → px_T 0 342 1626 [some (.ref 1000), some (.ref 0), some (.ref 56), some (.int x3)] [] M Q) (h48 : (s0 = 47) → px_T 0 342 1649 [some (.ref 1000), some (.ref 0), some (.ref 56), some (.int x3)] [] M Q) (h49 : (s0 = 48) → px_T 0 342 1662 [some (.ref 1000), some (.ref 0), some (.ref 56), some (.int x3)] [] M Q) (h50 : (s0 = 49) → px_T 0 342 1685 [some (.ref 1000), some (.ref 0), some (.ref 56), some (.int x3)] [] M Q) (h51 : (s0 = 50) → px_T 0 342 1718 [some (.ref 1000), some (.ref 0), some (.ref 56), some (.int x3)] [] M Q) (h52 : (s0 = 51) → px_T 0 342 1751 [some (.ref 1000), some (.ref 0), some (.ref 56), some (.int x3)] [] M Q) (h53 : (s0 = 52) → px_T 0 342 1804 [some (.ref 1000), some (.ref 0), some (.ref 56), some (.int x3)] [] M Q) (h54 : (s0 = 53) → px_T 0 342 1848 [some (.ref 1000), some (.ref 0), some (.ref 56), some (.int x3)] [] M Q) (h55 : (s0 = 54) → px_T 0 342 1882 [some (.ref 1000), some (.ref 0), some (.ref 56), some (.int x3)] [] M Q) (h56 : (s0 = 55) → px_T 0 342 1935 [some (.ref 1000), some (.ref 0), some (.ref 56), some (.int x3)] [] M Q) (h57 : (s0 = 56) → px_T 0 342 1948 [some (.ref 1000), some (.ref 0), some (.ref 56), some (.int x3)] [] M Q) (h58 : (s0 = 57) → px_T 0 342 1961 [some (.ref 1000), some (.ref 0), some (.ref 56), some (.int x3)] [] M Q) (h59 : (s0 = 58) → px_T 0 342 1994 [some (.ref 1000), some (.ref 0), some (.ref 56), some (.int x3)] [] M Q) (h60 : (s0 = 59) → px_T 0 342 2037 [some (.ref 1000), some (.ref 0), some (.ref 56), some (.int x3)] [] M Q) (h61 : (s0 = 60) → px_T 0 342 2060 [some (.ref 1000), some (.ref 0), some (.ref 56), some (.int x3)] [] M Q) (h62 : (s0 = 61) → px_T 0 342 2083 [some (.ref 1000), some (.ref 0), some (.ref 56), some (.int x3)] [] M Q) (h63 : (s0 = 62) → px_T 0 342 2106 [some (.ref 1000), some (.ref 0), some (.ref 56), some (.int x3)] [] M Q) (h64 : (s0 = 63) → px_T 0 342 2149 [some (.ref 1000), some (.ref 0), some (.ref 56), some (.int x3)] [] M Q) (h65 : (s0 = 64) → px_T 0 342 2222 [some (.ref 1000), some (.ref 0), some (.ref 56), some (.int x3)] [] M Q) (h66 : (¬ s0 = 0) → (¬ s0 = 1) → (¬ s0 = 2) → (¬ s0 = 3) → (¬ s0 = 4) → (¬ s0 = 5) → (¬ s0 = 6) → (¬ s0 = 7) → (¬ s0 = 8) → (¬ s0 = 9) → (¬ s0 = 10) → (¬ s0 = 11) → (¬ s0 = 12) → (¬ s0 = 13) → (¬ s0 = 14) → (¬ s0 = 15) → (¬ s0 = 16) → (¬ s0 = 17) → (¬ s0 = 18) → (¬ s0 = 19) → (¬ s0 = 20) → (¬ s0 = 21) → (¬ s0 = 22) → (¬ s0 = 23) → (¬ s0 = 24) → (¬ s0 = 25) → (¬ s0 = 26) → (¬ s0 = 27) → (¬ s0 = 28) → (¬ s0 = 29) → (¬ s0 = 30) → (¬ s0 = 31) → (¬ s0 = 32) → (¬ s0 = 33) → (¬ s0 = 34) → (¬ s0 = 35) → (¬ s0 = 36) → (¬ s0 = 37) → (¬ s0 = 38) → (¬ s0 = 39) → (¬ s0 = 40) → (¬ s0 = 41) → (¬ s0 = 42) → (¬ s0 = 43) → (¬ s0 = 44) → (¬ s0 = 45) → (¬ s0 = 46) → (¬ s0 = 47) → (¬ s0 = 48) → (¬ s0 = 49) → (¬ s0 = 50) → (¬ s0 = 51) → (¬ s0 = 52) → (¬ s0 = 53) → (¬ s0 = 54) → (¬ s0 = 55) → (¬ s0 = 56) → (¬ s0 = 57) → (¬ s0 = 58) → (¬ s0 = 59) → (¬ s0 = 60) → (¬ s0 = 61) → (¬ s0 = 62) → (¬ s0 = 63) → (¬ s0 = 64) → px_T 0 342 2285 [some (.ref 1000), some (.ref 0), some (.ref 56), some (.int x3)] [] M Q) : px_T 0 342 33 [some (.ref 1000), some (.ref 0), some (.ref 56), some (.int x3)] [.int s0] M Q := by
  by_cases c1 : s0 = 0
  · exact px_T_sw rfl (by rw [c1]; rfl) (h1 c1)
  by_cases c2 : s0 = 1
  · exact px_T_sw rfl (by rw [c2]; rfl) (h2 c2)
  by_cases c3 : s0 = 2
  · exact px_T_sw rfl (by rw [c3]; rfl) (h3 c3)
  by_cases c4 : s0 = 3
  · exact px_T_sw rfl (by rw [c4]; rfl) (h4 c4)
  by_cases c5 : s0 = 4
  · exact px_T_sw rfl (by rw [c5]; rfl) (h5 c5)
  by_cases c6 : s0 = 5
  · exact px_T_sw rfl (by rw [c6]; rfl) (h6 c6)
  by_cases c7 : s0 = 6
  · exact px_T_sw rfl (by rw [c7]; rfl) (h7 c7)
  by_cases c8 : s0 = 7
  · exact px_T_sw rfl (by rw [c8]; rfl) (h8 c8)
  by_cases c9 : s0 = 8
  · exact px_T_sw rfl (by rw [c9]; rfl) (h9 c9)
  by_cases c10 : s0 = 9
  · exact px_T_sw rfl (by rw [c10]; rfl) (h10 c10)
  by_cases c11 : s0 = 10
  · exact px_T_sw rfl (by rw [c11]; rfl) (h11 c11)
  by_cases c12 : s0 = 11
  · exact px_T_sw rfl (by rw [c12]; rfl) (h12 c12)
  by_cases c13 : s0 = 12
  · exact px_T_sw rfl (by rw [c13]; rfl) (h13 c13)
  by_cases c14 : s0 = 13
  · exact px_T_sw rfl (by rw [c14]; rfl) (h14 c14)
  by_cases c15 : s0 = 14
  · exact px_T_sw rfl (by rw [c15]; rfl) (h15 c15)
  by_cases c16 : s0 = 15
  · exact px_T_sw rfl (by rw [c16]; rfl) (h16 c16)
  by_cases c17 : s0 = 16
  · exact px_T_sw rfl (by rw [c17]; rfl) (h17 c17)
  by_cases c18 : s0 = 17
  · exact px_T_sw rfl (by rw [c18]; rfl) (h18 c18)
  by_cases c19 : s0 = 18
  · exact px_T_sw rfl (by rw [c19]; rfl) (h19 c19)
  by_cases c20 : s0 = 19
  · exact px_T_sw rfl (by rw [c20]; rfl) (h20 c20)
  by_cases c21 : s0 = 20
  · exact px_T_sw rfl (by rw [c21]; rfl) (h21 c21)
  by_cases c22 : s0 = 21
  · exact px_T_sw rfl (by rw [c22]; rfl) (h22 c22)
  by_cases c23 : s0 = 22
  · exact px_T_sw rfl (by rw [c23]; rfl) (h23 c23)
  by_cases c24 : s0 = 23
  · exact px_T_sw rfl (by rw [c24]; rfl) (h24 c24)
  by_cases c25 : s0 = 24
  · exact px_T_sw rfl (by rw [c25]; rfl) (h25 c25)
  by_cases c26 : s0 = 25
  · exact px_T_sw rfl (by rw [c26]; rfl) (h26 c26)
  by_cases c27 : s0 = 26
  · exact px_T_sw rfl (by rw [c27]; rfl) (h27 c27)
  by_cases c28 : s0 = 27
  · exact px_T_sw rfl (by rw [c28]; rfl) (h28 c28)
  by_cases c29 : s0 = 28
  · exact px_T_sw rfl (by rw [c29]; rfl) (h29 c29)
  by_cases c30 : s0 = 29
  · exact px_T_sw rfl (by rw [c30]; rfl) (h30 c30)
  by_cases c31 : s0 = 30
  · exact px_T_sw rfl (by rw [c31]; rfl) (h31 c31)
  by_cases c32 : s0 = 31
  · exact px_T_sw rfl (by rw [c32]; rfl) (h32 c32)
  by_cases c33 : s0 = 32
  · exact px_T_sw rfl (by rw [c33]; rfl) (h33 c33)
  by_cases c34 : s0 = 33
  · exact px_T_sw rfl (by rw [c34]; rfl) (h34 c34)
  by_cases c35 : s0 = 34
  · exact px_T_sw rfl (by rw [c35]; rfl) (h35 c35)
  by_cases c36 : s0 = 35
  · exact px_T_sw rfl (by rw [c36]; rfl) (h36 c36)
  by_cases c37 : s0 = 36
  · exact px_T_sw rfl (by rw [c37]; rfl) (h37 c37)
  by_cases c38 : s0 = 37
  · exact px_T_sw rfl (by rw [c38]; rfl) (h38 c38)
  by_cases c39 : s0 = 38
  · exact px_T_sw rfl (by rw [c39]; rfl) (h39 c39)
  by_cases c40 : s0 = 39
  · exact px_T_sw rfl (by rw [c40]; rfl) (h40 c40)
  by_cases c41 : s0 = 40
  · exact px_T_sw rfl (by rw [c41]; rfl) (h41 c41)
  by_cases c42 : s0 = 41
  · exact px_T_sw rfl (by rw [c42]; rfl) (h42 c42)
  by_cases c43 : s0 = 42
  · exact px_T_sw rfl (by rw [c43]; rfl) (h43 c43)
  by_cases c44 : s0 = 43
  · exact px_T_sw rfl (by rw [c44]; rfl) (h44 c44)
  by_cases c45 : s0 = 44
  · exact px_T_sw rfl (by rw [c45]; rfl) (h45 c45)
  by_cases c46 : s0 = 45
  · exact px_T_sw rfl (by rw [c46]; rfl) (h46 c46)
  by_cases c47 : s0 = 46
  · exact px_T_sw rfl (by rw [c47]; rfl) (h47 c47)
  by_cases c48 : s0 = 47
  · exact px_T_sw rfl (by rw [c48]; rfl) (h48 c48)
  by_cases c49 : s0 = 48
  · exact px_T_sw rfl (by rw [c49]; rfl) (h49 c49)
  by_cases c50 : s0 = 49
  · exact px_T_sw rfl (by rw [c50]; rfl) (h50 c50)
  by_cases c51 : s0 = 50
  · exact px_T_sw rfl (by rw [c51]; rfl) (h51 c51)
  by_cases c52 : s0 = 51
  · exact px_T_sw rfl (by rw [c52]; rfl) (h52 c52)
  by_cases c53 : s0 = 52
  · exact px_T_sw rfl (by rw [c53]; rfl) (h53 c53)
  by_cases c54 : s0 = 53
  · exact px_T_sw rfl (by rw [c54]; rfl) (h54 c54)
  by_cases c55 : s0 = 54
  · exact px_T_sw rfl (by rw [c55]; rfl) (h55 c55)
  by_cases c56 : s0 = 55
  · exact px_T_sw rfl (by rw [c56]; rfl) (h56 c56)
  by_cases c57 : s0 = 56
  · exact px_T_sw rfl (by rw [c57]; rfl) (h57 c57)
  by_cases c58 : s0 = 57
  · exact px_T_sw rfl (by rw [c58]; rfl) (h58 c58)
  by_cases c59 : s0 = 58
  · exact px_T_sw rfl (by rw [c59]; rfl) (h59 c59)
  by_cases c60 : s0 = 59
  · exact px_T_sw rfl (by rw [c60]; rfl) (h60 c60)
  by_cases c61 : s0 = 60
  · exact px_T_sw rfl (by rw [c61]; rfl) (h61 c61)
  by_cases c62 : s0 = 61
  · exact px_T_sw rfl (by rw [c62]; rfl) (h62 c62)
  by_cases c63 : s0 = 62
  · exact px_T_sw rfl (by rw [c63]; rfl) (h63 c63)
  by_cases c64 : s0 = 63
  · exact px_T_sw rfl (by rw [c64]; rfl) (h64 c64)
  by_cases c65 : s0 = 64
  · exact px_T_sw rfl (by rw [c65]; rfl) (h65 c65)
  exact px_T_sw rfl (px_sw_o (N := 65) (by decide) (fun v hv => match v, hv with | 0, _ => c1 | 1, _ => c2 | 2, _ => c3 | 3, _ => c4 | 4, _ => c5 | 5, _ => c6 | 6, _ => c7 | 7, _ => c8 | 8, _ => c9 | 9, _ => c10 | 10, _ => c11 | 11, _ => c12 | 12, _ => c13 | 13, _ => c14 | 14, _ => c15 | 15, _ => c16 | 16, _ => c17 | 17, _ => c18 | 18, _ => c19 | 19, _ => c20 | 20, _ => c21 | 21, _ => c22 | 22, _ => c23 | 23, _ => c24 | 24, _ => c25 | 25, _ => c26 | 26, _ => c27 | 27, _ => c28 | 28, _ => c29 | 29, _ => c30 | 30, _ => c31 | 31, _ => c32 | 32, _ => c33 | 33, _ => c34 | 34, _ => c35 | 35, _ => c36 | 36, _ => c37 | 37, _ => c38 | 38, _ => c39 | 39, _ => c40 | 40, _ => c41 | 41, _ => c42 | 42, _ => c43 | 43, _ => c44 | 44, _ => c45 | 45, _ => c46 | 46, _ => c47 | 47, _ => c48 | 48, _ => c49 | 49, _ => c50 | 50, _ => c51 | 51, _ => c52 | 52, _ => c53 | 53, _ => c54 | 54, _ => c55 | 55, _ => c56 | 56, _ => c57 | 57, _ => c58 | 58, _ => c59 | 59, _ => c60 | 60, _ => c61 | 61, _ => c62 | 62, _ => c63 | 63, _ => c64 | 64, _ => c65 | n + 65, h => absurd h (by omega))) (h66 c1 c2 c3 c4 c5 c6 c7 c8 c9 c10 c11 c12 c13 c14 c15 c16 c17 c18 c19 c20 c21 c22 c23 c24 c25 c26 c27 c28 c29 c30 c31 c32 c33 c34 c35 c36 c37 c38 c39 c40 c41 c42 c43 c44 c45 c46 c47 c48 c49 c50 c51 c52 c53 c54 c55 c56 c57 c58 c59 c60 c61 c62 c63 c64 c65)
theorem sg_342_308 {x3 : Int32} {M : px_Mem} {Q : px_Po} (h1 : vp_in (x3 + 1) (M.1 999 0).toNatClampNeg) (h2 : vp_in (x3 + 2) (M.1 999 0).toNatClampNeg) (h3 : vp_in (x3 + 3) (M.1 999 0).toNatClampNeg) (h4 : vp_in (x3 + 4) (M.1 999 0).toNatClampNeg) (h5 : vp_in (x3 + 5) (M.1 999 0).toNatClampNeg) (h6 : px_T 0 86 0 [some (.ref 0), some (.int (M.1 1000 ((x3 + 1).toNatClampNeg))), some (.int (M.1 1000 ((x3 + 2).toNatClampNeg))), some (.int (M.1 1000 ((x3 + 3).toNatClampNeg))), some (.int (M.1 1000 ((x3 + 4).toNatClampNeg))), some (.int (M.1 1000 ((x3 + 5).toNatClampNeg)))] [] M (fun r M1 => px_T 0 342 337 [some (.ref 1000), some (.ref 0), some (.ref 56), some (.int x3)] (r.toList ++ []) M1 Q)) : px_T 0 342 308 [some (.ref 1000), some (.ref 0), some (.ref 56), some (.int x3)] [] M Q := by
  obtain ⟨n, h⟩ := px_T_cl (k := 342) (pc := 334) (y := 86) (st := [.int (M.1 1000 ((x3 + 5).toNatClampNeg)), .int (M.1 1000 ((x3 + 4).toNatClampNeg)), .int (M.1 1000 ((x3 + 3).toNatClampNeg)), .int (M.1 1000 ((x3 + 2).toNatClampNeg)), .int (M.1 1000 ((x3 + 1).toNatClampNeg)), .ref 0]) rfl (h6)
  exact ⟨n + 27, ⟨Or.inr ⟨rfl, h1⟩, ⟨Or.inr ⟨rfl, h2⟩, ⟨Or.inr ⟨rfl, h3⟩, ⟨Or.inr ⟨rfl, h4⟩, ⟨Or.inr ⟨rfl, h5⟩, ⟨rfl, h⟩⟩⟩⟩⟩⟩⟩
theorem sg_342_371 {x3 : Int32} {M : px_Mem} {Q : px_Po} (h1 : vp_in (x3 + 1) (M.1 999 0).toNatClampNeg) (h2 : px_T 0 87 0 [some (.ref 0), some (.int (M.1 1000 ((x3 + 1).toNatClampNeg)))] [] M (fun r M1 => px_T 0 342 380 [some (.ref 1000), some (.ref 0), some (.ref 56), some (.int x3)] (r.toList ++ []) M1 Q)) : px_T 0 342 371 [some (.ref 1000), some (.ref 0), some (.ref 56), some (.int x3)] [] M Q := by
  obtain ⟨n, h⟩ := px_T_cl (k := 342) (pc := 377) (y := 87) (st := [.int (M.1 1000 ((x3 + 1).toNatClampNeg)), .ref 0]) rfl (h2)
  exact ⟨n + 7, ⟨Or.inr ⟨rfl, h1⟩, ⟨rfl, h⟩⟩⟩
theorem sg_342_394 {x3 : Int32} {M : px_Mem} {Q : px_Po} (h1 : px_T 0 88 0 [some (.ref 0)] [] M (fun r M1 => px_T 0 342 398 [some (.ref 1000), some (.ref 0), some (.ref 56), some (.int x3)] (r.toList ++ []) M1 Q)) : px_T 0 342 394 [some (.ref 1000), some (.ref 0), some (.ref 56), some (.int x3)] [] M Q := by
  obtain ⟨n, h⟩ := px_T_cl (k := 342) (pc := 395) (y := 88) (st := [.ref 0]) rfl (h1)
  exact ⟨n + 2, ⟨rfl, h⟩⟩
theorem sg_342_407 {x3 : Int32} {M : px_Mem} {Q : px_Po} (h1 : vp_in (x3 + 1) (M.1 999 0).toNatClampNeg) (h2 : px_T 0 89 0 [some (.ref 0), some (.int (M.1 1000 ((x3 + 1).toNatClampNeg)))] [] M (fun r M1 => px_T 0 342 416 [some (.ref 1000), some (.ref 0), some (.ref 56), some (.int x3)] (r.toList ++ []) M1 Q)) : px_T 0 342 407 [some (.ref 1000), some (.ref 0), some (.ref 56), some (.int x3)] [] M Q := by
  obtain ⟨n, h⟩ := px_T_cl (k := 342) (pc := 413) (y := 89) (st := [.int (M.1 1000 ((x3 + 1).toNatClampNeg)), .ref 0]) rfl (h2)
  exact ⟨n + 7, ⟨Or.inr ⟨rfl, h1⟩, ⟨rfl, h⟩⟩⟩
theorem sg_342_430 {x3 : Int32} {M : px_Mem} {Q : px_Po} (h1 : vp_in (x3 + 1) (M.1 999 0).toNatClampNeg) (h2 : vp_in (x3 + 2) (M.1 999 0).toNatClampNeg) (h3 : px_T 0 90 0 [some (.ref 0), some (.int (M.1 1000 ((x3 + 1).toNatClampNeg))), some (.int (M.1 1000 ((x3 + 2).toNatClampNeg))), none, none] [] M (fun r M1 => px_T 0 342 444 [some (.ref 1000), some (.ref 0), some (.ref 56), some (.int x3)] (r.toList ++ []) M1 Q)) : px_T 0 342 430 [some (.ref 1000), some (.ref 0), some (.ref 56), some (.int x3)] [] M Q := by
  obtain ⟨n, h⟩ := px_T_cl (k := 342) (pc := 441) (y := 90) (st := [.int (M.1 1000 ((x3 + 2).toNatClampNeg)), .int (M.1 1000 ((x3 + 1).toNatClampNeg)), .ref 0]) rfl (h3)
  exact ⟨n + 12, ⟨Or.inr ⟨rfl, h1⟩, ⟨Or.inr ⟨rfl, h2⟩, ⟨rfl, h⟩⟩⟩⟩
theorem sg_342_463 {x3 : Int32} {M : px_Mem} {Q : px_Po} (h1 : vp_in (x3 + 1) (M.1 999 0).toNatClampNeg) (h2 : px_T 0 91 0 [some (.ref 0), some (.int (M.1 1000 ((x3 + 1).toNatClampNeg)))] [] M (fun r M1 => px_T 0 342 472 [some (.ref 1000), some (.ref 0), some (.ref 56), some (.int x3)] (r.toList ++ []) M1 Q)) : px_T 0 342 463 [some (.ref 1000), some (.ref 0), some (.ref 56), some (.int x3)] [] M Q := by
  obtain ⟨n, h⟩ := px_T_cl (k := 342) (pc := 469) (y := 91) (st := [.int (M.1 1000 ((x3 + 1).toNatClampNeg)), .ref 0]) rfl (h2)
  exact ⟨n + 7, ⟨Or.inr ⟨rfl, h1⟩, ⟨rfl, h⟩⟩⟩
theorem sg_342_486 {x3 : Int32} {M : px_Mem} {Q : px_Po} (h1 : vp_in (x3 + 1) (M.1 999 0).toNatClampNeg) (h2 : px_T 0 92 0 [some (.ref 0), some (.int (M.1 1000 ((x3 + 1).toNatClampNeg)))] [] M (fun r M1 => px_T 0 342 495 [some (.ref 1000), some (.ref 0), some (.ref 56), some (.int x3)] (r.toList ++ []) M1 Q)) : px_T 0 342 486 [some (.ref 1000), some (.ref 0), some (.ref 56), some (.int x3)] [] M Q := by
  obtain ⟨n, h⟩ := px_T_cl (k := 342) (pc := 492) (y := 92) (st := [.int (M.1 1000 ((x3 + 1).toNatClampNeg)), .ref 0]) rfl (h2)
  exact ⟨n + 7, ⟨Or.inr ⟨rfl, h1⟩, ⟨rfl, h⟩⟩⟩
theorem sg_342_509 {x3 : Int32} {M : px_Mem} {Q : px_Po} (h1 : vp_in (x3 + 1) (M.1 999 0).toNatClampNeg) (h2 : px_T 0 93 0 [some (.ref 0), some (.int (M.1 1000 ((x3 + 1).toNatClampNeg)))] [] M (fun r M1 => px_T 0 342 518 [some (.ref 1000), some (.ref 0), some (.ref 56), some (.int x3)] (r.toList ++ []) M1 Q)) : px_T 0 342 509 [some (.ref 1000), some (.ref 0), some (.ref 56), some (.int x3)] [] M Q := by
  obtain ⟨n, h⟩ := px_T_cl (k := 342) (pc := 515) (y := 93) (st := [.int (M.1 1000 ((x3 + 1).toNatClampNeg)), .ref 0]) rfl (h2)
  exact ⟨n + 7, ⟨Or.inr ⟨rfl, h1⟩, ⟨rfl, h⟩⟩⟩
theorem sg_342_532 {x3 : Int32} {M : px_Mem} {Q : px_Po} (h1 : vp_in (x3 + 1) (M.1 999 0).toNatClampNeg) (h2 : vp_in (x3 + 2) (M.1 999 0).toNatClampNeg) (h3 : px_T 0 94 0 [some (.ref 0), some (.int (M.1 1000 ((x3 + 1).toNatClampNeg))), some (.int (M.1 1000 ((x3 + 2).toNatClampNeg)))] [] M (fun r M1 => px_T 0 342 546 [some (.ref 1000), some (.ref 0), some (.ref 56), some (.int x3)] (r.toList ++ []) M1 Q)) : px_T 0 342 532 [some (.ref 1000), some (.ref 0), some (.ref 56), some (.int x3)] [] M Q := by
  obtain ⟨n, h⟩ := px_T_cl (k := 342) (pc := 543) (y := 94) (st := [.int (M.1 1000 ((x3 + 2).toNatClampNeg)), .int (M.1 1000 ((x3 + 1).toNatClampNeg)), .ref 0]) rfl (h3)
  exact ⟨n + 12, ⟨Or.inr ⟨rfl, h1⟩, ⟨Or.inr ⟨rfl, h2⟩, ⟨rfl, h⟩⟩⟩⟩
theorem sg_342_565 {x3 : Int32} {M : px_Mem} {Q : px_Po} (h1 : vp_in (x3 + 1) (M.1 999 0).toNatClampNeg) (h2 : vp_in (x3 + 2) (M.1 999 0).toNatClampNeg) (h3 : px_T 0 95 0 [some (.ref 0), some (.int (M.1 1000 ((x3 + 1).toNatClampNeg))), some (.int (M.1 1000 ((x3 + 2).toNatClampNeg))), none] [] M (fun r M1 => px_T 0 342 579 [some (.ref 1000), some (.ref 0), some (.ref 56), some (.int x3)] (r.toList ++ []) M1 Q)) : px_T 0 342 565 [some (.ref 1000), some (.ref 0), some (.ref 56), some (.int x3)] [] M Q := by
  obtain ⟨n, h⟩ := px_T_cl (k := 342) (pc := 576) (y := 95) (st := [.int (M.1 1000 ((x3 + 2).toNatClampNeg)), .int (M.1 1000 ((x3 + 1).toNatClampNeg)), .ref 0]) rfl (h3)
  exact ⟨n + 12, ⟨Or.inr ⟨rfl, h1⟩, ⟨Or.inr ⟨rfl, h2⟩, ⟨rfl, h⟩⟩⟩⟩
theorem sg_342_598 {x3 : Int32} {M : px_Mem} {Q : px_Po} (h1 : vp_in (x3 + 1) (M.1 999 0).toNatClampNeg) (h2 : vp_in (x3 + 2) (M.1 999 0).toNatClampNeg) (h3 : px_T 0 96 0 [some (.ref 0), some (.int (M.1 1000 ((x3 + 1).toNatClampNeg))), some (.int (M.1 1000 ((x3 + 2).toNatClampNeg))), none, none, none] [] M (fun r M1 => px_T 0 342 612 [some (.ref 1000), some (.ref 0), some (.ref 56), some (.int x3)] (r.toList ++ []) M1 Q)) : px_T 0 342 598 [some (.ref 1000), some (.ref 0), some (.ref 56), some (.int x3)] [] M Q := by
  obtain ⟨n, h⟩ := px_T_cl (k := 342) (pc := 609) (y := 96) (st := [.int (M.1 1000 ((x3 + 2).toNatClampNeg)), .int (M.1 1000 ((x3 + 1).toNatClampNeg)), .ref 0]) rfl (h3)
  exact ⟨n + 12, ⟨Or.inr ⟨rfl, h1⟩, ⟨Or.inr ⟨rfl, h2⟩, ⟨rfl, h⟩⟩⟩⟩
theorem sg_342_631 {x3 : Int32} {M : px_Mem} {Q : px_Po} (h1 : vp_in (x3 + 1) (M.1 999 0).toNatClampNeg) (h2 : vp_in (x3 + 2) (M.1 999 0).toNatClampNeg) (h3 : px_T 0 97 0 [some (.ref 0), some (.int (M.1 1000 ((x3 + 1).toNatClampNeg))), some (.int (M.1 1000 ((x3 + 2).toNatClampNeg)))] [] M (fun r M1 => px_T 0 342 645 [some (.ref 1000), some (.ref 0), some (.ref 56), some (.int x3)] (r.toList ++ []) M1 Q)) : px_T 0 342 631 [some (.ref 1000), some (.ref 0), some (.ref 56), some (.int x3)] [] M Q := by
  obtain ⟨n, h⟩ := px_T_cl (k := 342) (pc := 642) (y := 97) (st := [.int (M.1 1000 ((x3 + 2).toNatClampNeg)), .int (M.1 1000 ((x3 + 1).toNatClampNeg)), .ref 0]) rfl (h3)
  exact ⟨n + 12, ⟨Or.inr ⟨rfl, h1⟩, ⟨Or.inr ⟨rfl, h2⟩, ⟨rfl, h⟩⟩⟩⟩
theorem sg_342_664 {x3 : Int32} {M : px_Mem} {Q : px_Po} (h1 : vp_in (x3 + 1) (M.1 999 0).toNatClampNeg) (h2 : vp_in (x3 + 2) (M.1 999 0).toNatClampNeg) (h3 : px_T 0 98 0 [some (.ref 0), some (.int (M.1 1000 ((x3 + 1).toNatClampNeg))), some (.int (M.1 1000 ((x3 + 2).toNatClampNeg))), none] [] M (fun r M1 => px_T 0 342 678 [some (.ref 1000), some (.ref 0), some (.ref 56), some (.int x3)] (r.toList ++ []) M1 Q)) : px_T 0 342 664 [some (.ref 1000), some (.ref 0), some (.ref 56), some (.int x3)] [] M Q := by
  obtain ⟨n, h⟩ := px_T_cl (k := 342) (pc := 675) (y := 98) (st := [.int (M.1 1000 ((x3 + 2).toNatClampNeg)), .int (M.1 1000 ((x3 + 1).toNatClampNeg)), .ref 0]) rfl (h3)
  exact ⟨n + 12, ⟨Or.inr ⟨rfl, h1⟩, ⟨Or.inr ⟨rfl, h2⟩, ⟨rfl, h⟩⟩⟩⟩
theorem sg_342_697 {x3 : Int32} {M : px_Mem} {Q : px_Po} (h1 : vp_in (x3 + 1) (M.1 999 0).toNatClampNeg) (h2 : vp_in (x3 + 2) (M.1 999 0).toNatClampNeg) (h3 : px_T 0 99 0 [some (.ref 0), some (.int (M.1 1000 ((x3 + 1).toNatClampNeg))), some (.int (M.1 1000 ((x3 + 2).toNatClampNeg))), none, none, none] [] M (fun r M1 => px_T 0 342 711 [some (.ref 1000), some (.ref 0), some (.ref 56), some (.int x3)] (r.toList ++ []) M1 Q)) : px_T 0 342 697 [some (.ref 1000), some (.ref 0), some (.ref 56), some (.int x3)] [] M Q := by
  obtain ⟨n, h⟩ := px_T_cl (k := 342) (pc := 708) (y := 99) (st := [.int (M.1 1000 ((x3 + 2).toNatClampNeg)), .int (M.1 1000 ((x3 + 1).toNatClampNeg)), .ref 0]) rfl (h3)
  exact ⟨n + 12, ⟨Or.inr ⟨rfl, h1⟩, ⟨Or.inr ⟨rfl, h2⟩, ⟨rfl, h⟩⟩⟩⟩
theorem sg_342_730 {x3 : Int32} {M : px_Mem} {Q : px_Po} (h1 : vp_in (x3 + 1) (M.1 999 0).toNatClampNeg) (h2 : px_T 0 100 0 [some (.ref 0), some (.int (M.1 1000 ((x3 + 1).toNatClampNeg))), none, none, none] [] M (fun r M1 => px_T 0 342 739 [some (.ref 1000), some (.ref 0), some (.ref 56), some (.int x3)] (r.toList ++ []) M1 Q)) : px_T 0 342 730 [some (.ref 1000), some (.ref 0), some (.ref 56), some (.int x3)] [] M Q := by
  obtain ⟨n, h⟩ := px_T_cl (k := 342) (pc := 736) (y := 100) (st := [.int (M.1 1000 ((x3 + 1).toNatClampNeg)), .ref 0]) rfl (h2)
  exact ⟨n + 7, ⟨Or.inr ⟨rfl, h1⟩, ⟨rfl, h⟩⟩⟩
theorem sg_342_753 {x3 : Int32} {M : px_Mem} {Q : px_Po} (h1 : vp_in (x3 + 1) (M.1 999 0).toNatClampNeg) (h2 : px_T 0 101 0 [some (.ref 0), some (.int (M.1 1000 ((x3 + 1).toNatClampNeg)))] [] M (fun r M1 => px_T 0 342 762 [some (.ref 1000), some (.ref 0), some (.ref 56), some (.int x3)] (r.toList ++ []) M1 Q)) : px_T 0 342 753 [some (.ref 1000), some (.ref 0), some (.ref 56), some (.int x3)] [] M Q := by
  obtain ⟨n, h⟩ := px_T_cl (k := 342) (pc := 759) (y := 101) (st := [.int (M.1 1000 ((x3 + 1).toNatClampNeg)), .ref 0]) rfl (h2)
  exact ⟨n + 7, ⟨Or.inr ⟨rfl, h1⟩, ⟨rfl, h⟩⟩⟩
theorem sg_342_776 {x3 : Int32} {M : px_Mem} {Q : px_Po} (h1 : vp_in (x3 + 1) (M.1 999 0).toNatClampNeg) (h2 : px_T 0 102 0 [some (.ref 0), some (.int (M.1 1000 ((x3 + 1).toNatClampNeg))), none] [] M (fun r M1 => px_T 0 342 785 [some (.ref 1000), some (.ref 0), some (.ref 56), some (.int x3)] (r.toList ++ []) M1 Q)) : px_T 0 342 776 [some (.ref 1000), some (.ref 0), some (.ref 56), some (.int x3)] [] M Q := by
  obtain ⟨n, h⟩ := px_T_cl (k := 342) (pc := 782) (y := 102) (st := [.int (M.1 1000 ((x3 + 1).toNatClampNeg)), .ref 0]) rfl (h2)
  exact ⟨n + 7, ⟨Or.inr ⟨rfl, h1⟩, ⟨rfl, h⟩⟩⟩
theorem sg_342_799 {x3 : Int32} {M : px_Mem} {Q : px_Po} (h1 : vp_in (x3 + 1) (M.1 999 0).toNatClampNeg) (h2 : vp_in (x3 + 2) (M.1 999 0).toNatClampNeg) (h3 : vp_in (x3 + 3) (M.1 999 0).toNatClampNeg) (h4 : px_T 0 103 0 [some (.ref 0), some (.int (M.1 1000 ((x3 + 1).toNatClampNeg))), some (.int (M.1 1000 ((x3 + 2).toNatClampNeg))), some (.int (M.1 1000 ((x3 + 3).toNatClampNeg)))] [] M (fun r M1 => px_T 0 342 818 [some (.ref 1000), some (.ref 0), some (.ref 56), some (.int x3)] (r.toList ++ []) M1 Q)) : px_T 0 342 799 [some (.ref 1000), some (.ref 0), some (.ref 56), some (.int x3)] [] M Q := by
  obtain ⟨n, h⟩ := px_T_cl (k := 342) (pc := 815) (y := 103) (st := [.int (M.1 1000 ((x3 + 3).toNatClampNeg)), .int (M.1 1000 ((x3 + 2).toNatClampNeg)), .int (M.1 1000 ((x3 + 1).toNatClampNeg)), .ref 0]) rfl (h4)
  exact ⟨n + 17, ⟨Or.inr ⟨rfl, h1⟩, ⟨Or.inr ⟨rfl, h2⟩, ⟨Or.inr ⟨rfl, h3⟩, ⟨rfl, h⟩⟩⟩⟩⟩
theorem sg_342_842 {x3 : Int32} {M : px_Mem} {Q : px_Po} (h1 : vp_in (x3 + 1) (M.1 999 0).toNatClampNeg) (h2 : vp_in (x3 + 2) (M.1 999 0).toNatClampNeg) (h3 : px_T 0 104 0 [some (.ref 0), some (.int (M.1 1000 ((x3 + 1).toNatClampNeg))), some (.int (M.1 1000 ((x3 + 2).toNatClampNeg))), none, none, none] [] M (fun r M1 => px_T 0 342 856 [some (.ref 1000), some (.ref 0), some (.ref 56), some (.int x3)] (r.toList ++ []) M1 Q)) : px_T 0 342 842 [some (.ref 1000), some (.ref 0), some (.ref 56), some (.int x3)] [] M Q := by
  obtain ⟨n, h⟩ := px_T_cl (k := 342) (pc := 853) (y := 104) (st := [.int (M.1 1000 ((x3 + 2).toNatClampNeg)), .int (M.1 1000 ((x3 + 1).toNatClampNeg)), .ref 0]) rfl (h3)
  exact ⟨n + 12, ⟨Or.inr ⟨rfl, h1⟩, ⟨Or.inr ⟨rfl, h2⟩, ⟨rfl, h⟩⟩⟩⟩
theorem sg_342_875 {x3 : Int32} {M : px_Mem} {Q : px_Po} (h1 : vp_in (x3 + 1) (M.1 999 0).toNatClampNeg) (h2 : vp_in (x3 + 2) (M.1 999 0).toNatClampNeg) (h3 : px_T 0 105 0 [some (.ref 0), some (.int (M.1 1000 ((x3 + 1).toNatClampNeg))), some (.int (M.1 1000 ((x3 + 2).toNatClampNeg)))] [] M (fun r M1 => px_T 0 342 889 [some (.ref 1000), some (.ref 0), some (.ref 56), some (.int x3)] (r.toList ++ []) M1 Q)) : px_T 0 342 875 [some (.ref 1000), some (.ref 0), some (.ref 56), some (.int x3)] [] M Q := by
  obtain ⟨n, h⟩ := px_T_cl (k := 342) (pc := 886) (y := 105) (st := [.int (M.1 1000 ((x3 + 2).toNatClampNeg)), .int (M.1 1000 ((x3 + 1).toNatClampNeg)), .ref 0]) rfl (h3)
  exact ⟨n + 12, ⟨Or.inr ⟨rfl, h1⟩, ⟨Or.inr ⟨rfl, h2⟩, ⟨rfl, h⟩⟩⟩⟩
theorem sg_342_908 {x3 : Int32} {M : px_Mem} {Q : px_Po} (h1 : vp_in (x3 + 1) (M.1 999 0).toNatClampNeg) (h2 : vp_in (x3 + 2) (M.1 999 0).toNatClampNeg) (h3 : px_T 0 106 0 [some (.ref 0), some (.int (M.1 1000 ((x3 + 1).toNatClampNeg))), some (.int (M.1 1000 ((x3 + 2).toNatClampNeg))), none] [] M (fun r M1 => px_T 0 342 922 [some (.ref 1000), some (.ref 0), some (.ref 56), some (.int x3)] (r.toList ++ []) M1 Q)) : px_T 0 342 908 [some (.ref 1000), some (.ref 0), some (.ref 56), some (.int x3)] [] M Q := by
  obtain ⟨n, h⟩ := px_T_cl (k := 342) (pc := 919) (y := 106) (st := [.int (M.1 1000 ((x3 + 2).toNatClampNeg)), .int (M.1 1000 ((x3 + 1).toNatClampNeg)), .ref 0]) rfl (h3)
  exact ⟨n + 12, ⟨Or.inr ⟨rfl, h1⟩, ⟨Or.inr ⟨rfl, h2⟩, ⟨rfl, h⟩⟩⟩⟩
theorem sg_342_941 {x3 : Int32} {M : px_Mem} {Q : px_Po} (h1 : vp_in (x3 + 1) (M.1 999 0).toNatClampNeg) (h2 : px_T 0 107 0 [some (.ref 0), some (.int (M.1 1000 ((x3 + 1).toNatClampNeg))), none, none, none] [] M (fun r M1 => px_T 0 342 950 [some (.ref 1000), some (.ref 0), some (.ref 56), some (.int x3)] (r.toList ++ []) M1 Q)) : px_T 0 342 941 [some (.ref 1000), some (.ref 0), some (.ref 56), some (.int x3)] [] M Q := by
  obtain ⟨n, h⟩ := px_T_cl (k := 342) (pc := 947) (y := 107) (st := [.int (M.1 1000 ((x3 + 1).toNatClampNeg)), .ref 0]) rfl (h2)
  exact ⟨n + 7, ⟨Or.inr ⟨rfl, h1⟩, ⟨rfl, h⟩⟩⟩
theorem sg_342_964 {x3 : Int32} {M : px_Mem} {Q : px_Po} (h1 : vp_in (x3 + 1) (M.1 999 0).toNatClampNeg) (h2 : vp_in (x3 + 2) (M.1 999 0).toNatClampNeg) (h3 : px_T 0 108 0 [some (.ref 0), some (.int (M.1 1000 ((x3 + 1).toNatClampNeg))), some (.int (M.1 1000 ((x3 + 2).toNatClampNeg)))] [] M (fun r M1 => px_T 0 342 978 [some (.ref 1000), some (.ref 0), some (.ref 56), some (.int x3)] (r.toList ++ []) M1 Q)) : px_T 0 342 964 [some (.ref 1000), some (.ref 0), some (.ref 56), some (.int x3)] [] M Q := by
  obtain ⟨n, h⟩ := px_T_cl (k := 342) (pc := 975) (y := 108) (st := [.int (M.1 1000 ((x3 + 2).toNatClampNeg)), .int (M.1 1000 ((x3 + 1).toNatClampNeg)), .ref 0]) rfl (h3)
  exact ⟨n + 12, ⟨Or.inr ⟨rfl, h1⟩, ⟨Or.inr ⟨rfl, h2⟩, ⟨rfl, h⟩⟩⟩⟩
theorem sg_342_997 {x3 : Int32} {M : px_Mem} {Q : px_Po} (h1 : vp_in (x3 + 1) (M.1 999 0).toNatClampNeg) (h2 : px_T 0 109 0 [some (.ref 0), some (.int (M.1 1000 ((x3 + 1).toNatClampNeg))), none, none, none] [] M (fun r M1 => px_T 0 342 1006 [some (.ref 1000), some (.ref 0), some (.ref 56), some (.int x3)] (r.toList ++ []) M1 Q)) : px_T 0 342 997 [some (.ref 1000), some (.ref 0), some (.ref 56), some (.int x3)] [] M Q := by
  obtain ⟨n, h⟩ := px_T_cl (k := 342) (pc := 1003) (y := 109) (st := [.int (M.1 1000 ((x3 + 1).toNatClampNeg)), .ref 0]) rfl (h2)
  exact ⟨n + 7, ⟨Or.inr ⟨rfl, h1⟩, ⟨rfl, h⟩⟩⟩
theorem sg_342_1020 {x3 : Int32} {M : px_Mem} {Q : px_Po} (h1 : vp_in (x3 + 1) (M.1 999 0).toNatClampNeg) (h2 : vp_in (x3 + 2) (M.1 999 0).toNatClampNeg) (h3 : vp_in (x3 + 3) (M.1 999 0).toNatClampNeg) (h4 : px_T 0 110 0 [some (.ref 0), some (.int (M.1 1000 ((x3 + 1).toNatClampNeg))), some (.int (M.1 1000 ((x3 + 2).toNatClampNeg))), some (.int (M.1 1000 ((x3 + 3).toNatClampNeg))), none] [] M (fun r M1 => px_T 0 342 1039 [some (.ref 1000), some (.ref 0), some (.ref 56), some (.int x3)] (r.toList ++ []) M1 Q)) : px_T 0 342 1020 [some (.ref 1000), some (.ref 0), some (.ref 56), some (.int x3)] [] M Q := by
  obtain ⟨n, h⟩ := px_T_cl (k := 342) (pc := 1036) (y := 110) (st := [.int (M.1 1000 ((x3 + 3).toNatClampNeg)), .int (M.1 1000 ((x3 + 2).toNatClampNeg)), .int (M.1 1000 ((x3 + 1).toNatClampNeg)), .ref 0]) rfl (h4)
  exact ⟨n + 17, ⟨Or.inr ⟨rfl, h1⟩, ⟨Or.inr ⟨rfl, h2⟩, ⟨Or.inr ⟨rfl, h3⟩, ⟨rfl, h⟩⟩⟩⟩⟩
theorem sg_342_1063 {x3 : Int32} {M : px_Mem} {Q : px_Po} (h1 : vp_in (x3 + 1) (M.1 999 0).toNatClampNeg) (h2 : vp_in (x3 + 2) (M.1 999 0).toNatClampNeg) (h3 : vp_in (x3 + 3) (M.1 999 0).toNatClampNeg) (h4 : px_T 0 111 0 [some (.ref 0), some (.int (M.1 1000 ((x3 + 1).toNatClampNeg))), some (.int (M.1 1000 ((x3 + 2).toNatClampNeg))), some (.int (M.1 1000 ((x3 + 3).toNatClampNeg))), none, none] [] M (fun r M1 => px_T 0 342 1082 [some (.ref 1000), some (.ref 0), some (.ref 56), some (.int x3)] (r.toList ++ []) M1 Q)) : px_T 0 342 1063 [some (.ref 1000), some (.ref 0), some (.ref 56), some (.int x3)] [] M Q := by
  obtain ⟨n, h⟩ := px_T_cl (k := 342) (pc := 1079) (y := 111) (st := [.int (M.1 1000 ((x3 + 3).toNatClampNeg)), .int (M.1 1000 ((x3 + 2).toNatClampNeg)), .int (M.1 1000 ((x3 + 1).toNatClampNeg)), .ref 0]) rfl (h4)
  exact ⟨n + 17, ⟨Or.inr ⟨rfl, h1⟩, ⟨Or.inr ⟨rfl, h2⟩, ⟨Or.inr ⟨rfl, h3⟩, ⟨rfl, h⟩⟩⟩⟩⟩
theorem sg_342_1106 {x3 : Int32} {M : px_Mem} {Q : px_Po} (h1 : vp_in (x3 + 1) (M.1 999 0).toNatClampNeg) (h2 : vp_in (x3 + 2) (M.1 999 0).toNatClampNeg) (h3 : px_T 0 112 0 [some (.ref 0), some (.int (M.1 1000 ((x3 + 1).toNatClampNeg))), some (.int (M.1 1000 ((x3 + 2).toNatClampNeg)))] [] M (fun r M1 => px_T 0 342 1120 [some (.ref 1000), some (.ref 0), some (.ref 56), some (.int x3)] (r.toList ++ []) M1 Q)) : px_T 0 342 1106 [some (.ref 1000), some (.ref 0), some (.ref 56), some (.int x3)] [] M Q := by
  obtain ⟨n, h⟩ := px_T_cl (k := 342) (pc := 1117) (y := 112) (st := [.int (M.1 1000 ((x3 + 2).toNatClampNeg)), .int (M.1 1000 ((x3 + 1).toNatClampNeg)), .ref 0]) rfl (h3)
  exact ⟨n + 12, ⟨Or.inr ⟨rfl, h1⟩, ⟨Or.inr ⟨rfl, h2⟩, ⟨rfl, h⟩⟩⟩⟩
theorem sg_342_1139 {x3 : Int32} {M : px_Mem} {Q : px_Po} (h1 : vp_in (x3 + 1) (M.1 999 0).toNatClampNeg) (h2 : px_T 0 113 0 [some (.ref 0), some (.int (M.1 1000 ((x3 + 1).toNatClampNeg)))] [] M (fun r M1 => px_T 0 342 1148 [some (.ref 1000), some (.ref 0), some (.ref 56), some (.int x3)] (r.toList ++ []) M1 Q)) : px_T 0 342 1139 [some (.ref 1000), some (.ref 0), some (.ref 56), some (.int x3)] [] M Q := by
  obtain ⟨n, h⟩ := px_T_cl (k := 342) (pc := 1145) (y := 113) (st := [.int (M.1 1000 ((x3 + 1).toNatClampNeg)), .ref 0]) rfl (h2)
  exact ⟨n + 7, ⟨Or.inr ⟨rfl, h1⟩, ⟨rfl, h⟩⟩⟩
theorem sg_342_1162 {x3 : Int32} {M : px_Mem} {Q : px_Po} (h1 : px_T 0 114 0 [some (.ref 0), none, none] [] M (fun r M1 => px_T 0 342 1166 [some (.ref 1000), some (.ref 0), some (.ref 56), some (.int x3)] (r.toList ++ []) M1 Q)) : px_T 0 342 1162 [some (.ref 1000), some (.ref 0), some (.ref 56), some (.int x3)] [] M Q := by
  obtain ⟨n, h⟩ := px_T_cl (k := 342) (pc := 1163) (y := 114) (st := [.ref 0]) rfl (h1)
  exact ⟨n + 2, ⟨rfl, h⟩⟩
theorem sg_342_1175 {x3 : Int32} {M : px_Mem} {Q : px_Po} (h1 : px_T 0 115 0 [some (.ref 0)] [] M (fun r M1 => px_T 0 342 1179 [some (.ref 1000), some (.ref 0), some (.ref 56), some (.int x3)] (r.toList ++ []) M1 Q)) : px_T 0 342 1175 [some (.ref 1000), some (.ref 0), some (.ref 56), some (.int x3)] [] M Q := by
  obtain ⟨n, h⟩ := px_T_cl (k := 342) (pc := 1176) (y := 115) (st := [.ref 0]) rfl (h1)
  exact ⟨n + 2, ⟨rfl, h⟩⟩
theorem sg_342_1188 {x3 : Int32} {M : px_Mem} {Q : px_Po} (h1 : vp_in (x3 + 1) (M.1 999 0).toNatClampNeg) (h2 : vp_in (x3 + 2) (M.1 999 0).toNatClampNeg) (h3 : px_T 0 116 0 [some (.ref 0), some (.int (M.1 1000 ((x3 + 1).toNatClampNeg))), some (.int (M.1 1000 ((x3 + 2).toNatClampNeg))), none] [] M (fun r M1 => px_T 0 342 1202 [some (.ref 1000), some (.ref 0), some (.ref 56), some (.int x3)] (r.toList ++ []) M1 Q)) : px_T 0 342 1188 [some (.ref 1000), some (.ref 0), some (.ref 56), some (.int x3)] [] M Q := by
  obtain ⟨n, h⟩ := px_T_cl (k := 342) (pc := 1199) (y := 116) (st := [.int (M.1 1000 ((x3 + 2).toNatClampNeg)), .int (M.1 1000 ((x3 + 1).toNatClampNeg)), .ref 0]) rfl (h3)
  exact ⟨n + 12, ⟨Or.inr ⟨rfl, h1⟩, ⟨Or.inr ⟨rfl, h2⟩, ⟨rfl, h⟩⟩⟩⟩
theorem sg_342_1221 {x3 : Int32} {M : px_Mem} {Q : px_Po} (h1 : vp_in (x3 + 1) (M.1 999 0).toNatClampNeg) (h2 : px_T 0 117 0 [some (.ref 0), some (.int (M.1 1000 ((x3 + 1).toNatClampNeg)))] [] M (fun r M1 => px_T 0 342 1230 [some (.ref 1000), some (.ref 0), some (.ref 56), some (.int x3)] (r.toList ++ []) M1 Q)) : px_T 0 342 1221 [some (.ref 1000), some (.ref 0), some (.ref 56), some (.int x3)] [] M Q := by
  obtain ⟨n, h⟩ := px_T_cl (k := 342) (pc := 1227) (y := 117) (st := [.int (M.1 1000 ((x3 + 1).toNatClampNeg)), .ref 0]) rfl (h2)
  exact ⟨n + 7, ⟨Or.inr ⟨rfl, h1⟩, ⟨rfl, h⟩⟩⟩
theorem sg_342_1244 {x3 : Int32} {M : px_Mem} {Q : px_Po} (h1 : vp_in (x3 + 1) (M.1 999 0).toNatClampNeg) (h2 : px_T 0 118 0 [some (.ref 0), some (.int (M.1 1000 ((x3 + 1).toNatClampNeg)))] [] M (fun r M1 => px_T 0 342 1253 [some (.ref 1000), some (.ref 0), some (.ref 56), some (.int x3)] (r.toList ++ []) M1 Q)) : px_T 0 342 1244 [some (.ref 1000), some (.ref 0), some (.ref 56), some (.int x3)] [] M Q := by
  obtain ⟨n, h⟩ := px_T_cl (k := 342) (pc := 1250) (y := 118) (st := [.int (M.1 1000 ((x3 + 1).toNatClampNeg)), .ref 0]) rfl (h2)
  exact ⟨n + 7, ⟨Or.inr ⟨rfl, h1⟩, ⟨rfl, h⟩⟩⟩
theorem sg_342_1267 {x3 : Int32} {M : px_Mem} {Q : px_Po} (h1 : vp_in (x3 + 1) (M.1 999 0).toNatClampNeg) (h2 : vp_in (x3 + 2) (M.1 999 0).toNatClampNeg) (h3 : px_T 0 119 0 [some (.ref 0), some (.int (M.1 1000 ((x3 + 1).toNatClampNeg))), some (.int (M.1 1000 ((x3 + 2).toNatClampNeg)))] [] M (fun r M1 => px_T 0 342 1281 [some (.ref 1000), some (.ref 0), some (.ref 56), some (.int x3)] (r.toList ++ []) M1 Q)) : px_T 0 342 1267 [some (.ref 1000), some (.ref 0), some (.ref 56), some (.int x3)] [] M Q := by
  obtain ⟨n, h⟩ := px_T_cl (k := 342) (pc := 1278) (y := 119) (st := [.int (M.1 1000 ((x3 + 2).toNatClampNeg)), .int (M.1 1000 ((x3 + 1).toNatClampNeg)), .ref 0]) rfl (h3)
  exact ⟨n + 12, ⟨Or.inr ⟨rfl, h1⟩, ⟨Or.inr ⟨rfl, h2⟩, ⟨rfl, h⟩⟩⟩⟩
theorem sg_342_1300 {x3 : Int32} {M : px_Mem} {Q : px_Po} (h1 : vp_in (x3 + 1) (M.1 999 0).toNatClampNeg) (h2 : px_T 0 120 0 [some (.ref 0), some (.int (M.1 1000 ((x3 + 1).toNatClampNeg)))] [] M (fun r M1 => px_T 0 342 1309 [some (.ref 1000), some (.ref 0), some (.ref 56), some (.int x3)] (r.toList ++ []) M1 Q)) : px_T 0 342 1300 [some (.ref 1000), some (.ref 0), some (.ref 56), some (.int x3)] [] M Q := by
  obtain ⟨n, h⟩ := px_T_cl (k := 342) (pc := 1306) (y := 120) (st := [.int (M.1 1000 ((x3 + 1).toNatClampNeg)), .ref 0]) rfl (h2)
  exact ⟨n + 7, ⟨Or.inr ⟨rfl, h1⟩, ⟨rfl, h⟩⟩⟩
theorem sg_342_1323 {x3 : Int32} {M : px_Mem} {Q : px_Po} (h1 : px_T 0 121 0 [some (.ref 0), none, none] [] M (fun r M1 => px_T 0 342 1327 [some (.ref 1000), some (.ref 0), some (.ref 56), some (.int x3)] (r.toList ++ []) M1 Q)) : px_T 0 342 1323 [some (.ref 1000), some (.ref 0), some (.ref 56), some (.int x3)] [] M Q := by
  obtain ⟨n, h⟩ := px_T_cl (k := 342) (pc := 1324) (y := 121) (st := [.ref 0]) rfl (h1)
  exact ⟨n + 2, ⟨rfl, h⟩⟩
theorem sg_342_1336 {x3 : Int32} {M : px_Mem} {Q : px_Po} (h1 : vp_in (x3 + 1) (M.1 999 0).toNatClampNeg) (h2 : vp_in (x3 + 2) (M.1 999 0).toNatClampNeg) (h3 : vp_in (x3 + 3) (M.1 999 0).toNatClampNeg) (h4 : px_T 0 122 0 [some (.ref 0), some (.int (M.1 1000 ((x3 + 1).toNatClampNeg))), some (.int (M.1 1000 ((x3 + 2).toNatClampNeg))), some (.int (M.1 1000 ((x3 + 3).toNatClampNeg))), none] [] M (fun r M1 => px_T 0 342 1355 [some (.ref 1000), some (.ref 0), some (.ref 56), some (.int x3)] (r.toList ++ []) M1 Q)) : px_T 0 342 1336 [some (.ref 1000), some (.ref 0), some (.ref 56), some (.int x3)] [] M Q := by
  obtain ⟨n, h⟩ := px_T_cl (k := 342) (pc := 1352) (y := 122) (st := [.int (M.1 1000 ((x3 + 3).toNatClampNeg)), .int (M.1 1000 ((x3 + 2).toNatClampNeg)), .int (M.1 1000 ((x3 + 1).toNatClampNeg)), .ref 0]) rfl (h4)
  exact ⟨n + 17, ⟨Or.inr ⟨rfl, h1⟩, ⟨Or.inr ⟨rfl, h2⟩, ⟨Or.inr ⟨rfl, h3⟩, ⟨rfl, h⟩⟩⟩⟩⟩
theorem sg_342_1379 {x3 : Int32} {M : px_Mem} {Q : px_Po} (h1 : vp_in (x3 + 1) (M.1 999 0).toNatClampNeg) (h2 : vp_in (x3 + 2) (M.1 999 0).toNatClampNeg) (h3 : vp_in (x3 + 3) (M.1 999 0).toNatClampNeg) (h4 : vp_in (x3 + 4) (M.1 999 0).toNatClampNeg) (h5 : px_T 0 123 0 [some (.ref 0), some (.int (M.1 1000 ((x3 + 1).toNatClampNeg))), some (.int (M.1 1000 ((x3 + 2).toNatClampNeg))), some (.int (M.1 1000 ((x3 + 3).toNatClampNeg))), some (.int (M.1 1000 ((x3 + 4).toNatClampNeg)))] [] M (fun r M1 => px_T 0 342 1403 [some (.ref 1000), some (.ref 0), some (.ref 56), some (.int x3)] (r.toList ++ []) M1 Q)) : px_T 0 342 1379 [some (.ref 1000), some (.ref 0), some (.ref 56), some (.int x3)] [] M Q := by
  obtain ⟨n, h⟩ := px_T_cl (k := 342) (pc := 1400) (y := 123) (st := [.int (M.1 1000 ((x3 + 4).toNatClampNeg)), .int (M.1 1000 ((x3 + 3).toNatClampNeg)), .int (M.1 1000 ((x3 + 2).toNatClampNeg)), .int (M.1 1000 ((x3 + 1).toNatClampNeg)), .ref 0]) rfl (h5)
  exact ⟨n + 22, ⟨Or.inr ⟨rfl, h1⟩, ⟨Or.inr ⟨rfl, h2⟩, ⟨Or.inr ⟨rfl, h3⟩, ⟨Or.inr ⟨rfl, h4⟩, ⟨rfl, h⟩⟩⟩⟩⟩⟩
theorem sg_342_1432 {x3 : Int32} {M : px_Mem} {Q : px_Po} (h1 : vp_in (x3 + 1) (M.1 999 0).toNatClampNeg) (h2 : vp_in (x3 + 2) (M.1 999 0).toNatClampNeg) (h3 : vp_in (x3 + 3) (M.1 999 0).toNatClampNeg) (h4 : px_T 0 124 0 [some (.ref 0), some (.int (M.1 1000 ((x3 + 1).toNatClampNeg))), some (.int (M.1 1000 ((x3 + 2).toNatClampNeg))), some (.int (M.1 1000 ((x3 + 3).toNatClampNeg)))] [] M (fun r M1 => px_T 0 342 1451 [some (.ref 1000), some (.ref 0), some (.ref 56), some (.int x3)] (r.toList ++ []) M1 Q)) : px_T 0 342 1432 [some (.ref 1000), some (.ref 0), some (.ref 56), some (.int x3)] [] M Q := by
  obtain ⟨n, h⟩ := px_T_cl (k := 342) (pc := 1448) (y := 124) (st := [.int (M.1 1000 ((x3 + 3).toNatClampNeg)), .int (M.1 1000 ((x3 + 2).toNatClampNeg)), .int (M.1 1000 ((x3 + 1).toNatClampNeg)), .ref 0]) rfl (h4)
  exact ⟨n + 17, ⟨Or.inr ⟨rfl, h1⟩, ⟨Or.inr ⟨rfl, h2⟩, ⟨Or.inr ⟨rfl, h3⟩, ⟨rfl, h⟩⟩⟩⟩⟩
theorem sg_342_1475 {x3 : Int32} {M : px_Mem} {Q : px_Po} (h1 : vp_in (x3 + 1) (M.1 999 0).toNatClampNeg) (h2 : vp_in (x3 + 2) (M.1 999 0).toNatClampNeg) (h3 : px_T 0 125 0 [some (.ref 0), some (.int (M.1 1000 ((x3 + 1).toNatClampNeg))), some (.int (M.1 1000 ((x3 + 2).toNatClampNeg))), none, none, none, none, none] [] M (fun r M1 => px_T 0 342 1489 [some (.ref 1000), some (.ref 0), some (.ref 56), some (.int x3)] (r.toList ++ []) M1 Q)) : px_T 0 342 1475 [some (.ref 1000), some (.ref 0), some (.ref 56), some (.int x3)] [] M Q := by
  obtain ⟨n, h⟩ := px_T_cl (k := 342) (pc := 1486) (y := 125) (st := [.int (M.1 1000 ((x3 + 2).toNatClampNeg)), .int (M.1 1000 ((x3 + 1).toNatClampNeg)), .ref 0]) rfl (h3)
  exact ⟨n + 12, ⟨Or.inr ⟨rfl, h1⟩, ⟨Or.inr ⟨rfl, h2⟩, ⟨rfl, h⟩⟩⟩⟩
theorem sg_342_1508 {x3 : Int32} {M : px_Mem} {Q : px_Po} (h1 : px_T 0 126 0 [some (.ref 0), none, none, none, none] [] M (fun r M1 => px_T 0 342 1512 [some (.ref 1000), some (.ref 0), some (.ref 56), some (.int x3)] (r.toList ++ []) M1 Q)) : px_T 0 342 1508 [some (.ref 1000), some (.ref 0), some (.ref 56), some (.int x3)] [] M Q := by
  obtain ⟨n, h⟩ := px_T_cl (k := 342) (pc := 1509) (y := 126) (st := [.ref 0]) rfl (h1)
  exact ⟨n + 2, ⟨rfl, h⟩⟩
theorem sg_342_1521 {x3 : Int32} {M : px_Mem} {Q : px_Po} (h1 : px_T 0 127 0 [some (.ref 0), none, none, none, none, none, none] [] M (fun r M1 => px_T 0 342 1525 [some (.ref 1000), some (.ref 0), some (.ref 56), some (.int x3)] (r.toList ++ []) M1 Q)) : px_T 0 342 1521 [some (.ref 1000), some (.ref 0), some (.ref 56), some (.int x3)] [] M Q := by
  obtain ⟨n, h⟩ := px_T_cl (k := 342) (pc := 1522) (y := 127) (st := [.ref 0]) rfl (h1)
  exact ⟨n + 2, ⟨rfl, h⟩⟩
theorem sg_342_1534 {x3 : Int32} {M : px_Mem} {Q : px_Po} (h1 : vp_in (x3 + 1) (M.1 999 0).toNatClampNeg) (h2 : px_T 0 128 0 [some (.ref 0), some (.int (M.1 1000 ((x3 + 1).toNatClampNeg))), none, none, none] [] M (fun r M1 => px_T 0 342 1543 [some (.ref 1000), some (.ref 0), some (.ref 56), some (.int x3)] (r.toList ++ []) M1 Q)) : px_T 0 342 1534 [some (.ref 1000), some (.ref 0), some (.ref 56), some (.int x3)] [] M Q := by
  obtain ⟨n, h⟩ := px_T_cl (k := 342) (pc := 1540) (y := 128) (st := [.int (M.1 1000 ((x3 + 1).toNatClampNeg)), .ref 0]) rfl (h2)
  exact ⟨n + 7, ⟨Or.inr ⟨rfl, h1⟩, ⟨rfl, h⟩⟩⟩
theorem sg_342_1557 {x3 : Int32} {M : px_Mem} {Q : px_Po} (h1 : vp_in (x3 + 1) (M.1 999 0).toNatClampNeg) (h2 : px_T 0 129 0 [some (.ref 0), some (.int (M.1 1000 ((x3 + 1).toNatClampNeg))), none, none] [] M (fun r M1 => px_T 0 342 1566 [some (.ref 1000), some (.ref 0), some (.ref 56), some (.int x3)] (r.toList ++ []) M1 Q)) : px_T 0 342 1557 [some (.ref 1000), some (.ref 0), some (.ref 56), some (.int x3)] [] M Q := by
  obtain ⟨n, h⟩ := px_T_cl (k := 342) (pc := 1563) (y := 129) (st := [.int (M.1 1000 ((x3 + 1).toNatClampNeg)), .ref 0]) rfl (h2)
  exact ⟨n + 7, ⟨Or.inr ⟨rfl, h1⟩, ⟨rfl, h⟩⟩⟩
theorem sg_342_1580 {x3 : Int32} {M : px_Mem} {Q : px_Po} (h1 : vp_in (x3 + 1) (M.1 999 0).toNatClampNeg) (h2 : px_T 0 130 0 [some (.ref 0), some (.int (M.1 1000 ((x3 + 1).toNatClampNeg))), none] [] M (fun r M1 => px_T 0 342 1589 [some (.ref 1000), some (.ref 0), some (.ref 56), some (.int x3)] (r.toList ++ []) M1 Q)) : px_T 0 342 1580 [some (.ref 1000), some (.ref 0), some (.ref 56), some (.int x3)] [] M Q := by
  obtain ⟨n, h⟩ := px_T_cl (k := 342) (pc := 1586) (y := 130) (st := [.int (M.1 1000 ((x3 + 1).toNatClampNeg)), .ref 0]) rfl (h2)
  exact ⟨n + 7, ⟨Or.inr ⟨rfl, h1⟩, ⟨rfl, h⟩⟩⟩
theorem sg_342_1603 {x3 : Int32} {M : px_Mem} {Q : px_Po} (h1 : vp_in (x3 + 1) (M.1 999 0).toNatClampNeg) (h2 : px_T 0 131 0 [some (.ref 0), some (.int (M.1 1000 ((x3 + 1).toNatClampNeg))), none, none, none] [] M (fun r M1 => px_T 0 342 1612 [some (.ref 1000), some (.ref 0), some (.ref 56), some (.int x3)] (r.toList ++ []) M1 Q)) : px_T 0 342 1603 [some (.ref 1000), some (.ref 0), some (.ref 56), some (.int x3)] [] M Q := by
  obtain ⟨n, h⟩ := px_T_cl (k := 342) (pc := 1609) (y := 131) (st := [.int (M.1 1000 ((x3 + 1).toNatClampNeg)), .ref 0]) rfl (h2)
  exact ⟨n + 7, ⟨Or.inr ⟨rfl, h1⟩, ⟨rfl, h⟩⟩⟩
theorem sg_342_1626 {x3 : Int32} {M : px_Mem} {Q : px_Po} (h1 : vp_in (x3 + 1) (M.1 999 0).toNatClampNeg) (h2 : px_T 0 132 0 [some (.ref 0), some (.int (M.1 1000 ((x3 + 1).toNatClampNeg)))] [] M (fun r M1 => px_T 0 342 1635 [some (.ref 1000), some (.ref 0), some (.ref 56), some (.int x3)] (r.toList ++ []) M1 Q)) : px_T 0 342 1626 [some (.ref 1000), some (.ref 0), some (.ref 56), some (.int x3)] [] M Q := by
  obtain ⟨n, h⟩ := px_T_cl (k := 342) (pc := 1632) (y := 132) (st := [.int (M.1 1000 ((x3 + 1).toNatClampNeg)), .ref 0]) rfl (h2)
  exact ⟨n + 7, ⟨Or.inr ⟨rfl, h1⟩, ⟨rfl, h⟩⟩⟩
theorem sg_342_1649 {x3 : Int32} {M : px_Mem} {Q : px_Po} (h1 : px_T 0 133 0 [some (.ref 0), none, none, none, none] [] M (fun r M1 => px_T 0 342 1653 [some (.ref 1000), some (.ref 0), some (.ref 56), some (.int x3)] (r.toList ++ []) M1 Q)) : px_T 0 342 1649 [some (.ref 1000), some (.ref 0), some (.ref 56), some (.int x3)] [] M Q := by
  obtain ⟨n, h⟩ := px_T_cl (k := 342) (pc := 1650) (y := 133) (st := [.ref 0]) rfl (h1)
  exact ⟨n + 2, ⟨rfl, h⟩⟩
theorem sg_342_1662 {x3 : Int32} {M : px_Mem} {Q : px_Po} (h1 : vp_in (x3 + 1) (M.1 999 0).toNatClampNeg) (h2 : px_T 0 134 0 [some (.ref 0), some (.int (M.1 1000 ((x3 + 1).toNatClampNeg)))] [] M (fun r M1 => px_T 0 342 1671 [some (.ref 1000), some (.ref 0), some (.ref 56), some (.int x3)] (r.toList ++ []) M1 Q)) : px_T 0 342 1662 [some (.ref 1000), some (.ref 0), some (.ref 56), some (.int x3)] [] M Q := by
  obtain ⟨n, h⟩ := px_T_cl (k := 342) (pc := 1668) (y := 134) (st := [.int (M.1 1000 ((x3 + 1).toNatClampNeg)), .ref 0]) rfl (h2)
  exact ⟨n + 7, ⟨Or.inr ⟨rfl, h1⟩, ⟨rfl, h⟩⟩⟩
theorem sg_342_1685 {x3 : Int32} {M : px_Mem} {Q : px_Po} (h1 : vp_in (x3 + 1) (M.1 999 0).toNatClampNeg) (h2 : vp_in (x3 + 2) (M.1 999 0).toNatClampNeg) (h3 : px_T 0 135 0 [some (.ref 0), some (.int (M.1 1000 ((x3 + 1).toNatClampNeg))), some (.int (M.1 1000 ((x3 + 2).toNatClampNeg))), none, none, none, none] [] M (fun r M1 => px_T 0 342 1699 [some (.ref 1000), some (.ref 0), some (.ref 56), some (.int x3)] (r.toList ++ []) M1 Q)) : px_T 0 342 1685 [some (.ref 1000), some (.ref 0), some (.ref 56), some (.int x3)] [] M Q := by
  obtain ⟨n, h⟩ := px_T_cl (k := 342) (pc := 1696) (y := 135) (st := [.int (M.1 1000 ((x3 + 2).toNatClampNeg)), .int (M.1 1000 ((x3 + 1).toNatClampNeg)), .ref 0]) rfl (h3)
  exact ⟨n + 12, ⟨Or.inr ⟨rfl, h1⟩, ⟨Or.inr ⟨rfl, h2⟩, ⟨rfl, h⟩⟩⟩⟩
theorem sg_342_1718 {x3 : Int32} {M : px_Mem} {Q : px_Po} (h1 : vp_in (x3 + 1) (M.1 999 0).toNatClampNeg) (h2 : vp_in (x3 + 2) (M.1 999 0).toNatClampNeg) (h3 : px_T 0 136 0 [some (.ref 0), some (.int (M.1 1000 ((x3 + 1).toNatClampNeg))), some (.int (M.1 1000 ((x3 + 2).toNatClampNeg))), none, none, none, none, none, none] [] M (fun r M1 => px_T 0 342 1732 [some (.ref 1000), some (.ref 0), some (.ref 56), some (.int x3)] (r.toList ++ []) M1 Q)) : px_T 0 342 1718 [some (.ref 1000), some (.ref 0), some (.ref 56), some (.int x3)] [] M Q := by
  obtain ⟨n, h⟩ := px_T_cl (k := 342) (pc := 1729) (y := 136) (st := [.int (M.1 1000 ((x3 + 2).toNatClampNeg)), .int (M.1 1000 ((x3 + 1).toNatClampNeg)), .ref 0]) rfl (h3)
  exact ⟨n + 12, ⟨Or.inr ⟨rfl, h1⟩, ⟨Or.inr ⟨rfl, h2⟩, ⟨rfl, h⟩⟩⟩⟩
theorem sg_342_1751 {x3 : Int32} {M : px_Mem} {Q : px_Po} (h1 : vp_in (x3 + 1) (M.1 999 0).toNatClampNeg) (h2 : vp_in (x3 + 2) (M.1 999 0).toNatClampNeg) (h3 : vp_in (x3 + 3) (M.1 999 0).toNatClampNeg) (h4 : vp_in (x3 + 4) (M.1 999 0).toNatClampNeg) (h5 : px_T 0 137 0 [some (.ref 0), some (.int (M.1 1000 ((x3 + 1).toNatClampNeg))), some (.int (M.1 1000 ((x3 + 2).toNatClampNeg))), some (.int (M.1 1000 ((x3 + 3).toNatClampNeg))), some (.int (M.1 1000 ((x3 + 4).toNatClampNeg)))] [] M (fun r M1 => px_T 0 342 1775 [some (.ref 1000), some (.ref 0), some (.ref 56), some (.int x3)] (r.toList ++ []) M1 Q)) : px_T 0 342 1751 [some (.ref 1000), some (.ref 0), some (.ref 56), some (.int x3)] [] M Q := by
  obtain ⟨n, h⟩ := px_T_cl (k := 342) (pc := 1772) (y := 137) (st := [.int (M.1 1000 ((x3 + 4).toNatClampNeg)), .int (M.1 1000 ((x3 + 3).toNatClampNeg)), .int (M.1 1000 ((x3 + 2).toNatClampNeg)), .int (M.1 1000 ((x3 + 1).toNatClampNeg)), .ref 0]) rfl (h5)
  exact ⟨n + 22, ⟨Or.inr ⟨rfl, h1⟩, ⟨Or.inr ⟨rfl, h2⟩, ⟨Or.inr ⟨rfl, h3⟩, ⟨Or.inr ⟨rfl, h4⟩, ⟨rfl, h⟩⟩⟩⟩⟩⟩
theorem sg_342_1804 {x3 : Int32} {M : px_Mem} {Q : px_Po} (h1 : vp_in (x3 + 1) (M.1 999 0).toNatClampNeg) (h2 : vp_in (x3 + 2) (M.1 999 0).toNatClampNeg) (h3 : vp_in (x3 + 3) (M.1 999 0).toNatClampNeg) (h4 : px_T 0 138 0 [some (.ref 0), some (.int (M.1 1000 ((x3 + 1).toNatClampNeg))), some (.int (M.1 1000 ((x3 + 2).toNatClampNeg))), some (.int (M.1 1000 ((x3 + 3).toNatClampNeg)))] [] M (fun r M1 => px_T 0 342 1823 [some (.ref 1000), some (.ref 0), some (.ref 56), some (.int x3)] (r.toList ++ []) M1 Q)) : px_T 0 342 1804 [some (.ref 1000), some (.ref 0), some (.ref 56), some (.int x3)] [] M Q := by
  obtain ⟨n, h⟩ := px_T_cl (k := 342) (pc := 1820) (y := 138) (st := [.int (M.1 1000 ((x3 + 3).toNatClampNeg)), .int (M.1 1000 ((x3 + 2).toNatClampNeg)), .int (M.1 1000 ((x3 + 1).toNatClampNeg)), .ref 0]) rfl (h4)
  exact ⟨n + 17, ⟨Or.inr ⟨rfl, h1⟩, ⟨Or.inr ⟨rfl, h2⟩, ⟨Or.inr ⟨rfl, h3⟩, ⟨rfl, h⟩⟩⟩⟩⟩
theorem sg_342_1848 {x3 : Int32} {M : px_Mem} {Q : px_Po} (h1 : vp_in (x3 + 1) (M.1 999 0).toNatClampNeg) (h2 : vp_in (x3 + 2) (M.1 999 0).toNatClampNeg) (h3 : px_T 0 139 0 [some (.ref 0), some (.int (M.1 1000 ((x3 + 1).toNatClampNeg))), some (.int (M.1 1000 ((x3 + 2).toNatClampNeg)))] [] M (fun r M1 => px_T 0 342 1862 [some (.ref 1000), some (.ref 0), some (.ref 56), some (.int x3)] (r.toList ++ []) M1 Q)) : px_T 0 342 1848 [some (.ref 1000), some (.ref 0), some (.ref 56), some (.int x3)] [] M Q := by
  obtain ⟨n, h⟩ := px_T_cl (k := 342) (pc := 1859) (y := 139) (st := [.int (M.1 1000 ((x3 + 2).toNatClampNeg)), .int (M.1 1000 ((x3 + 1).toNatClampNeg)), .ref 0]) rfl (h3)
  exact ⟨n + 12, ⟨Or.inr ⟨rfl, h1⟩, ⟨Or.inr ⟨rfl, h2⟩, ⟨rfl, h⟩⟩⟩⟩
theorem sg_342_1882 {x3 : Int32} {M : px_Mem} {Q : px_Po} (h1 : vp_in (x3 + 1) (M.1 999 0).toNatClampNeg) (h2 : vp_in (x3 + 2) (M.1 999 0).toNatClampNeg) (h3 : vp_in (x3 + 3) (M.1 999 0).toNatClampNeg) (h4 : vp_in (x3 + 4) (M.1 999 0).toNatClampNeg) (h5 : px_T 0 140 0 [some (.ref 0), some (.int (M.1 1000 ((x3 + 1).toNatClampNeg))), some (.int (M.1 1000 ((x3 + 2).toNatClampNeg))), some (.int (M.1 1000 ((x3 + 3).toNatClampNeg))), some (.int (M.1 1000 ((x3 + 4).toNatClampNeg)))] [] M (fun r M1 => px_T 0 342 1906 [some (.ref 1000), some (.ref 0), some (.ref 56), some (.int x3)] (r.toList ++ []) M1 Q)) : px_T 0 342 1882 [some (.ref 1000), some (.ref 0), some (.ref 56), some (.int x3)] [] M Q := by
  obtain ⟨n, h⟩ := px_T_cl (k := 342) (pc := 1903) (y := 140) (st := [.int (M.1 1000 ((x3 + 4).toNatClampNeg)), .int (M.1 1000 ((x3 + 3).toNatClampNeg)), .int (M.1 1000 ((x3 + 2).toNatClampNeg)), .int (M.1 1000 ((x3 + 1).toNatClampNeg)), .ref 0]) rfl (h5)
  exact ⟨n + 22, ⟨Or.inr ⟨rfl, h1⟩, ⟨Or.inr ⟨rfl, h2⟩, ⟨Or.inr ⟨rfl, h3⟩, ⟨Or.inr ⟨rfl, h4⟩, ⟨rfl, h⟩⟩⟩⟩⟩⟩
theorem sg_342_1935 {x3 : Int32} {M : px_Mem} {Q : px_Po} (h1 : px_T 0 141 0 [some (.ref 0)] [] M (fun r M1 => px_T 0 342 1939 [some (.ref 1000), some (.ref 0), some (.ref 56), some (.int x3)] (r.toList ++ []) M1 Q)) : px_T 0 342 1935 [some (.ref 1000), some (.ref 0), some (.ref 56), some (.int x3)] [] M Q := by
  obtain ⟨n, h⟩ := px_T_cl (k := 342) (pc := 1936) (y := 141) (st := [.ref 0]) rfl (h1)
  exact ⟨n + 2, ⟨rfl, h⟩⟩
theorem sg_342_1948 {x3 : Int32} {M : px_Mem} {Q : px_Po} (h1 : px_T 0 142 0 [some (.ref 0), none] [] M (fun r M1 => px_T 0 342 1952 [some (.ref 1000), some (.ref 0), some (.ref 56), some (.int x3)] (r.toList ++ []) M1 Q)) : px_T 0 342 1948 [some (.ref 1000), some (.ref 0), some (.ref 56), some (.int x3)] [] M Q := by
  obtain ⟨n, h⟩ := px_T_cl (k := 342) (pc := 1949) (y := 142) (st := [.ref 0]) rfl (h1)
  exact ⟨n + 2, ⟨rfl, h⟩⟩
theorem sg_342_1961 {x3 : Int32} {M : px_Mem} {Q : px_Po} (h1 : vp_in (x3 + 1) (M.1 999 0).toNatClampNeg) (h2 : vp_in (x3 + 2) (M.1 999 0).toNatClampNeg) (h3 : px_T 0 143 0 [some (.ref 0), some (.int (M.1 1000 ((x3 + 1).toNatClampNeg))), some (.int (M.1 1000 ((x3 + 2).toNatClampNeg))), none] [] M (fun r M1 => px_T 0 342 1975 [some (.ref 1000), some (.ref 0), some (.ref 56), some (.int x3)] (r.toList ++ []) M1 Q)) : px_T 0 342 1961 [some (.ref 1000), some (.ref 0), some (.ref 56), some (.int x3)] [] M Q := by
  obtain ⟨n, h⟩ := px_T_cl (k := 342) (pc := 1972) (y := 143) (st := [.int (M.1 1000 ((x3 + 2).toNatClampNeg)), .int (M.1 1000 ((x3 + 1).toNatClampNeg)), .ref 0]) rfl (h3)
  exact ⟨n + 12, ⟨Or.inr ⟨rfl, h1⟩, ⟨Or.inr ⟨rfl, h2⟩, ⟨rfl, h⟩⟩⟩⟩
theorem sg_342_1994 {x3 : Int32} {M : px_Mem} {Q : px_Po} (h1 : vp_in (x3 + 1) (M.1 999 0).toNatClampNeg) (h2 : vp_in (x3 + 2) (M.1 999 0).toNatClampNeg) (h3 : vp_in (x3 + 3) (M.1 999 0).toNatClampNeg) (h4 : px_T 0 144 0 [some (.ref 0), some (.int (M.1 1000 ((x3 + 1).toNatClampNeg))), some (.int (M.1 1000 ((x3 + 2).toNatClampNeg))), some (.int (M.1 1000 ((x3 + 3).toNatClampNeg))), none, none] [] M (fun r M1 => px_T 0 342 2013 [some (.ref 1000), some (.ref 0), some (.ref 56), some (.int x3)] (r.toList ++ []) M1 Q)) : px_T 0 342 1994 [some (.ref 1000), some (.ref 0), some (.ref 56), some (.int x3)] [] M Q := by
  obtain ⟨n, h⟩ := px_T_cl (k := 342) (pc := 2010) (y := 144) (st := [.int (M.1 1000 ((x3 + 3).toNatClampNeg)), .int (M.1 1000 ((x3 + 2).toNatClampNeg)), .int (M.1 1000 ((x3 + 1).toNatClampNeg)), .ref 0]) rfl (h4)
  exact ⟨n + 17, ⟨Or.inr ⟨rfl, h1⟩, ⟨Or.inr ⟨rfl, h2⟩, ⟨Or.inr ⟨rfl, h3⟩, ⟨rfl, h⟩⟩⟩⟩⟩
theorem sg_342_2037 {x3 : Int32} {M : px_Mem} {Q : px_Po} (h1 : vp_in (x3 + 1) (M.1 999 0).toNatClampNeg) (h2 : px_T 0 145 0 [some (.ref 0), some (.int (M.1 1000 ((x3 + 1).toNatClampNeg)))] [] M (fun r M1 => px_T 0 342 2046 [some (.ref 1000), some (.ref 0), some (.ref 56), some (.int x3)] (r.toList ++ []) M1 Q)) : px_T 0 342 2037 [some (.ref 1000), some (.ref 0), some (.ref 56), some (.int x3)] [] M Q := by
  obtain ⟨n, h⟩ := px_T_cl (k := 342) (pc := 2043) (y := 145) (st := [.int (M.1 1000 ((x3 + 1).toNatClampNeg)), .ref 0]) rfl (h2)
  exact ⟨n + 7, ⟨Or.inr ⟨rfl, h1⟩, ⟨rfl, h⟩⟩⟩
theorem sg_342_2060 {x3 : Int32} {M : px_Mem} {Q : px_Po} (h1 : vp_in (x3 + 1) (M.1 999 0).toNatClampNeg) (h2 : px_T 0 146 0 [some (.ref 0), some (.int (M.1 1000 ((x3 + 1).toNatClampNeg)))] [] M (fun r M1 => px_T 0 342 2069 [some (.ref 1000), some (.ref 0), some (.ref 56), some (.int x3)] (r.toList ++ []) M1 Q)) : px_T 0 342 2060 [some (.ref 1000), some (.ref 0), some (.ref 56), some (.int x3)] [] M Q := by
  obtain ⟨n, h⟩ := px_T_cl (k := 342) (pc := 2066) (y := 146) (st := [.int (M.1 1000 ((x3 + 1).toNatClampNeg)), .ref 0]) rfl (h2)
  exact ⟨n + 7, ⟨Or.inr ⟨rfl, h1⟩, ⟨rfl, h⟩⟩⟩
theorem sg_342_2083 {x3 : Int32} {M : px_Mem} {Q : px_Po} (h1 : vp_in (x3 + 1) (M.1 999 0).toNatClampNeg) (h2 : px_T 0 147 0 [some (.ref 0), some (.int (M.1 1000 ((x3 + 1).toNatClampNeg)))] [] M (fun r M1 => px_T 0 342 2092 [some (.ref 1000), some (.ref 0), some (.ref 56), some (.int x3)] (r.toList ++ []) M1 Q)) : px_T 0 342 2083 [some (.ref 1000), some (.ref 0), some (.ref 56), some (.int x3)] [] M Q := by
  obtain ⟨n, h⟩ := px_T_cl (k := 342) (pc := 2089) (y := 147) (st := [.int (M.1 1000 ((x3 + 1).toNatClampNeg)), .ref 0]) rfl (h2)
  exact ⟨n + 7, ⟨Or.inr ⟨rfl, h1⟩, ⟨rfl, h⟩⟩⟩
theorem sg_342_2106 {x3 : Int32} {M : px_Mem} {Q : px_Po} (h1 : vp_in (x3 + 1) (M.1 999 0).toNatClampNeg) (h2 : vp_in (x3 + 2) (M.1 999 0).toNatClampNeg) (h3 : vp_in (x3 + 3) (M.1 999 0).toNatClampNeg) (h4 : px_T 0 148 0 [some (.ref 0), some (.int (M.1 1000 ((x3 + 1).toNatClampNeg))), some (.int (M.1 1000 ((x3 + 2).toNatClampNeg))), some (.int (M.1 1000 ((x3 + 3).toNatClampNeg)))] [] M (fun r M1 => px_T 0 342 2125 [some (.ref 1000), some (.ref 0), some (.ref 56), some (.int x3)] (r.toList ++ []) M1 Q)) : px_T 0 342 2106 [some (.ref 1000), some (.ref 0), some (.ref 56), some (.int x3)] [] M Q := by
  obtain ⟨n, h⟩ := px_T_cl (k := 342) (pc := 2122) (y := 148) (st := [.int (M.1 1000 ((x3 + 3).toNatClampNeg)), .int (M.1 1000 ((x3 + 2).toNatClampNeg)), .int (M.1 1000 ((x3 + 1).toNatClampNeg)), .ref 0]) rfl (h4)
  exact ⟨n + 17, ⟨Or.inr ⟨rfl, h1⟩, ⟨Or.inr ⟨rfl, h2⟩, ⟨Or.inr ⟨rfl, h3⟩, ⟨rfl, h⟩⟩⟩⟩⟩
theorem sg_342_2149 {x3 : Int32} {M : px_Mem} {Q : px_Po} (h1 : vp_in (x3 + 1) (M.1 999 0).toNatClampNeg) (h2 : vp_in (x3 + 2) (M.1 999 0).toNatClampNeg) (h3 : vp_in (x3 + 3) (M.1 999 0).toNatClampNeg) (h4 : vp_in (x3 + 4) (M.1 999 0).toNatClampNeg) (h5 : px_T 0 149 0 [some (.ref 0), some (.int (M.1 1000 ((x3 + 1).toNatClampNeg))), some (.int (M.1 1000 ((x3 + 2).toNatClampNeg))), some (.long ((((M.1 1000 ((x3 + 3).toNatClampNeg)).toInt64) <<< ((32 : Int32).toInt64 &&& 63)) ||| (((M.1 1000 ((x3 + 4).toNatClampNeg)).toInt64) &&& 4294967295))), none, none] [] M (fun r M1 => px_T 0 342 2183 [some (.ref 1000), some (.ref 0), some (.ref 56), some (.int x3)] (r.toList ++ []) M1 Q)) : px_T 0 342 2149 [some (.ref 1000), some (.ref 0), some (.ref 56), some (.int x3)] [] M Q := by
  obtain ⟨n, h⟩ := px_T_cl (k := 342) (pc := 2180) (y := 149) (st := [.long ((((M.1 1000 ((x3 + 3).toNatClampNeg)).toInt64) <<< ((32 : Int32).toInt64 &&& 63)) ||| (((M.1 1000 ((x3 + 4).toNatClampNeg)).toInt64) &&& 4294967295)), .int (M.1 1000 ((x3 + 2).toNatClampNeg)), .int (M.1 1000 ((x3 + 1).toNatClampNeg)), .ref 0]) rfl (h5)
  exact ⟨n + 29, ⟨Or.inr ⟨rfl, h1⟩, ⟨Or.inr ⟨rfl, h2⟩, ⟨Or.inr ⟨rfl, h3⟩, ⟨Or.inr ⟨rfl, h4⟩, ⟨rfl, h⟩⟩⟩⟩⟩⟩
theorem sg_342_2222 {x3 : Int32} {M : px_Mem} {Q : px_Po} (h1 : vp_in (x3 + 1) (M.1 999 0).toNatClampNeg) (h2 : vp_in (x3 + 2) (M.1 999 0).toNatClampNeg) (h3 : vp_in (x3 + 3) (M.1 999 0).toNatClampNeg) (h4 : vp_in (x3 + 4) (M.1 999 0).toNatClampNeg) (h5 : vp_in (x3 + 5) (M.1 999 0).toNatClampNeg) (h6 : px_T 0 150 0 [some (.ref 0), some (.int (M.1 1000 ((x3 + 1).toNatClampNeg))), some (.int (M.1 1000 ((x3 + 2).toNatClampNeg))), some (.int (M.1 1000 ((x3 + 3).toNatClampNeg))), some (.int (M.1 1000 ((x3 + 4).toNatClampNeg))), some (.int (M.1 1000 ((x3 + 5).toNatClampNeg))), none, none] [] M (fun r M1 => px_T 0 342 2251 [some (.ref 1000), some (.ref 0), some (.ref 56), some (.int x3)] (r.toList ++ []) M1 Q)) : px_T 0 342 2222 [some (.ref 1000), some (.ref 0), some (.ref 56), some (.int x3)] [] M Q := by
  obtain ⟨n, h⟩ := px_T_cl (k := 342) (pc := 2248) (y := 150) (st := [.int (M.1 1000 ((x3 + 5).toNatClampNeg)), .int (M.1 1000 ((x3 + 4).toNatClampNeg)), .int (M.1 1000 ((x3 + 3).toNatClampNeg)), .int (M.1 1000 ((x3 + 2).toNatClampNeg)), .int (M.1 1000 ((x3 + 1).toNatClampNeg)), .ref 0]) rfl (h6)
  exact ⟨n + 27, ⟨Or.inr ⟨rfl, h1⟩, ⟨Or.inr ⟨rfl, h2⟩, ⟨Or.inr ⟨rfl, h3⟩, ⟨Or.inr ⟨rfl, h4⟩, ⟨Or.inr ⟨rfl, h5⟩, ⟨rfl, h⟩⟩⟩⟩⟩⟩⟩
theorem sg_342_2285 {x3 : Int32} {M : px_Mem} {Q : px_Po} (h1 : px_T 0 342 18 [some (.ref 1000), some (.ref 0), some (.ref 56), some (.int (x3 + 6))] [] M Q) : px_T 0 342 2285 [some (.ref 1000), some (.ref 0), some (.ref 56), some (.int x3)] [] M Q := by
  obtain ⟨n, h⟩ := h1
  exact ⟨n + 2, h⟩
theorem sg_342_337 {x3 : Int32} {s0 : Int32} {M : px_Mem} {Q : px_Po} (h1 : vp_in (x3 + 1) (M.1 999 0).toNatClampNeg) (h2 : vp_in (x3 + 2) (M.1 999 0).toNatClampNeg) (h3 : vp_in (x3 + 3) (M.1 999 0).toNatClampNeg) (h4 : vp_in (x3 + 4) (M.1 999 0).toNatClampNeg) (h5 : vp_in (x3 + 5) (M.1 999 0).toNatClampNeg) (h6 : px_T 0 190 0 [some (.ref 56), some (.int (M.1 1000 ((x3 + 1).toNatClampNeg))), some (.int (M.1 1000 ((x3 + 2).toNatClampNeg))), some (.int (M.1 1000 ((x3 + 3).toNatClampNeg))), some (.int (M.1 1000 ((x3 + 4).toNatClampNeg))), some (.int (M.1 1000 ((x3 + 5).toNatClampNeg))), none] [] M (fun r M1 => px_T 0 342 366 [some (.ref 1000), some (.ref 0), some (.ref 56), some (.int x3)] (r.toList ++ [.int s0]) M1 Q)) : px_T 0 342 337 [some (.ref 1000), some (.ref 0), some (.ref 56), some (.int x3)] [.int s0] M Q := by
  obtain ⟨n, h⟩ := px_T_cl (k := 342) (pc := 363) (y := 190) (st := [.int (M.1 1000 ((x3 + 5).toNatClampNeg)), .int (M.1 1000 ((x3 + 4).toNatClampNeg)), .int (M.1 1000 ((x3 + 3).toNatClampNeg)), .int (M.1 1000 ((x3 + 2).toNatClampNeg)), .int (M.1 1000 ((x3 + 1).toNatClampNeg)), .ref 56, .int s0]) rfl (h6)
  exact ⟨n + 27, ⟨Or.inr ⟨rfl, h1⟩, ⟨Or.inr ⟨rfl, h2⟩, ⟨Or.inr ⟨rfl, h3⟩, ⟨Or.inr ⟨rfl, h4⟩, ⟨Or.inr ⟨rfl, h5⟩, ⟨rfl, h⟩⟩⟩⟩⟩⟩⟩
theorem sg_342_380 {x3 : Int32} {s0 : Int32} {M : px_Mem} {Q : px_Po} (h1 : vp_in (x3 + 1) (M.1 999 0).toNatClampNeg) (h2 : px_T 0 191 0 [some (.ref 56), some (.int (M.1 1000 ((x3 + 1).toNatClampNeg)))] [] M (fun r M1 => px_T 0 342 389 [some (.ref 1000), some (.ref 0), some (.ref 56), some (.int x3)] (r.toList ++ [.int s0]) M1 Q)) : px_T 0 342 380 [some (.ref 1000), some (.ref 0), some (.ref 56), some (.int x3)] [.int s0] M Q := by
  obtain ⟨n, h⟩ := px_T_cl (k := 342) (pc := 386) (y := 191) (st := [.int (M.1 1000 ((x3 + 1).toNatClampNeg)), .ref 56, .int s0]) rfl (h2)
  exact ⟨n + 7, ⟨Or.inr ⟨rfl, h1⟩, ⟨rfl, h⟩⟩⟩
theorem sg_342_398 {x3 : Int32} {s0 : Int32} {M : px_Mem} {Q : px_Po} (h1 : px_T 0 206 0 [some (.ref 56), none] [] M (fun r M1 => px_T 0 342 402 [some (.ref 1000), some (.ref 0), some (.ref 56), some (.int x3)] (r.toList ++ [.int s0]) M1 Q)) : px_T 0 342 398 [some (.ref 1000), some (.ref 0), some (.ref 56), some (.int x3)] [.int s0] M Q := by
  obtain ⟨n, h⟩ := px_T_cl (k := 342) (pc := 399) (y := 206) (st := [.ref 56, .int s0]) rfl (h1)
  exact ⟨n + 2, ⟨rfl, h⟩⟩
theorem sg_342_416 {x3 : Int32} {s0 : Int32} {M : px_Mem} {Q : px_Po} (h1 : vp_in (x3 + 1) (M.1 999 0).toNatClampNeg) (h2 : px_T 0 201 0 [some (.ref 56), some (.int (M.1 1000 ((x3 + 1).toNatClampNeg)))] [] M (fun r M1 => px_T 0 342 425 [some (.ref 1000), some (.ref 0), some (.ref 56), some (.int x3)] (r.toList ++ [.int s0]) M1 Q)) : px_T 0 342 416 [some (.ref 1000), some (.ref 0), some (.ref 56), some (.int x3)] [.int s0] M Q := by
  obtain ⟨n, h⟩ := px_T_cl (k := 342) (pc := 422) (y := 201) (st := [.int (M.1 1000 ((x3 + 1).toNatClampNeg)), .ref 56, .int s0]) rfl (h2)
  exact ⟨n + 7, ⟨Or.inr ⟨rfl, h1⟩, ⟨rfl, h⟩⟩⟩
theorem sg_342_444 {x3 : Int32} {s0 : Int32} {M : px_Mem} {Q : px_Po} (h1 : vp_in (x3 + 1) (M.1 999 0).toNatClampNeg) (h2 : vp_in (x3 + 2) (M.1 999 0).toNatClampNeg) (h3 : px_T 0 207 0 [some (.ref 56), some (.int (M.1 1000 ((x3 + 1).toNatClampNeg))), some (.int (M.1 1000 ((x3 + 2).toNatClampNeg)))] [] M (fun r M1 => px_T 0 342 458 [some (.ref 1000), some (.ref 0), some (.ref 56), some (.int x3)] (r.toList ++ [.int s0]) M1 Q)) : px_T 0 342 444 [some (.ref 1000), some (.ref 0), some (.ref 56), some (.int x3)] [.int s0] M Q := by
  obtain ⟨n, h⟩ := px_T_cl (k := 342) (pc := 455) (y := 207) (st := [.int (M.1 1000 ((x3 + 2).toNatClampNeg)), .int (M.1 1000 ((x3 + 1).toNatClampNeg)), .ref 56, .int s0]) rfl (h3)
  exact ⟨n + 12, ⟨Or.inr ⟨rfl, h1⟩, ⟨Or.inr ⟨rfl, h2⟩, ⟨rfl, h⟩⟩⟩⟩
theorem sg_342_472 {x3 : Int32} {s0 : Int32} {M : px_Mem} {Q : px_Po} (h1 : vp_in (x3 + 1) (M.1 999 0).toNatClampNeg) (h2 : px_T 0 231 0 [some (.ref 56), some (.int (M.1 1000 ((x3 + 1).toNatClampNeg)))] [] M (fun r M1 => px_T 0 342 481 [some (.ref 1000), some (.ref 0), some (.ref 56), some (.int x3)] (r.toList ++ [.int s0]) M1 Q)) : px_T 0 342 472 [some (.ref 1000), some (.ref 0), some (.ref 56), some (.int x3)] [.int s0] M Q := by
  obtain ⟨n, h⟩ := px_T_cl (k := 342) (pc := 478) (y := 231) (st := [.int (M.1 1000 ((x3 + 1).toNatClampNeg)), .ref 56, .int s0]) rfl (h2)
  exact ⟨n + 7, ⟨Or.inr ⟨rfl, h1⟩, ⟨rfl, h⟩⟩⟩
theorem sg_342_495 {x3 : Int32} {s0 : Int32} {M : px_Mem} {Q : px_Po} (h1 : vp_in (x3 + 1) (M.1 999 0).toNatClampNeg) (h2 : px_T 0 232 0 [some (.ref 56), some (.int (M.1 1000 ((x3 + 1).toNatClampNeg))), none, none] [] M (fun r M1 => px_T 0 342 504 [some (.ref 1000), some (.ref 0), some (.ref 56), some (.int x3)] (r.toList ++ [.int s0]) M1 Q)) : px_T 0 342 495 [some (.ref 1000), some (.ref 0), some (.ref 56), some (.int x3)] [.int s0] M Q := by
  obtain ⟨n, h⟩ := px_T_cl (k := 342) (pc := 501) (y := 232) (st := [.int (M.1 1000 ((x3 + 1).toNatClampNeg)), .ref 56, .int s0]) rfl (h2)
  exact ⟨n + 7, ⟨Or.inr ⟨rfl, h1⟩, ⟨rfl, h⟩⟩⟩
theorem sg_342_518 {x3 : Int32} {s0 : Int32} {M : px_Mem} {Q : px_Po} (h1 : vp_in (x3 + 1) (M.1 999 0).toNatClampNeg) (h2 : px_T 0 233 0 [some (.ref 56), some (.int (M.1 1000 ((x3 + 1).toNatClampNeg)))] [] M (fun r M1 => px_T 0 342 527 [some (.ref 1000), some (.ref 0), some (.ref 56), some (.int x3)] (r.toList ++ [.int s0]) M1 Q)) : px_T 0 342 518 [some (.ref 1000), some (.ref 0), some (.ref 56), some (.int x3)] [.int s0] M Q := by
  obtain ⟨n, h⟩ := px_T_cl (k := 342) (pc := 524) (y := 233) (st := [.int (M.1 1000 ((x3 + 1).toNatClampNeg)), .ref 56, .int s0]) rfl (h2)
  exact ⟨n + 7, ⟨Or.inr ⟨rfl, h1⟩, ⟨rfl, h⟩⟩⟩
theorem sg_342_546 {x3 : Int32} {s0 : Int32} {M : px_Mem} {Q : px_Po} (h1 : vp_in (x3 + 1) (M.1 999 0).toNatClampNeg) (h2 : vp_in (x3 + 2) (M.1 999 0).toNatClampNeg) (h3 : px_T 0 234 0 [some (.ref 56), some (.int (M.1 1000 ((x3 + 1).toNatClampNeg))), some (.int (M.1 1000 ((x3 + 2).toNatClampNeg)))] [] M (fun r M1 => px_T 0 342 560 [some (.ref 1000), some (.ref 0), some (.ref 56), some (.int x3)] (r.toList ++ [.int s0]) M1 Q)) : px_T 0 342 546 [some (.ref 1000), some (.ref 0), some (.ref 56), some (.int x3)] [.int s0] M Q := by
  obtain ⟨n, h⟩ := px_T_cl (k := 342) (pc := 557) (y := 234) (st := [.int (M.1 1000 ((x3 + 2).toNatClampNeg)), .int (M.1 1000 ((x3 + 1).toNatClampNeg)), .ref 56, .int s0]) rfl (h3)
  exact ⟨n + 12, ⟨Or.inr ⟨rfl, h1⟩, ⟨Or.inr ⟨rfl, h2⟩, ⟨rfl, h⟩⟩⟩⟩
theorem sg_342_579 {x3 : Int32} {s0 : Int32} {M : px_Mem} {Q : px_Po} (h1 : vp_in (x3 + 1) (M.1 999 0).toNatClampNeg) (h2 : vp_in (x3 + 2) (M.1 999 0).toNatClampNeg) (h3 : px_T 0 235 0 [some (.ref 56), some (.int (M.1 1000 ((x3 + 1).toNatClampNeg))), some (.int (M.1 1000 ((x3 + 2).toNatClampNeg)))] [] M (fun r M1 => px_T 0 342 593 [some (.ref 1000), some (.ref 0), some (.ref 56), some (.int x3)] (r.toList ++ [.int s0]) M1 Q)) : px_T 0 342 579 [some (.ref 1000), some (.ref 0), some (.ref 56), some (.int x3)] [.int s0] M Q := by
  obtain ⟨n, h⟩ := px_T_cl (k := 342) (pc := 590) (y := 235) (st := [.int (M.1 1000 ((x3 + 2).toNatClampNeg)), .int (M.1 1000 ((x3 + 1).toNatClampNeg)), .ref 56, .int s0]) rfl (h3)
  exact ⟨n + 12, ⟨Or.inr ⟨rfl, h1⟩, ⟨Or.inr ⟨rfl, h2⟩, ⟨rfl, h⟩⟩⟩⟩
theorem sg_342_612 {x3 : Int32} {s0 : Int32} {M : px_Mem} {Q : px_Po} (h1 : vp_in (x3 + 1) (M.1 999 0).toNatClampNeg) (h2 : vp_in (x3 + 2) (M.1 999 0).toNatClampNeg) (h3 : px_T 0 236 0 [some (.ref 56), some (.int (M.1 1000 ((x3 + 1).toNatClampNeg))), some (.int (M.1 1000 ((x3 + 2).toNatClampNeg))), none, none] [] M (fun r M1 => px_T 0 342 626 [some (.ref 1000), some (.ref 0), some (.ref 56), some (.int x3)] (r.toList ++ [.int s0]) M1 Q)) : px_T 0 342 612 [some (.ref 1000), some (.ref 0), some (.ref 56), some (.int x3)] [.int s0] M Q := by
  obtain ⟨n, h⟩ := px_T_cl (k := 342) (pc := 623) (y := 236) (st := [.int (M.1 1000 ((x3 + 2).toNatClampNeg)), .int (M.1 1000 ((x3 + 1).toNatClampNeg)), .ref 56, .int s0]) rfl (h3)
  exact ⟨n + 12, ⟨Or.inr ⟨rfl, h1⟩, ⟨Or.inr ⟨rfl, h2⟩, ⟨rfl, h⟩⟩⟩⟩
theorem sg_342_645 {x3 : Int32} {s0 : Int32} {M : px_Mem} {Q : px_Po} (h1 : vp_in (x3 + 1) (M.1 999 0).toNatClampNeg) (h2 : vp_in (x3 + 2) (M.1 999 0).toNatClampNeg) (h3 : px_T 0 238 0 [some (.ref 56), some (.int (M.1 1000 ((x3 + 1).toNatClampNeg))), some (.int (M.1 1000 ((x3 + 2).toNatClampNeg)))] [] M (fun r M1 => px_T 0 342 659 [some (.ref 1000), some (.ref 0), some (.ref 56), some (.int x3)] (r.toList ++ [.int s0]) M1 Q)) : px_T 0 342 645 [some (.ref 1000), some (.ref 0), some (.ref 56), some (.int x3)] [.int s0] M Q := by
  obtain ⟨n, h⟩ := px_T_cl (k := 342) (pc := 656) (y := 238) (st := [.int (M.1 1000 ((x3 + 2).toNatClampNeg)), .int (M.1 1000 ((x3 + 1).toNatClampNeg)), .ref 56, .int s0]) rfl (h3)
  exact ⟨n + 12, ⟨Or.inr ⟨rfl, h1⟩, ⟨Or.inr ⟨rfl, h2⟩, ⟨rfl, h⟩⟩⟩⟩
theorem sg_342_678 {x3 : Int32} {s0 : Int32} {M : px_Mem} {Q : px_Po} (h1 : vp_in (x3 + 1) (M.1 999 0).toNatClampNeg) (h2 : vp_in (x3 + 2) (M.1 999 0).toNatClampNeg) (h3 : px_T 0 239 0 [some (.ref 56), some (.int (M.1 1000 ((x3 + 1).toNatClampNeg))), some (.int (M.1 1000 ((x3 + 2).toNatClampNeg))), none, none] [] M (fun r M1 => px_T 0 342 692 [some (.ref 1000), some (.ref 0), some (.ref 56), some (.int x3)] (r.toList ++ [.int s0]) M1 Q)) : px_T 0 342 678 [some (.ref 1000), some (.ref 0), some (.ref 56), some (.int x3)] [.int s0] M Q := by
  obtain ⟨n, h⟩ := px_T_cl (k := 342) (pc := 689) (y := 239) (st := [.int (M.1 1000 ((x3 + 2).toNatClampNeg)), .int (M.1 1000 ((x3 + 1).toNatClampNeg)), .ref 56, .int s0]) rfl (h3)
  exact ⟨n + 12, ⟨Or.inr ⟨rfl, h1⟩, ⟨Or.inr ⟨rfl, h2⟩, ⟨rfl, h⟩⟩⟩⟩
theorem sg_342_711 {x3 : Int32} {s0 : Int32} {M : px_Mem} {Q : px_Po} (h1 : vp_in (x3 + 1) (M.1 999 0).toNatClampNeg) (h2 : vp_in (x3 + 2) (M.1 999 0).toNatClampNeg) (h3 : px_T 0 241 0 [some (.ref 56), some (.int (M.1 1000 ((x3 + 1).toNatClampNeg))), some (.int (M.1 1000 ((x3 + 2).toNatClampNeg)))] [] M (fun r M1 => px_T 0 342 725 [some (.ref 1000), some (.ref 0), some (.ref 56), some (.int x3)] (r.toList ++ [.int s0]) M1 Q)) : px_T 0 342 711 [some (.ref 1000), some (.ref 0), some (.ref 56), some (.int x3)] [.int s0] M Q := by
  obtain ⟨n, h⟩ := px_T_cl (k := 342) (pc := 722) (y := 241) (st := [.int (M.1 1000 ((x3 + 2).toNatClampNeg)), .int (M.1 1000 ((x3 + 1).toNatClampNeg)), .ref 56, .int s0]) rfl (h3)
  exact ⟨n + 12, ⟨Or.inr ⟨rfl, h1⟩, ⟨Or.inr ⟨rfl, h2⟩, ⟨rfl, h⟩⟩⟩⟩
theorem sg_342_739 {x3 : Int32} {s0 : Int32} {M : px_Mem} {Q : px_Po} (h1 : vp_in (x3 + 1) (M.1 999 0).toNatClampNeg) (h2 : px_T 0 242 0 [some (.ref 56), some (.int (M.1 1000 ((x3 + 1).toNatClampNeg))), none, none] [] M (fun r M1 => px_T 0 342 748 [some (.ref 1000), some (.ref 0), some (.ref 56), some (.int x3)] (r.toList ++ [.int s0]) M1 Q)) : px_T 0 342 739 [some (.ref 1000), some (.ref 0), some (.ref 56), some (.int x3)] [.int s0] M Q := by
  obtain ⟨n, h⟩ := px_T_cl (k := 342) (pc := 745) (y := 242) (st := [.int (M.1 1000 ((x3 + 1).toNatClampNeg)), .ref 56, .int s0]) rfl (h2)
  exact ⟨n + 7, ⟨Or.inr ⟨rfl, h1⟩, ⟨rfl, h⟩⟩⟩
theorem sg_342_762 {x3 : Int32} {s0 : Int32} {M : px_Mem} {Q : px_Po} (h1 : vp_in (x3 + 1) (M.1 999 0).toNatClampNeg) (h2 : px_T 0 244 0 [some (.ref 56), some (.int (M.1 1000 ((x3 + 1).toNatClampNeg)))] [] M (fun r M1 => px_T 0 342 771 [some (.ref 1000), some (.ref 0), some (.ref 56), some (.int x3)] (r.toList ++ [.int s0]) M1 Q)) : px_T 0 342 762 [some (.ref 1000), some (.ref 0), some (.ref 56), some (.int x3)] [.int s0] M Q := by
  obtain ⟨n, h⟩ := px_T_cl (k := 342) (pc := 768) (y := 244) (st := [.int (M.1 1000 ((x3 + 1).toNatClampNeg)), .ref 56, .int s0]) rfl (h2)
  exact ⟨n + 7, ⟨Or.inr ⟨rfl, h1⟩, ⟨rfl, h⟩⟩⟩
theorem sg_342_785 {x3 : Int32} {s0 : Int32} {M : px_Mem} {Q : px_Po} (h1 : vp_in (x3 + 1) (M.1 999 0).toNatClampNeg) (h2 : px_T 0 245 0 [some (.ref 56), some (.int (M.1 1000 ((x3 + 1).toNatClampNeg))), none] [] M (fun r M1 => px_T 0 342 794 [some (.ref 1000), some (.ref 0), some (.ref 56), some (.int x3)] (r.toList ++ [.int s0]) M1 Q)) : px_T 0 342 785 [some (.ref 1000), some (.ref 0), some (.ref 56), some (.int x3)] [.int s0] M Q := by
  obtain ⟨n, h⟩ := px_T_cl (k := 342) (pc := 791) (y := 245) (st := [.int (M.1 1000 ((x3 + 1).toNatClampNeg)), .ref 56, .int s0]) rfl (h2)
  exact ⟨n + 7, ⟨Or.inr ⟨rfl, h1⟩, ⟨rfl, h⟩⟩⟩
theorem sg_342_818 {x3 : Int32} {s0 : Int32} {M : px_Mem} {Q : px_Po} (h1 : vp_in (x3 + 1) (M.1 999 0).toNatClampNeg) (h2 : vp_in (x3 + 2) (M.1 999 0).toNatClampNeg) (h3 : vp_in (x3 + 3) (M.1 999 0).toNatClampNeg) (h4 : px_T 0 248 0 [some (.ref 56), some (.int (M.1 1000 ((x3 + 1).toNatClampNeg))), some (.int (M.1 1000 ((x3 + 2).toNatClampNeg))), some (.int (M.1 1000 ((x3 + 3).toNatClampNeg)))] [] M (fun r M1 => px_T 0 342 837 [some (.ref 1000), some (.ref 0), some (.ref 56), some (.int x3)] (r.toList ++ [.int s0]) M1 Q)) : px_T 0 342 818 [some (.ref 1000), some (.ref 0), some (.ref 56), some (.int x3)] [.int s0] M Q := by
  obtain ⟨n, h⟩ := px_T_cl (k := 342) (pc := 834) (y := 248) (st := [.int (M.1 1000 ((x3 + 3).toNatClampNeg)), .int (M.1 1000 ((x3 + 2).toNatClampNeg)), .int (M.1 1000 ((x3 + 1).toNatClampNeg)), .ref 56, .int s0]) rfl (h4)
  exact ⟨n + 17, ⟨Or.inr ⟨rfl, h1⟩, ⟨Or.inr ⟨rfl, h2⟩, ⟨Or.inr ⟨rfl, h3⟩, ⟨rfl, h⟩⟩⟩⟩⟩
theorem sg_342_856 {x3 : Int32} {s0 : Int32} {M : px_Mem} {Q : px_Po} (h1 : vp_in (x3 + 1) (M.1 999 0).toNatClampNeg) (h2 : vp_in (x3 + 2) (M.1 999 0).toNatClampNeg) (h3 : px_T 0 249 0 [some (.ref 56), some (.int (M.1 1000 ((x3 + 1).toNatClampNeg))), some (.int (M.1 1000 ((x3 + 2).toNatClampNeg))), none, none] [] M (fun r M1 => px_T 0 342 870 [some (.ref 1000), some (.ref 0), some (.ref 56), some (.int x3)] (r.toList ++ [.int s0]) M1 Q)) : px_T 0 342 856 [some (.ref 1000), some (.ref 0), some (.ref 56), some (.int x3)] [.int s0] M Q := by
  obtain ⟨n, h⟩ := px_T_cl (k := 342) (pc := 867) (y := 249) (st := [.int (M.1 1000 ((x3 + 2).toNatClampNeg)), .int (M.1 1000 ((x3 + 1).toNatClampNeg)), .ref 56, .int s0]) rfl (h3)
  exact ⟨n + 12, ⟨Or.inr ⟨rfl, h1⟩, ⟨Or.inr ⟨rfl, h2⟩, ⟨rfl, h⟩⟩⟩⟩
theorem sg_342_889 {x3 : Int32} {s0 : Int32} {M : px_Mem} {Q : px_Po} (h1 : vp_in (x3 + 1) (M.1 999 0).toNatClampNeg) (h2 : vp_in (x3 + 2) (M.1 999 0).toNatClampNeg) (h3 : px_T 0 250 0 [some (.ref 56), some (.int (M.1 1000 ((x3 + 1).toNatClampNeg))), some (.int (M.1 1000 ((x3 + 2).toNatClampNeg)))] [] M (fun r M1 => px_T 0 342 903 [some (.ref 1000), some (.ref 0), some (.ref 56), some (.int x3)] (r.toList ++ [.int s0]) M1 Q)) : px_T 0 342 889 [some (.ref 1000), some (.ref 0), some (.ref 56), some (.int x3)] [.int s0] M Q := by
  obtain ⟨n, h⟩ := px_T_cl (k := 342) (pc := 900) (y := 250) (st := [.int (M.1 1000 ((x3 + 2).toNatClampNeg)), .int (M.1 1000 ((x3 + 1).toNatClampNeg)), .ref 56, .int s0]) rfl (h3)
  exact ⟨n + 12, ⟨Or.inr ⟨rfl, h1⟩, ⟨Or.inr ⟨rfl, h2⟩, ⟨rfl, h⟩⟩⟩⟩
theorem sg_342_922 {x3 : Int32} {s0 : Int32} {M : px_Mem} {Q : px_Po} (h1 : vp_in (x3 + 1) (M.1 999 0).toNatClampNeg) (h2 : vp_in (x3 + 2) (M.1 999 0).toNatClampNeg) (h3 : px_T 0 251 0 [some (.ref 56), some (.int (M.1 1000 ((x3 + 1).toNatClampNeg))), some (.int (M.1 1000 ((x3 + 2).toNatClampNeg)))] [] M (fun r M1 => px_T 0 342 936 [some (.ref 1000), some (.ref 0), some (.ref 56), some (.int x3)] (r.toList ++ [.int s0]) M1 Q)) : px_T 0 342 922 [some (.ref 1000), some (.ref 0), some (.ref 56), some (.int x3)] [.int s0] M Q := by
  obtain ⟨n, h⟩ := px_T_cl (k := 342) (pc := 933) (y := 251) (st := [.int (M.1 1000 ((x3 + 2).toNatClampNeg)), .int (M.1 1000 ((x3 + 1).toNatClampNeg)), .ref 56, .int s0]) rfl (h3)
  exact ⟨n + 12, ⟨Or.inr ⟨rfl, h1⟩, ⟨Or.inr ⟨rfl, h2⟩, ⟨rfl, h⟩⟩⟩⟩
theorem sg_342_950 {x3 : Int32} {s0 : Int32} {M : px_Mem} {Q : px_Po} (h1 : vp_in (x3 + 1) (M.1 999 0).toNatClampNeg) (h2 : px_T 0 252 0 [some (.ref 56), some (.int (M.1 1000 ((x3 + 1).toNatClampNeg))), none, none] [] M (fun r M1 => px_T 0 342 959 [some (.ref 1000), some (.ref 0), some (.ref 56), some (.int x3)] (r.toList ++ [.int s0]) M1 Q)) : px_T 0 342 950 [some (.ref 1000), some (.ref 0), some (.ref 56), some (.int x3)] [.int s0] M Q := by
  obtain ⟨n, h⟩ := px_T_cl (k := 342) (pc := 956) (y := 252) (st := [.int (M.1 1000 ((x3 + 1).toNatClampNeg)), .ref 56, .int s0]) rfl (h2)
  exact ⟨n + 7, ⟨Or.inr ⟨rfl, h1⟩, ⟨rfl, h⟩⟩⟩
theorem sg_342_978 {x3 : Int32} {s0 : Int32} {M : px_Mem} {Q : px_Po} (h1 : vp_in (x3 + 1) (M.1 999 0).toNatClampNeg) (h2 : vp_in (x3 + 2) (M.1 999 0).toNatClampNeg) (h3 : px_T 0 254 0 [some (.ref 56), some (.int (M.1 1000 ((x3 + 1).toNatClampNeg))), some (.int (M.1 1000 ((x3 + 2).toNatClampNeg)))] [] M (fun r M1 => px_T 0 342 992 [some (.ref 1000), some (.ref 0), some (.ref 56), some (.int x3)] (r.toList ++ [.int s0]) M1 Q)) : px_T 0 342 978 [some (.ref 1000), some (.ref 0), some (.ref 56), some (.int x3)] [.int s0] M Q := by
  obtain ⟨n, h⟩ := px_T_cl (k := 342) (pc := 989) (y := 254) (st := [.int (M.1 1000 ((x3 + 2).toNatClampNeg)), .int (M.1 1000 ((x3 + 1).toNatClampNeg)), .ref 56, .int s0]) rfl (h3)
  exact ⟨n + 12, ⟨Or.inr ⟨rfl, h1⟩, ⟨Or.inr ⟨rfl, h2⟩, ⟨rfl, h⟩⟩⟩⟩
theorem sg_342_1006 {x3 : Int32} {s0 : Int32} {M : px_Mem} {Q : px_Po} (h1 : vp_in (x3 + 1) (M.1 999 0).toNatClampNeg) (h2 : px_T 0 255 0 [some (.ref 56), some (.int (M.1 1000 ((x3 + 1).toNatClampNeg))), none, none] [] M (fun r M1 => px_T 0 342 1015 [some (.ref 1000), some (.ref 0), some (.ref 56), some (.int x3)] (r.toList ++ [.int s0]) M1 Q)) : px_T 0 342 1006 [some (.ref 1000), some (.ref 0), some (.ref 56), some (.int x3)] [.int s0] M Q := by
  obtain ⟨n, h⟩ := px_T_cl (k := 342) (pc := 1012) (y := 255) (st := [.int (M.1 1000 ((x3 + 1).toNatClampNeg)), .ref 56, .int s0]) rfl (h2)
  exact ⟨n + 7, ⟨Or.inr ⟨rfl, h1⟩, ⟨rfl, h⟩⟩⟩
theorem sg_342_1039 {x3 : Int32} {s0 : Int32} {M : px_Mem} {Q : px_Po} (h1 : vp_in (x3 + 1) (M.1 999 0).toNatClampNeg) (h2 : vp_in (x3 + 2) (M.1 999 0).toNatClampNeg) (h3 : vp_in (x3 + 3) (M.1 999 0).toNatClampNeg) (h4 : px_T 0 257 0 [some (.ref 56), some (.int (M.1 1000 ((x3 + 1).toNatClampNeg))), some (.int (M.1 1000 ((x3 + 2).toNatClampNeg))), some (.int (M.1 1000 ((x3 + 3).toNatClampNeg)))] [] M (fun r M1 => px_T 0 342 1058 [some (.ref 1000), some (.ref 0), some (.ref 56), some (.int x3)] (r.toList ++ [.int s0]) M1 Q)) : px_T 0 342 1039 [some (.ref 1000), some (.ref 0), some (.ref 56), some (.int x3)] [.int s0] M Q := by
  obtain ⟨n, h⟩ := px_T_cl (k := 342) (pc := 1055) (y := 257) (st := [.int (M.1 1000 ((x3 + 3).toNatClampNeg)), .int (M.1 1000 ((x3 + 2).toNatClampNeg)), .int (M.1 1000 ((x3 + 1).toNatClampNeg)), .ref 56, .int s0]) rfl (h4)
  exact ⟨n + 17, ⟨Or.inr ⟨rfl, h1⟩, ⟨Or.inr ⟨rfl, h2⟩, ⟨Or.inr ⟨rfl, h3⟩, ⟨rfl, h⟩⟩⟩⟩⟩
theorem sg_342_1082 {x3 : Int32} {s0 : Int32} {M : px_Mem} {Q : px_Po} (h1 : vp_in (x3 + 1) (M.1 999 0).toNatClampNeg) (h2 : vp_in (x3 + 2) (M.1 999 0).toNatClampNeg) (h3 : vp_in (x3 + 3) (M.1 999 0).toNatClampNeg) (h4 : px_T 0 258 0 [some (.ref 56), some (.int (M.1 1000 ((x3 + 1).toNatClampNeg))), some (.int (M.1 1000 ((x3 + 2).toNatClampNeg))), some (.int (M.1 1000 ((x3 + 3).toNatClampNeg))), none, none, none, none] [] M (fun r M1 => px_T 0 342 1101 [some (.ref 1000), some (.ref 0), some (.ref 56), some (.int x3)] (r.toList ++ [.int s0]) M1 Q)) : px_T 0 342 1082 [some (.ref 1000), some (.ref 0), some (.ref 56), some (.int x3)] [.int s0] M Q := by
  obtain ⟨n, h⟩ := px_T_cl (k := 342) (pc := 1098) (y := 258) (st := [.int (M.1 1000 ((x3 + 3).toNatClampNeg)), .int (M.1 1000 ((x3 + 2).toNatClampNeg)), .int (M.1 1000 ((x3 + 1).toNatClampNeg)), .ref 56, .int s0]) rfl (h4)
  exact ⟨n + 17, ⟨Or.inr ⟨rfl, h1⟩, ⟨Or.inr ⟨rfl, h2⟩, ⟨Or.inr ⟨rfl, h3⟩, ⟨rfl, h⟩⟩⟩⟩⟩
theorem sg_342_1120 {x3 : Int32} {s0 : Int32} {M : px_Mem} {Q : px_Po} (h1 : vp_in (x3 + 1) (M.1 999 0).toNatClampNeg) (h2 : vp_in (x3 + 2) (M.1 999 0).toNatClampNeg) (h3 : px_T 0 263 0 [some (.ref 56), some (.int (M.1 1000 ((x3 + 1).toNatClampNeg))), some (.int (M.1 1000 ((x3 + 2).toNatClampNeg)))] [] M (fun r M1 => px_T 0 342 1134 [some (.ref 1000), some (.ref 0), some (.ref 56), some (.int x3)] (r.toList ++ [.int s0]) M1 Q)) : px_T 0 342 1120 [some (.ref 1000), some (.ref 0), some (.ref 56), some (.int x3)] [.int s0] M Q := by
  obtain ⟨n, h⟩ := px_T_cl (k := 342) (pc := 1131) (y := 263) (st := [.int (M.1 1000 ((x3 + 2).toNatClampNeg)), .int (M.1 1000 ((x3 + 1).toNatClampNeg)), .ref 56, .int s0]) rfl (h3)
  exact ⟨n + 12, ⟨Or.inr ⟨rfl, h1⟩, ⟨Or.inr ⟨rfl, h2⟩, ⟨rfl, h⟩⟩⟩⟩
theorem sg_342_1148 {x3 : Int32} {s0 : Int32} {M : px_Mem} {Q : px_Po} (h1 : vp_in (x3 + 1) (M.1 999 0).toNatClampNeg) (h2 : px_T 0 264 0 [some (.ref 56), some (.int (M.1 1000 ((x3 + 1).toNatClampNeg)))] [] M (fun r M1 => px_T 0 342 1157 [some (.ref 1000), some (.ref 0), some (.ref 56), some (.int x3)] (r.toList ++ [.int s0]) M1 Q)) : px_T 0 342 1148 [some (.ref 1000), some (.ref 0), some (.ref 56), some (.int x3)] [.int s0] M Q := by
  obtain ⟨n, h⟩ := px_T_cl (k := 342) (pc := 1154) (y := 264) (st := [.int (M.1 1000 ((x3 + 1).toNatClampNeg)), .ref 56, .int s0]) rfl (h2)
  exact ⟨n + 7, ⟨Or.inr ⟨rfl, h1⟩, ⟨rfl, h⟩⟩⟩
theorem sg_342_1166 {x3 : Int32} {s0 : Int32} {M : px_Mem} {Q : px_Po} (h1 : px_T 0 265 0 [some (.ref 56), none, none] [] M (fun r M1 => px_T 0 342 1170 [some (.ref 1000), some (.ref 0), some (.ref 56), some (.int x3)] (r.toList ++ [.int s0]) M1 Q)) : px_T 0 342 1166 [some (.ref 1000), some (.ref 0), some (.ref 56), some (.int x3)] [.int s0] M Q := by
  obtain ⟨n, h⟩ := px_T_cl (k := 342) (pc := 1167) (y := 265) (st := [.ref 56, .int s0]) rfl (h1)
  exact ⟨n + 2, ⟨rfl, h⟩⟩
theorem sg_342_1179 {x3 : Int32} {s0 : Int32} {M : px_Mem} {Q : px_Po} (h1 : px_T 0 266 0 [some (.ref 56), none, none, none, none, none] [] M (fun r M1 => px_T 0 342 1183 [some (.ref 1000), some (.ref 0), some (.ref 56), some (.int x3)] (r.toList ++ [.int s0]) M1 Q)) : px_T 0 342 1179 [some (.ref 1000), some (.ref 0), some (.ref 56), some (.int x3)] [.int s0] M Q := by
  obtain ⟨n, h⟩ := px_T_cl (k := 342) (pc := 1180) (y := 266) (st := [.ref 56, .int s0]) rfl (h1)
  exact ⟨n + 2, ⟨rfl, h⟩⟩
theorem sg_342_1202 {x3 : Int32} {s0 : Int32} {M : px_Mem} {Q : px_Po} (h1 : vp_in (x3 + 1) (M.1 999 0).toNatClampNeg) (h2 : vp_in (x3 + 2) (M.1 999 0).toNatClampNeg) (h3 : px_T 0 273 0 [some (.ref 56), some (.int (M.1 1000 ((x3 + 1).toNatClampNeg))), some (.int (M.1 1000 ((x3 + 2).toNatClampNeg)))] [] M (fun r M1 => px_T 0 342 1216 [some (.ref 1000), some (.ref 0), some (.ref 56), some (.int x3)] (r.toList ++ [.int s0]) M1 Q)) : px_T 0 342 1202 [some (.ref 1000), some (.ref 0), some (.ref 56), some (.int x3)] [.int s0] M Q := by
  obtain ⟨n, h⟩ := px_T_cl (k := 342) (pc := 1213) (y := 273) (st := [.int (M.1 1000 ((x3 + 2).toNatClampNeg)), .int (M.1 1000 ((x3 + 1).toNatClampNeg)), .ref 56, .int s0]) rfl (h3)
  exact ⟨n + 12, ⟨Or.inr ⟨rfl, h1⟩, ⟨Or.inr ⟨rfl, h2⟩, ⟨rfl, h⟩⟩⟩⟩
theorem sg_342_1230 {x3 : Int32} {s0 : Int32} {M : px_Mem} {Q : px_Po} (h1 : vp_in (x3 + 1) (M.1 999 0).toNatClampNeg) (h2 : px_T 0 274 0 [some (.ref 56), some (.int (M.1 1000 ((x3 + 1).toNatClampNeg)))] [] M (fun r M1 => px_T 0 342 1239 [some (.ref 1000), some (.ref 0), some (.ref 56), some (.int x3)] (r.toList ++ [.int s0]) M1 Q)) : px_T 0 342 1230 [some (.ref 1000), some (.ref 0), some (.ref 56), some (.int x3)] [.int s0] M Q := by
  obtain ⟨n, h⟩ := px_T_cl (k := 342) (pc := 1236) (y := 274) (st := [.int (M.1 1000 ((x3 + 1).toNatClampNeg)), .ref 56, .int s0]) rfl (h2)
  exact ⟨n + 7, ⟨Or.inr ⟨rfl, h1⟩, ⟨rfl, h⟩⟩⟩
theorem sg_342_1253 {x3 : Int32} {s0 : Int32} {M : px_Mem} {Q : px_Po} (h1 : vp_in (x3 + 1) (M.1 999 0).toNatClampNeg) (h2 : px_T 0 275 0 [some (.ref 56), some (.int (M.1 1000 ((x3 + 1).toNatClampNeg))), none, none] [] M (fun r M1 => px_T 0 342 1262 [some (.ref 1000), some (.ref 0), some (.ref 56), some (.int x3)] (r.toList ++ [.int s0]) M1 Q)) : px_T 0 342 1253 [some (.ref 1000), some (.ref 0), some (.ref 56), some (.int x3)] [.int s0] M Q := by
  obtain ⟨n, h⟩ := px_T_cl (k := 342) (pc := 1259) (y := 275) (st := [.int (M.1 1000 ((x3 + 1).toNatClampNeg)), .ref 56, .int s0]) rfl (h2)
  exact ⟨n + 7, ⟨Or.inr ⟨rfl, h1⟩, ⟨rfl, h⟩⟩⟩
theorem sg_342_1281 {x3 : Int32} {s0 : Int32} {M : px_Mem} {Q : px_Po} (h1 : vp_in (x3 + 1) (M.1 999 0).toNatClampNeg) (h2 : vp_in (x3 + 2) (M.1 999 0).toNatClampNeg) (h3 : px_T 0 276 0 [some (.ref 56), some (.int (M.1 1000 ((x3 + 1).toNatClampNeg))), some (.int (M.1 1000 ((x3 + 2).toNatClampNeg)))] [] M (fun r M1 => px_T 0 342 1295 [some (.ref 1000), some (.ref 0), some (.ref 56), some (.int x3)] (r.toList ++ [.int s0]) M1 Q)) : px_T 0 342 1281 [some (.ref 1000), some (.ref 0), some (.ref 56), some (.int x3)] [.int s0] M Q := by
  obtain ⟨n, h⟩ := px_T_cl (k := 342) (pc := 1292) (y := 276) (st := [.int (M.1 1000 ((x3 + 2).toNatClampNeg)), .int (M.1 1000 ((x3 + 1).toNatClampNeg)), .ref 56, .int s0]) rfl (h3)
  exact ⟨n + 12, ⟨Or.inr ⟨rfl, h1⟩, ⟨Or.inr ⟨rfl, h2⟩, ⟨rfl, h⟩⟩⟩⟩
theorem sg_342_1309 {x3 : Int32} {s0 : Int32} {M : px_Mem} {Q : px_Po} (h1 : vp_in (x3 + 1) (M.1 999 0).toNatClampNeg) (h2 : px_T 0 277 0 [some (.ref 56), some (.int (M.1 1000 ((x3 + 1).toNatClampNeg))), none, none] [] M (fun r M1 => px_T 0 342 1318 [some (.ref 1000), some (.ref 0), some (.ref 56), some (.int x3)] (r.toList ++ [.int s0]) M1 Q)) : px_T 0 342 1309 [some (.ref 1000), some (.ref 0), some (.ref 56), some (.int x3)] [.int s0] M Q := by
  obtain ⟨n, h⟩ := px_T_cl (k := 342) (pc := 1315) (y := 277) (st := [.int (M.1 1000 ((x3 + 1).toNatClampNeg)), .ref 56, .int s0]) rfl (h2)
  exact ⟨n + 7, ⟨Or.inr ⟨rfl, h1⟩, ⟨rfl, h⟩⟩⟩
theorem sg_342_1327 {x3 : Int32} {s0 : Int32} {M : px_Mem} {Q : px_Po} (h1 : px_T 0 278 0 [some (.ref 56), none] [] M (fun r M1 => px_T 0 342 1331 [some (.ref 1000), some (.ref 0), some (.ref 56), some (.int x3)] (r.toList ++ [.int s0]) M1 Q)) : px_T 0 342 1327 [some (.ref 1000), some (.ref 0), some (.ref 56), some (.int x3)] [.int s0] M Q := by
  obtain ⟨n, h⟩ := px_T_cl (k := 342) (pc := 1328) (y := 278) (st := [.ref 56, .int s0]) rfl (h1)
  exact ⟨n + 2, ⟨rfl, h⟩⟩
theorem sg_342_1355 {x3 : Int32} {s0 : Int32} {M : px_Mem} {Q : px_Po} (h1 : vp_in (x3 + 1) (M.1 999 0).toNatClampNeg) (h2 : vp_in (x3 + 2) (M.1 999 0).toNatClampNeg) (h3 : vp_in (x3 + 3) (M.1 999 0).toNatClampNeg) (h4 : px_T 0 280 0 [some (.ref 56), some (.int (M.1 1000 ((x3 + 1).toNatClampNeg))), some (.int (M.1 1000 ((x3 + 2).toNatClampNeg))), some (.int (M.1 1000 ((x3 + 3).toNatClampNeg)))] [] M (fun r M1 => px_T 0 342 1374 [some (.ref 1000), some (.ref 0), some (.ref 56), some (.int x3)] (r.toList ++ [.int s0]) M1 Q)) : px_T 0 342 1355 [some (.ref 1000), some (.ref 0), some (.ref 56), some (.int x3)] [.int s0] M Q := by
  obtain ⟨n, h⟩ := px_T_cl (k := 342) (pc := 1371) (y := 280) (st := [.int (M.1 1000 ((x3 + 3).toNatClampNeg)), .int (M.1 1000 ((x3 + 2).toNatClampNeg)), .int (M.1 1000 ((x3 + 1).toNatClampNeg)), .ref 56, .int s0]) rfl (h4)
  exact ⟨n + 17, ⟨Or.inr ⟨rfl, h1⟩, ⟨Or.inr ⟨rfl, h2⟩, ⟨Or.inr ⟨rfl, h3⟩, ⟨rfl, h⟩⟩⟩⟩⟩
theorem sg_342_1403 {x3 : Int32} {s0 : Int32} {M : px_Mem} {Q : px_Po} (h1 : vp_in (x3 + 1) (M.1 999 0).toNatClampNeg) (h2 : vp_in (x3 + 2) (M.1 999 0).toNatClampNeg) (h3 : vp_in (x3 + 3) (M.1 999 0).toNatClampNeg) (h4 : vp_in (x3 + 4) (M.1 999 0).toNatClampNeg) (h5 : px_T 0 286 0 [some (.ref 56), some (.int (M.1 1000 ((x3 + 1).toNatClampNeg))), some (.int (M.1 1000 ((x3 + 2).toNatClampNeg))), some (.int (M.1 1000 ((x3 + 3).toNatClampNeg))), some (.int (M.1 1000 ((x3 + 4).toNatClampNeg)))] [] M (fun r M1 => px_T 0 342 1427 [some (.ref 1000), some (.ref 0), some (.ref 56), some (.int x3)] (r.toList ++ [.int s0]) M1 Q)) : px_T 0 342 1403 [some (.ref 1000), some (.ref 0), some (.ref 56), some (.int x3)] [.int s0] M Q := by
  obtain ⟨n, h⟩ := px_T_cl (k := 342) (pc := 1424) (y := 286) (st := [.int (M.1 1000 ((x3 + 4).toNatClampNeg)), .int (M.1 1000 ((x3 + 3).toNatClampNeg)), .int (M.1 1000 ((x3 + 2).toNatClampNeg)), .int (M.1 1000 ((x3 + 1).toNatClampNeg)), .ref 56, .int s0]) rfl (h5)
  exact ⟨n + 22, ⟨Or.inr ⟨rfl, h1⟩, ⟨Or.inr ⟨rfl, h2⟩, ⟨Or.inr ⟨rfl, h3⟩, ⟨Or.inr ⟨rfl, h4⟩, ⟨rfl, h⟩⟩⟩⟩⟩⟩
theorem sg_342_1451 {x3 : Int32} {s0 : Int32} {M : px_Mem} {Q : px_Po} (h1 : vp_in (x3 + 1) (M.1 999 0).toNatClampNeg) (h2 : vp_in (x3 + 2) (M.1 999 0).toNatClampNeg) (h3 : vp_in (x3 + 3) (M.1 999 0).toNatClampNeg) (h4 : px_T 0 287 0 [some (.ref 56), some (.int (M.1 1000 ((x3 + 1).toNatClampNeg))), some (.int (M.1 1000 ((x3 + 2).toNatClampNeg))), some (.int (M.1 1000 ((x3 + 3).toNatClampNeg)))] [] M (fun r M1 => px_T 0 342 1470 [some (.ref 1000), some (.ref 0), some (.ref 56), some (.int x3)] (r.toList ++ [.int s0]) M1 Q)) : px_T 0 342 1451 [some (.ref 1000), some (.ref 0), some (.ref 56), some (.int x3)] [.int s0] M Q := by
  obtain ⟨n, h⟩ := px_T_cl (k := 342) (pc := 1467) (y := 287) (st := [.int (M.1 1000 ((x3 + 3).toNatClampNeg)), .int (M.1 1000 ((x3 + 2).toNatClampNeg)), .int (M.1 1000 ((x3 + 1).toNatClampNeg)), .ref 56, .int s0]) rfl (h4)
  exact ⟨n + 17, ⟨Or.inr ⟨rfl, h1⟩, ⟨Or.inr ⟨rfl, h2⟩, ⟨Or.inr ⟨rfl, h3⟩, ⟨rfl, h⟩⟩⟩⟩⟩
theorem sg_342_1489 {x3 : Int32} {s0 : Int32} {M : px_Mem} {Q : px_Po} (h1 : vp_in (x3 + 1) (M.1 999 0).toNatClampNeg) (h2 : vp_in (x3 + 2) (M.1 999 0).toNatClampNeg) (h3 : px_T 0 288 0 [some (.ref 56), some (.int (M.1 1000 ((x3 + 1).toNatClampNeg))), some (.int (M.1 1000 ((x3 + 2).toNatClampNeg))), none, none, none] [] M (fun r M1 => px_T 0 342 1503 [some (.ref 1000), some (.ref 0), some (.ref 56), some (.int x3)] (r.toList ++ [.int s0]) M1 Q)) : px_T 0 342 1489 [some (.ref 1000), some (.ref 0), some (.ref 56), some (.int x3)] [.int s0] M Q := by
  obtain ⟨n, h⟩ := px_T_cl (k := 342) (pc := 1500) (y := 288) (st := [.int (M.1 1000 ((x3 + 2).toNatClampNeg)), .int (M.1 1000 ((x3 + 1).toNatClampNeg)), .ref 56, .int s0]) rfl (h3)
  exact ⟨n + 12, ⟨Or.inr ⟨rfl, h1⟩, ⟨Or.inr ⟨rfl, h2⟩, ⟨rfl, h⟩⟩⟩⟩
theorem sg_342_1512 {x3 : Int32} {s0 : Int32} {M : px_Mem} {Q : px_Po} (h1 : px_T 0 290 0 [some (.ref 56), none, none, none] [] M (fun r M1 => px_T 0 342 1516 [some (.ref 1000), some (.ref 0), some (.ref 56), some (.int x3)] (r.toList ++ [.int s0]) M1 Q)) : px_T 0 342 1512 [some (.ref 1000), some (.ref 0), some (.ref 56), some (.int x3)] [.int s0] M Q := by
  obtain ⟨n, h⟩ := px_T_cl (k := 342) (pc := 1513) (y := 290) (st := [.ref 56, .int s0]) rfl (h1)
  exact ⟨n + 2, ⟨rfl, h⟩⟩
theorem sg_342_1525 {x3 : Int32} {s0 : Int32} {M : px_Mem} {Q : px_Po} (h1 : px_T 0 292 0 [some (.ref 56), none, none, none, none, none] [] M (fun r M1 => px_T 0 342 1529 [some (.ref 1000), some (.ref 0), some (.ref 56), some (.int x3)] (r.toList ++ [.int s0]) M1 Q)) : px_T 0 342 1525 [some (.ref 1000), some (.ref 0), some (.ref 56), some (.int x3)] [.int s0] M Q := by
  obtain ⟨n, h⟩ := px_T_cl (k := 342) (pc := 1526) (y := 292) (st := [.ref 56, .int s0]) rfl (h1)
  exact ⟨n + 2, ⟨rfl, h⟩⟩
theorem sg_342_1543 {x3 : Int32} {s0 : Int32} {M : px_Mem} {Q : px_Po} (h1 : vp_in (x3 + 1) (M.1 999 0).toNatClampNeg) (h2 : px_T 0 297 0 [some (.ref 56), some (.int (M.1 1000 ((x3 + 1).toNatClampNeg))), none] [] M (fun r M1 => px_T 0 342 1552 [some (.ref 1000), some (.ref 0), some (.ref 56), some (.int x3)] (r.toList ++ [.int s0]) M1 Q)) : px_T 0 342 1543 [some (.ref 1000), some (.ref 0), some (.ref 56), some (.int x3)] [.int s0] M Q := by
  obtain ⟨n, h⟩ := px_T_cl (k := 342) (pc := 1549) (y := 297) (st := [.int (M.1 1000 ((x3 + 1).toNatClampNeg)), .ref 56, .int s0]) rfl (h2)
  exact ⟨n + 7, ⟨Or.inr ⟨rfl, h1⟩, ⟨rfl, h⟩⟩⟩
theorem sg_342_1566 {x3 : Int32} {s0 : Int32} {M : px_Mem} {Q : px_Po} (h1 : vp_in (x3 + 1) (M.1 999 0).toNatClampNeg) (h2 : px_T 0 298 0 [some (.ref 56), some (.int (M.1 1000 ((x3 + 1).toNatClampNeg))), none] [] M (fun r M1 => px_T 0 342 1575 [some (.ref 1000), some (.ref 0), some (.ref 56), some (.int x3)] (r.toList ++ [.int s0]) M1 Q)) : px_T 0 342 1566 [some (.ref 1000), some (.ref 0), some (.ref 56), some (.int x3)] [.int s0] M Q := by
  obtain ⟨n, h⟩ := px_T_cl (k := 342) (pc := 1572) (y := 298) (st := [.int (M.1 1000 ((x3 + 1).toNatClampNeg)), .ref 56, .int s0]) rfl (h2)
  exact ⟨n + 7, ⟨Or.inr ⟨rfl, h1⟩, ⟨rfl, h⟩⟩⟩
theorem sg_342_1589 {x3 : Int32} {s0 : Int32} {M : px_Mem} {Q : px_Po} (h1 : vp_in (x3 + 1) (M.1 999 0).toNatClampNeg) (h2 : px_T 0 299 0 [some (.ref 56), some (.int (M.1 1000 ((x3 + 1).toNatClampNeg))), none] [] M (fun r M1 => px_T 0 342 1598 [some (.ref 1000), some (.ref 0), some (.ref 56), some (.int x3)] (r.toList ++ [.int s0]) M1 Q)) : px_T 0 342 1589 [some (.ref 1000), some (.ref 0), some (.ref 56), some (.int x3)] [.int s0] M Q := by
  obtain ⟨n, h⟩ := px_T_cl (k := 342) (pc := 1595) (y := 299) (st := [.int (M.1 1000 ((x3 + 1).toNatClampNeg)), .ref 56, .int s0]) rfl (h2)
  exact ⟨n + 7, ⟨Or.inr ⟨rfl, h1⟩, ⟨rfl, h⟩⟩⟩
theorem sg_342_1612 {x3 : Int32} {s0 : Int32} {M : px_Mem} {Q : px_Po} (h1 : vp_in (x3 + 1) (M.1 999 0).toNatClampNeg) (h2 : px_T 0 300 0 [some (.ref 56), some (.int (M.1 1000 ((x3 + 1).toNatClampNeg))), none, none] [] M (fun r M1 => px_T 0 342 1621 [some (.ref 1000), some (.ref 0), some (.ref 56), some (.int x3)] (r.toList ++ [.int s0]) M1 Q)) : px_T 0 342 1612 [some (.ref 1000), some (.ref 0), some (.ref 56), some (.int x3)] [.int s0] M Q := by
  obtain ⟨n, h⟩ := px_T_cl (k := 342) (pc := 1618) (y := 300) (st := [.int (M.1 1000 ((x3 + 1).toNatClampNeg)), .ref 56, .int s0]) rfl (h2)
  exact ⟨n + 7, ⟨Or.inr ⟨rfl, h1⟩, ⟨rfl, h⟩⟩⟩
theorem sg_342_1635 {x3 : Int32} {s0 : Int32} {M : px_Mem} {Q : px_Po} (h1 : vp_in (x3 + 1) (M.1 999 0).toNatClampNeg) (h2 : px_T 0 302 0 [some (.ref 56), some (.int (M.1 1000 ((x3 + 1).toNatClampNeg)))] [] M (fun r M1 => px_T 0 342 1644 [some (.ref 1000), some (.ref 0), some (.ref 56), some (.int x3)] (r.toList ++ [.int s0]) M1 Q)) : px_T 0 342 1635 [some (.ref 1000), some (.ref 0), some (.ref 56), some (.int x3)] [.int s0] M Q := by
  obtain ⟨n, h⟩ := px_T_cl (k := 342) (pc := 1641) (y := 302) (st := [.int (M.1 1000 ((x3 + 1).toNatClampNeg)), .ref 56, .int s0]) rfl (h2)
  exact ⟨n + 7, ⟨Or.inr ⟨rfl, h1⟩, ⟨rfl, h⟩⟩⟩
theorem sg_342_1653 {x3 : Int32} {s0 : Int32} {M : px_Mem} {Q : px_Po} (h1 : px_T 0 303 0 [some (.ref 56), none, none] [] M (fun r M1 => px_T 0 342 1657 [some (.ref 1000), some (.ref 0), some (.ref 56), some (.int x3)] (r.toList ++ [.int s0]) M1 Q)) : px_T 0 342 1653 [some (.ref 1000), some (.ref 0), some (.ref 56), some (.int x3)] [.int s0] M Q := by
  obtain ⟨n, h⟩ := px_T_cl (k := 342) (pc := 1654) (y := 303) (st := [.ref 56, .int s0]) rfl (h1)
  exact ⟨n + 2, ⟨rfl, h⟩⟩
theorem sg_342_1671 {x3 : Int32} {s0 : Int32} {M : px_Mem} {Q : px_Po} (h1 : vp_in (x3 + 1) (M.1 999 0).toNatClampNeg) (h2 : px_T 0 305 0 [some (.ref 56), some (.int (M.1 1000 ((x3 + 1).toNatClampNeg)))] [] M (fun r M1 => px_T 0 342 1680 [some (.ref 1000), some (.ref 0), some (.ref 56), some (.int x3)] (r.toList ++ [.int s0]) M1 Q)) : px_T 0 342 1671 [some (.ref 1000), some (.ref 0), some (.ref 56), some (.int x3)] [.int s0] M Q := by
  obtain ⟨n, h⟩ := px_T_cl (k := 342) (pc := 1677) (y := 305) (st := [.int (M.1 1000 ((x3 + 1).toNatClampNeg)), .ref 56, .int s0]) rfl (h2)
  exact ⟨n + 7, ⟨Or.inr ⟨rfl, h1⟩, ⟨rfl, h⟩⟩⟩
theorem sg_342_1699 {x3 : Int32} {s0 : Int32} {M : px_Mem} {Q : px_Po} (h1 : vp_in (x3 + 1) (M.1 999 0).toNatClampNeg) (h2 : vp_in (x3 + 2) (M.1 999 0).toNatClampNeg) (h3 : px_T 0 309 0 [some (.ref 56), some (.int (M.1 1000 ((x3 + 1).toNatClampNeg))), some (.int (M.1 1000 ((x3 + 2).toNatClampNeg))), none, none, none, none] [] M (fun r M1 => px_T 0 342 1713 [some (.ref 1000), some (.ref 0), some (.ref 56), some (.int x3)] (r.toList ++ [.int s0]) M1 Q)) : px_T 0 342 1699 [some (.ref 1000), some (.ref 0), some (.ref 56), some (.int x3)] [.int s0] M Q := by
  obtain ⟨n, h⟩ := px_T_cl (k := 342) (pc := 1710) (y := 309) (st := [.int (M.1 1000 ((x3 + 2).toNatClampNeg)), .int (M.1 1000 ((x3 + 1).toNatClampNeg)), .ref 56, .int s0]) rfl (h3)
  exact ⟨n + 12, ⟨Or.inr ⟨rfl, h1⟩, ⟨Or.inr ⟨rfl, h2⟩, ⟨rfl, h⟩⟩⟩⟩
theorem sg_342_1732 {x3 : Int32} {s0 : Int32} {M : px_Mem} {Q : px_Po} (h1 : vp_in (x3 + 1) (M.1 999 0).toNatClampNeg) (h2 : vp_in (x3 + 2) (M.1 999 0).toNatClampNeg) (h3 : px_T 0 312 0 [some (.ref 56), some (.int (M.1 1000 ((x3 + 1).toNatClampNeg))), some (.int (M.1 1000 ((x3 + 2).toNatClampNeg))), none, none, none, none, none] [] M (fun r M1 => px_T 0 342 1746 [some (.ref 1000), some (.ref 0), some (.ref 56), some (.int x3)] (r.toList ++ [.int s0]) M1 Q)) : px_T 0 342 1732 [some (.ref 1000), some (.ref 0), some (.ref 56), some (.int x3)] [.int s0] M Q := by
  obtain ⟨n, h⟩ := px_T_cl (k := 342) (pc := 1743) (y := 312) (st := [.int (M.1 1000 ((x3 + 2).toNatClampNeg)), .int (M.1 1000 ((x3 + 1).toNatClampNeg)), .ref 56, .int s0]) rfl (h3)
  exact ⟨n + 12, ⟨Or.inr ⟨rfl, h1⟩, ⟨Or.inr ⟨rfl, h2⟩, ⟨rfl, h⟩⟩⟩⟩
theorem sg_342_1775 {x3 : Int32} {s0 : Int32} {M : px_Mem} {Q : px_Po} (h1 : vp_in (x3 + 1) (M.1 999 0).toNatClampNeg) (h2 : vp_in (x3 + 2) (M.1 999 0).toNatClampNeg) (h3 : vp_in (x3 + 3) (M.1 999 0).toNatClampNeg) (h4 : vp_in (x3 + 4) (M.1 999 0).toNatClampNeg) (h5 : px_T 0 313 0 [some (.ref 56), some (.int (M.1 1000 ((x3 + 1).toNatClampNeg))), some (.int (M.1 1000 ((x3 + 2).toNatClampNeg))), some (.int (M.1 1000 ((x3 + 3).toNatClampNeg))), some (.int (M.1 1000 ((x3 + 4).toNatClampNeg)))] [] M (fun r M1 => px_T 0 342 1799 [some (.ref 1000), some (.ref 0), some (.ref 56), some (.int x3)] (r.toList ++ [.int s0]) M1 Q)) : px_T 0 342 1775 [some (.ref 1000), some (.ref 0), some (.ref 56), some (.int x3)] [.int s0] M Q := by
  obtain ⟨n, h⟩ := px_T_cl (k := 342) (pc := 1796) (y := 313) (st := [.int (M.1 1000 ((x3 + 4).toNatClampNeg)), .int (M.1 1000 ((x3 + 3).toNatClampNeg)), .int (M.1 1000 ((x3 + 2).toNatClampNeg)), .int (M.1 1000 ((x3 + 1).toNatClampNeg)), .ref 56, .int s0]) rfl (h5)
  exact ⟨n + 22, ⟨Or.inr ⟨rfl, h1⟩, ⟨Or.inr ⟨rfl, h2⟩, ⟨Or.inr ⟨rfl, h3⟩, ⟨Or.inr ⟨rfl, h4⟩, ⟨rfl, h⟩⟩⟩⟩⟩⟩
theorem sg_342_1823 {x3 : Int32} {s0 : Int64} {M : px_Mem} {Q : px_Po} (h1 : vp_in (x3 + 1) (M.1 999 0).toNatClampNeg) (h2 : vp_in (x3 + 2) (M.1 999 0).toNatClampNeg) (h3 : vp_in (x3 + 3) (M.1 999 0).toNatClampNeg) (h4 : px_T 0 316 0 [some (.ref 56), some (.int (M.1 1000 ((x3 + 1).toNatClampNeg))), some (.int (M.1 1000 ((x3 + 2).toNatClampNeg))), some (.int (M.1 1000 ((x3 + 3).toNatClampNeg)))] [] M (fun r M1 => px_T 0 342 1842 [some (.ref 1000), some (.ref 0), some (.ref 56), some (.int x3)] (r.toList ++ [.long s0]) M1 Q)) : px_T 0 342 1823 [some (.ref 1000), some (.ref 0), some (.ref 56), some (.int x3)] [.long s0] M Q := by
  obtain ⟨n, h⟩ := px_T_cl (k := 342) (pc := 1839) (y := 316) (st := [.int (M.1 1000 ((x3 + 3).toNatClampNeg)), .int (M.1 1000 ((x3 + 2).toNatClampNeg)), .int (M.1 1000 ((x3 + 1).toNatClampNeg)), .ref 56, .long s0]) rfl (h4)
  exact ⟨n + 17, ⟨Or.inr ⟨rfl, h1⟩, ⟨Or.inr ⟨rfl, h2⟩, ⟨Or.inr ⟨rfl, h3⟩, ⟨rfl, h⟩⟩⟩⟩⟩
theorem sg_342_1862 {x3 : Int32} {s0 : Int64} {M : px_Mem} {Q : px_Po} (h1 : vp_in (x3 + 1) (M.1 999 0).toNatClampNeg) (h2 : vp_in (x3 + 2) (M.1 999 0).toNatClampNeg) (h3 : px_T 0 317 0 [some (.ref 56), some (.int (M.1 1000 ((x3 + 1).toNatClampNeg))), some (.int (M.1 1000 ((x3 + 2).toNatClampNeg)))] [] M (fun r M1 => px_T 0 342 1876 [some (.ref 1000), some (.ref 0), some (.ref 56), some (.int x3)] (r.toList ++ [.long s0]) M1 Q)) : px_T 0 342 1862 [some (.ref 1000), some (.ref 0), some (.ref 56), some (.int x3)] [.long s0] M Q := by
  obtain ⟨n, h⟩ := px_T_cl (k := 342) (pc := 1873) (y := 317) (st := [.int (M.1 1000 ((x3 + 2).toNatClampNeg)), .int (M.1 1000 ((x3 + 1).toNatClampNeg)), .ref 56, .long s0]) rfl (h3)
  exact ⟨n + 12, ⟨Or.inr ⟨rfl, h1⟩, ⟨Or.inr ⟨rfl, h2⟩, ⟨rfl, h⟩⟩⟩⟩
theorem sg_342_1906 {x3 : Int32} {s0 : Int32} {M : px_Mem} {Q : px_Po} (h1 : vp_in (x3 + 1) (M.1 999 0).toNatClampNeg) (h2 : vp_in (x3 + 2) (M.1 999 0).toNatClampNeg) (h3 : vp_in (x3 + 3) (M.1 999 0).toNatClampNeg) (h4 : vp_in (x3 + 4) (M.1 999 0).toNatClampNeg) (h5 : px_T 0 319 0 [some (.ref 56), some (.int (M.1 1000 ((x3 + 1).toNatClampNeg))), some (.int (M.1 1000 ((x3 + 2).toNatClampNeg))), some (.int (M.1 1000 ((x3 + 3).toNatClampNeg))), some (.int (M.1 1000 ((x3 + 4).toNatClampNeg))), none] [] M (fun r M1 => px_T 0 342 1930 [some (.ref 1000), some (.ref 0), some (.ref 56), some (.int x3)] (r.toList ++ [.int s0]) M1 Q)) : px_T 0 342 1906 [some (.ref 1000), some (.ref 0), some (.ref 56), some (.int x3)] [.int s0] M Q := by
  obtain ⟨n, h⟩ := px_T_cl (k := 342) (pc := 1927) (y := 319) (st := [.int (M.1 1000 ((x3 + 4).toNatClampNeg)), .int (M.1 1000 ((x3 + 3).toNatClampNeg)), .int (M.1 1000 ((x3 + 2).toNatClampNeg)), .int (M.1 1000 ((x3 + 1).toNatClampNeg)), .ref 56, .int s0]) rfl (h5)
  exact ⟨n + 22, ⟨Or.inr ⟨rfl, h1⟩, ⟨Or.inr ⟨rfl, h2⟩, ⟨Or.inr ⟨rfl, h3⟩, ⟨Or.inr ⟨rfl, h4⟩, ⟨rfl, h⟩⟩⟩⟩⟩⟩
theorem sg_342_1939 {x3 : Int32} {s0 : Int32} {M : px_Mem} {Q : px_Po} (h1 : px_T 0 320 0 [some (.ref 56)] [] M (fun r M1 => px_T 0 342 1943 [some (.ref 1000), some (.ref 0), some (.ref 56), some (.int x3)] (r.toList ++ [.int s0]) M1 Q)) : px_T 0 342 1939 [some (.ref 1000), some (.ref 0), some (.ref 56), some (.int x3)] [.int s0] M Q := by
  obtain ⟨n, h⟩ := px_T_cl (k := 342) (pc := 1940) (y := 320) (st := [.ref 56, .int s0]) rfl (h1)
  exact ⟨n + 2, ⟨rfl, h⟩⟩
theorem sg_342_1952 {x3 : Int32} {s0 : Int32} {M : px_Mem} {Q : px_Po} (h1 : px_T 0 321 0 [some (.ref 56), none] [] M (fun r M1 => px_T 0 342 1956 [some (.ref 1000), some (.ref 0), some (.ref 56), some (.int x3)] (r.toList ++ [.int s0]) M1 Q)) : px_T 0 342 1952 [some (.ref 1000), some (.ref 0), some (.ref 56), some (.int x3)] [.int s0] M Q := by
  obtain ⟨n, h⟩ := px_T_cl (k := 342) (pc := 1953) (y := 321) (st := [.ref 56, .int s0]) rfl (h1)
  exact ⟨n + 2, ⟨rfl, h⟩⟩
theorem sg_342_1975 {x3 : Int32} {s0 : Int32} {M : px_Mem} {Q : px_Po} (h1 : vp_in (x3 + 1) (M.1 999 0).toNatClampNeg) (h2 : vp_in (x3 + 2) (M.1 999 0).toNatClampNeg) (h3 : px_T 0 324 0 [some (.ref 56), some (.int (M.1 1000 ((x3 + 1).toNatClampNeg))), some (.int (M.1 1000 ((x3 + 2).toNatClampNeg))), none] [] M (fun r M1 => px_T 0 342 1989 [some (.ref 1000), some (.ref 0), some (.ref 56), some (.int x3)] (r.toList ++ [.int s0]) M1 Q)) : px_T 0 342 1975 [some (.ref 1000), some (.ref 0), some (.ref 56), some (.int x3)] [.int s0] M Q := by
  obtain ⟨n, h⟩ := px_T_cl (k := 342) (pc := 1986) (y := 324) (st := [.int (M.1 1000 ((x3 + 2).toNatClampNeg)), .int (M.1 1000 ((x3 + 1).toNatClampNeg)), .ref 56, .int s0]) rfl (h3)
  exact ⟨n + 12, ⟨Or.inr ⟨rfl, h1⟩, ⟨Or.inr ⟨rfl, h2⟩, ⟨rfl, h⟩⟩⟩⟩
theorem sg_342_2013 {x3 : Int32} {s0 : Int32} {M : px_Mem} {Q : px_Po} (h1 : vp_in (x3 + 1) (M.1 999 0).toNatClampNeg) (h2 : vp_in (x3 + 2) (M.1 999 0).toNatClampNeg) (h3 : vp_in (x3 + 3) (M.1 999 0).toNatClampNeg) (h4 : px_T 0 325 0 [some (.ref 56), some (.int (M.1 1000 ((x3 + 1).toNatClampNeg))), some (.int (M.1 1000 ((x3 + 2).toNatClampNeg))), some (.int (M.1 1000 ((x3 + 3).toNatClampNeg))), none, none] [] M (fun r M1 => px_T 0 342 2032 [some (.ref 1000), some (.ref 0), some (.ref 56), some (.int x3)] (r.toList ++ [.int s0]) M1 Q)) : px_T 0 342 2013 [some (.ref 1000), some (.ref 0), some (.ref 56), some (.int x3)] [.int s0] M Q := by
  obtain ⟨n, h⟩ := px_T_cl (k := 342) (pc := 2029) (y := 325) (st := [.int (M.1 1000 ((x3 + 3).toNatClampNeg)), .int (M.1 1000 ((x3 + 2).toNatClampNeg)), .int (M.1 1000 ((x3 + 1).toNatClampNeg)), .ref 56, .int s0]) rfl (h4)
  exact ⟨n + 17, ⟨Or.inr ⟨rfl, h1⟩, ⟨Or.inr ⟨rfl, h2⟩, ⟨Or.inr ⟨rfl, h3⟩, ⟨rfl, h⟩⟩⟩⟩⟩
theorem sg_342_2046 {x3 : Int32} {s0 : Int32} {M : px_Mem} {Q : px_Po} (h1 : vp_in (x3 + 1) (M.1 999 0).toNatClampNeg) (h2 : px_T 0 326 0 [some (.ref 56), some (.int (M.1 1000 ((x3 + 1).toNatClampNeg))), none, none] [] M (fun r M1 => px_T 0 342 2055 [some (.ref 1000), some (.ref 0), some (.ref 56), some (.int x3)] (r.toList ++ [.int s0]) M1 Q)) : px_T 0 342 2046 [some (.ref 1000), some (.ref 0), some (.ref 56), some (.int x3)] [.int s0] M Q := by
  obtain ⟨n, h⟩ := px_T_cl (k := 342) (pc := 2052) (y := 326) (st := [.int (M.1 1000 ((x3 + 1).toNatClampNeg)), .ref 56, .int s0]) rfl (h2)
  exact ⟨n + 7, ⟨Or.inr ⟨rfl, h1⟩, ⟨rfl, h⟩⟩⟩
theorem sg_342_2069 {x3 : Int32} {s0 : Int32} {M : px_Mem} {Q : px_Po} (h1 : vp_in (x3 + 1) (M.1 999 0).toNatClampNeg) (h2 : px_T 0 178 0 [some (.ref 56), some (.int (M.1 1000 ((x3 + 1).toNatClampNeg))), none] [] M (fun r M1 => px_T 0 342 2078 [some (.ref 1000), some (.ref 0), some (.ref 56), some (.int x3)] (r.toList ++ [.int s0]) M1 Q)) : px_T 0 342 2069 [some (.ref 1000), some (.ref 0), some (.ref 56), some (.int x3)] [.int s0] M Q := by
  obtain ⟨n, h⟩ := px_T_cl (k := 342) (pc := 2075) (y := 178) (st := [.int (M.1 1000 ((x3 + 1).toNatClampNeg)), .ref 56, .int s0]) rfl (h2)
  exact ⟨n + 7, ⟨Or.inr ⟨rfl, h1⟩, ⟨rfl, h⟩⟩⟩
theorem sg_342_2092 {x3 : Int32} {s0 : Int32} {M : px_Mem} {Q : px_Po} (h1 : vp_in (x3 + 1) (M.1 999 0).toNatClampNeg) (h2 : px_T 0 179 0 [some (.ref 56), some (.int (M.1 1000 ((x3 + 1).toNatClampNeg))), none] [] M (fun r M1 => px_T 0 342 2101 [some (.ref 1000), some (.ref 0), some (.ref 56), some (.int x3)] (r.toList ++ [.int s0]) M1 Q)) : px_T 0 342 2092 [some (.ref 1000), some (.ref 0), some (.ref 56), some (.int x3)] [.int s0] M Q := by
  obtain ⟨n, h⟩ := px_T_cl (k := 342) (pc := 2098) (y := 179) (st := [.int (M.1 1000 ((x3 + 1).toNatClampNeg)), .ref 56, .int s0]) rfl (h2)
  exact ⟨n + 7, ⟨Or.inr ⟨rfl, h1⟩, ⟨rfl, h⟩⟩⟩
theorem sg_342_2125 {x3 : Int32} {s0 : Int32} {M : px_Mem} {Q : px_Po} (h1 : vp_in (x3 + 1) (M.1 999 0).toNatClampNeg) (h2 : vp_in (x3 + 2) (M.1 999 0).toNatClampNeg) (h3 : vp_in (x3 + 3) (M.1 999 0).toNatClampNeg) (h4 : px_T 0 329 0 [some (.ref 56), some (.int (M.1 1000 ((x3 + 1).toNatClampNeg))), some (.int (M.1 1000 ((x3 + 2).toNatClampNeg))), some (.int (M.1 1000 ((x3 + 3).toNatClampNeg))), none] [] M (fun r M1 => px_T 0 342 2144 [some (.ref 1000), some (.ref 0), some (.ref 56), some (.int x3)] (r.toList ++ [.int s0]) M1 Q)) : px_T 0 342 2125 [some (.ref 1000), some (.ref 0), some (.ref 56), some (.int x3)] [.int s0] M Q := by
  obtain ⟨n, h⟩ := px_T_cl (k := 342) (pc := 2141) (y := 329) (st := [.int (M.1 1000 ((x3 + 3).toNatClampNeg)), .int (M.1 1000 ((x3 + 2).toNatClampNeg)), .int (M.1 1000 ((x3 + 1).toNatClampNeg)), .ref 56, .int s0]) rfl (h4)
  exact ⟨n + 17, ⟨Or.inr ⟨rfl, h1⟩, ⟨Or.inr ⟨rfl, h2⟩, ⟨Or.inr ⟨rfl, h3⟩, ⟨rfl, h⟩⟩⟩⟩⟩
theorem sg_342_2183 {x3 : Int32} {s0 : Int32} {M : px_Mem} {Q : px_Po} (h1 : vp_in (x3 + 1) (M.1 999 0).toNatClampNeg) (h2 : vp_in (x3 + 2) (M.1 999 0).toNatClampNeg) (h3 : vp_in (x3 + 3) (M.1 999 0).toNatClampNeg) (h4 : vp_in (x3 + 4) (M.1 999 0).toNatClampNeg) (h5 : px_T 0 330 0 [some (.ref 56), some (.int (M.1 1000 ((x3 + 1).toNatClampNeg))), some (.int (M.1 1000 ((x3 + 2).toNatClampNeg))), some (.long ((((M.1 1000 ((x3 + 3).toNatClampNeg)).toInt64) <<< ((32 : Int32).toInt64 &&& 63)) ||| (((M.1 1000 ((x3 + 4).toNatClampNeg)).toInt64) &&& 4294967295))), none] [] M (fun r M1 => px_T 0 342 2217 [some (.ref 1000), some (.ref 0), some (.ref 56), some (.int x3)] (r.toList ++ [.int s0]) M1 Q)) : px_T 0 342 2183 [some (.ref 1000), some (.ref 0), some (.ref 56), some (.int x3)] [.int s0] M Q := by
  obtain ⟨n, h⟩ := px_T_cl (k := 342) (pc := 2214) (y := 330) (st := [.long ((((M.1 1000 ((x3 + 3).toNatClampNeg)).toInt64) <<< ((32 : Int32).toInt64 &&& 63)) ||| (((M.1 1000 ((x3 + 4).toNatClampNeg)).toInt64) &&& 4294967295)), .int (M.1 1000 ((x3 + 2).toNatClampNeg)), .int (M.1 1000 ((x3 + 1).toNatClampNeg)), .ref 56, .int s0]) rfl (h5)
  exact ⟨n + 29, ⟨Or.inr ⟨rfl, h1⟩, ⟨Or.inr ⟨rfl, h2⟩, ⟨Or.inr ⟨rfl, h3⟩, ⟨Or.inr ⟨rfl, h4⟩, ⟨rfl, h⟩⟩⟩⟩⟩⟩
theorem sg_342_2251 {x3 : Int32} {s0 : Int32} {M : px_Mem} {Q : px_Po} (h1 : vp_in (x3 + 1) (M.1 999 0).toNatClampNeg) (h2 : vp_in (x3 + 2) (M.1 999 0).toNatClampNeg) (h3 : vp_in (x3 + 3) (M.1 999 0).toNatClampNeg) (h4 : vp_in (x3 + 4) (M.1 999 0).toNatClampNeg) (h5 : vp_in (x3 + 5) (M.1 999 0).toNatClampNeg) (h6 : px_T 0 331 0 [some (.ref 56), some (.int (M.1 1000 ((x3 + 1).toNatClampNeg))), some (.int (M.1 1000 ((x3 + 2).toNatClampNeg))), some (.int (M.1 1000 ((x3 + 3).toNatClampNeg))), some (.int (M.1 1000 ((x3 + 4).toNatClampNeg))), some (.int (M.1 1000 ((x3 + 5).toNatClampNeg))), none] [] M (fun r M1 => px_T 0 342 2280 [some (.ref 1000), some (.ref 0), some (.ref 56), some (.int x3)] (r.toList ++ [.int s0]) M1 Q)) : px_T 0 342 2251 [some (.ref 1000), some (.ref 0), some (.ref 56), some (.int x3)] [.int s0] M Q := by
  obtain ⟨n, h⟩ := px_T_cl (k := 342) (pc := 2277) (y := 331) (st := [.int (M.1 1000 ((x3 + 5).toNatClampNeg)), .int (M.1 1000 ((x3 + 4).toNatClampNeg)), .int (M.1 1000 ((x3 + 3).toNatClampNeg)), .int (M.1 1000 ((x3 + 2).toNatClampNeg)), .int (M.1 1000 ((x3 + 1).toNatClampNeg)), .ref 56, .int s0]) rfl (h6)
  exact ⟨n + 27, ⟨Or.inr ⟨rfl, h1⟩, ⟨Or.inr ⟨rfl, h2⟩, ⟨Or.inr ⟨rfl, h3⟩, ⟨Or.inr ⟨rfl, h4⟩, ⟨Or.inr ⟨rfl, h5⟩, ⟨rfl, h⟩⟩⟩⟩⟩⟩⟩
theorem sg_342_366 {x3 : Int32} {s0 : Int32} {s1 : Int32} {M : px_Mem} {Q : px_Po} (h1 : (s1 = s0) → px_T 0 342 2285 [some (.ref 1000), some (.ref 0), some (.ref 56), some (.int x3)] [] M Q) (h2 : (¬ (s1 = s0)) → Q (some (.int 0)) M) : px_T 0 342 366 [some (.ref 1000), some (.ref 0), some (.ref 56), some (.int x3)] [.int s0, .int s1] M Q := by
  by_cases c1 : s1 = s0
  · obtain ⟨n, h⟩ := h1 c1
    exact ⟨n + 1, ⟨fun _ => h, fun q => absurd c1 q⟩⟩
  · exact ⟨3, ⟨fun q => absurd q c1, fun _ => ⟨Or.inl rfl, h2 c1⟩⟩⟩
theorem sg_342_389 {x3 : Int32} {s0 : Int32} {s1 : Int32} {M : px_Mem} {Q : px_Po} (h1 : (s1 = s0) → px_T 0 342 2285 [some (.ref 1000), some (.ref 0), some (.ref 56), some (.int x3)] [] M Q) (h2 : (¬ (s1 = s0)) → Q (some (.int 0)) M) : px_T 0 342 389 [some (.ref 1000), some (.ref 0), some (.ref 56), some (.int x3)] [.int s0, .int s1] M Q := by
  by_cases c1 : s1 = s0
  · obtain ⟨n, h⟩ := h1 c1
    exact ⟨n + 1, ⟨fun _ => h, fun q => absurd c1 q⟩⟩
  · exact ⟨3, ⟨fun q => absurd q c1, fun _ => ⟨Or.inl rfl, h2 c1⟩⟩⟩
theorem sg_342_402 {x3 : Int32} {s0 : Int32} {s1 : Int32} {M : px_Mem} {Q : px_Po} (h1 : (s1 = s0) → px_T 0 342 2285 [some (.ref 1000), some (.ref 0), some (.ref 56), some (.int x3)] [] M Q) (h2 : (¬ (s1 = s0)) → Q (some (.int 0)) M) : px_T 0 342 402 [some (.ref 1000), some (.ref 0), some (.ref 56), some (.int x3)] [.int s0, .int s1] M Q := by
  by_cases c1 : s1 = s0
  · obtain ⟨n, h⟩ := h1 c1
    exact ⟨n + 1, ⟨fun _ => h, fun q => absurd c1 q⟩⟩
  · exact ⟨3, ⟨fun q => absurd q c1, fun _ => ⟨Or.inl rfl, h2 c1⟩⟩⟩
theorem sg_342_425 {x3 : Int32} {s0 : Int32} {s1 : Int32} {M : px_Mem} {Q : px_Po} (h1 : (s1 = s0) → px_T 0 342 2285 [some (.ref 1000), some (.ref 0), some (.ref 56), some (.int x3)] [] M Q) (h2 : (¬ (s1 = s0)) → Q (some (.int 0)) M) : px_T 0 342 425 [some (.ref 1000), some (.ref 0), some (.ref 56), some (.int x3)] [.int s0, .int s1] M Q := by
  by_cases c1 : s1 = s0
  · obtain ⟨n, h⟩ := h1 c1
    exact ⟨n + 1, ⟨fun _ => h, fun q => absurd c1 q⟩⟩
  · exact ⟨3, ⟨fun q => absurd q c1, fun _ => ⟨Or.inl rfl, h2 c1⟩⟩⟩
theorem sg_342_458 {x3 : Int32} {s0 : Int32} {s1 : Int32} {M : px_Mem} {Q : px_Po} (h1 : (s1 = s0) → px_T 0 342 2285 [some (.ref 1000), some (.ref 0), some (.ref 56), some (.int x3)] [] M Q) (h2 : (¬ (s1 = s0)) → Q (some (.int 0)) M) : px_T 0 342 458 [some (.ref 1000), some (.ref 0), some (.ref 56), some (.int x3)] [.int s0, .int s1] M Q := by
  by_cases c1 : s1 = s0
  · obtain ⟨n, h⟩ := h1 c1
    exact ⟨n + 1, ⟨fun _ => h, fun q => absurd c1 q⟩⟩
  · exact ⟨3, ⟨fun q => absurd q c1, fun _ => ⟨Or.inl rfl, h2 c1⟩⟩⟩
theorem sg_342_481 {x3 : Int32} {s0 : Int32} {s1 : Int32} {M : px_Mem} {Q : px_Po} (h1 : (s1 = s0) → px_T 0 342 2285 [some (.ref 1000), some (.ref 0), some (.ref 56), some (.int x3)] [] M Q) (h2 : (¬ (s1 = s0)) → Q (some (.int 0)) M) : px_T 0 342 481 [some (.ref 1000), some (.ref 0), some (.ref 56), some (.int x3)] [.int s0, .int s1] M Q := by
  by_cases c1 : s1 = s0
  · obtain ⟨n, h⟩ := h1 c1
    exact ⟨n + 1, ⟨fun _ => h, fun q => absurd c1 q⟩⟩
  · exact ⟨3, ⟨fun q => absurd q c1, fun _ => ⟨Or.inl rfl, h2 c1⟩⟩⟩
theorem sg_342_504 {x3 : Int32} {s0 : Int32} {s1 : Int32} {M : px_Mem} {Q : px_Po} (h1 : (s1 = s0) → px_T 0 342 2285 [some (.ref 1000), some (.ref 0), some (.ref 56), some (.int x3)] [] M Q) (h2 : (¬ (s1 = s0)) → Q (some (.int 0)) M) : px_T 0 342 504 [some (.ref 1000), some (.ref 0), some (.ref 56), some (.int x3)] [.int s0, .int s1] M Q := by
  by_cases c1 : s1 = s0
  · obtain ⟨n, h⟩ := h1 c1
    exact ⟨n + 1, ⟨fun _ => h, fun q => absurd c1 q⟩⟩
  · exact ⟨3, ⟨fun q => absurd q c1, fun _ => ⟨Or.inl rfl, h2 c1⟩⟩⟩
theorem sg_342_527 {x3 : Int32} {s0 : Int32} {s1 : Int32} {M : px_Mem} {Q : px_Po} (h1 : (s1 = s0) → px_T 0 342 2285 [some (.ref 1000), some (.ref 0), some (.ref 56), some (.int x3)] [] M Q) (h2 : (¬ (s1 = s0)) → Q (some (.int 0)) M) : px_T 0 342 527 [some (.ref 1000), some (.ref 0), some (.ref 56), some (.int x3)] [.int s0, .int s1] M Q := by
  by_cases c1 : s1 = s0
  · obtain ⟨n, h⟩ := h1 c1
    exact ⟨n + 1, ⟨fun _ => h, fun q => absurd c1 q⟩⟩
  · exact ⟨3, ⟨fun q => absurd q c1, fun _ => ⟨Or.inl rfl, h2 c1⟩⟩⟩
theorem sg_342_560 {x3 : Int32} {s0 : Int32} {s1 : Int32} {M : px_Mem} {Q : px_Po} (h1 : (s1 = s0) → px_T 0 342 2285 [some (.ref 1000), some (.ref 0), some (.ref 56), some (.int x3)] [] M Q) (h2 : (¬ (s1 = s0)) → Q (some (.int 0)) M) : px_T 0 342 560 [some (.ref 1000), some (.ref 0), some (.ref 56), some (.int x3)] [.int s0, .int s1] M Q := by
  by_cases c1 : s1 = s0
  · obtain ⟨n, h⟩ := h1 c1
    exact ⟨n + 1, ⟨fun _ => h, fun q => absurd c1 q⟩⟩
  · exact ⟨3, ⟨fun q => absurd q c1, fun _ => ⟨Or.inl rfl, h2 c1⟩⟩⟩
theorem sg_342_593 {x3 : Int32} {s0 : Int32} {s1 : Int32} {M : px_Mem} {Q : px_Po} (h1 : (s1 = s0) → px_T 0 342 2285 [some (.ref 1000), some (.ref 0), some (.ref 56), some (.int x3)] [] M Q) (h2 : (¬ (s1 = s0)) → Q (some (.int 0)) M) : px_T 0 342 593 [some (.ref 1000), some (.ref 0), some (.ref 56), some (.int x3)] [.int s0, .int s1] M Q := by
  by_cases c1 : s1 = s0
  · obtain ⟨n, h⟩ := h1 c1
    exact ⟨n + 1, ⟨fun _ => h, fun q => absurd c1 q⟩⟩
  · exact ⟨3, ⟨fun q => absurd q c1, fun _ => ⟨Or.inl rfl, h2 c1⟩⟩⟩
theorem sg_342_626 {x3 : Int32} {s0 : Int32} {s1 : Int32} {M : px_Mem} {Q : px_Po} (h1 : (s1 = s0) → px_T 0 342 2285 [some (.ref 1000), some (.ref 0), some (.ref 56), some (.int x3)] [] M Q) (h2 : (¬ (s1 = s0)) → Q (some (.int 0)) M) : px_T 0 342 626 [some (.ref 1000), some (.ref 0), some (.ref 56), some (.int x3)] [.int s0, .int s1] M Q := by
  by_cases c1 : s1 = s0
  · obtain ⟨n, h⟩ := h1 c1
    exact ⟨n + 1, ⟨fun _ => h, fun q => absurd c1 q⟩⟩
  · exact ⟨3, ⟨fun q => absurd q c1, fun _ => ⟨Or.inl rfl, h2 c1⟩⟩⟩
theorem sg_342_659 {x3 : Int32} {s0 : Int32} {s1 : Int32} {M : px_Mem} {Q : px_Po} (h1 : (s1 = s0) → px_T 0 342 2285 [some (.ref 1000), some (.ref 0), some (.ref 56), some (.int x3)] [] M Q) (h2 : (¬ (s1 = s0)) → Q (some (.int 0)) M) : px_T 0 342 659 [some (.ref 1000), some (.ref 0), some (.ref 56), some (.int x3)] [.int s0, .int s1] M Q := by
  by_cases c1 : s1 = s0
  · obtain ⟨n, h⟩ := h1 c1
    exact ⟨n + 1, ⟨fun _ => h, fun q => absurd c1 q⟩⟩
  · exact ⟨3, ⟨fun q => absurd q c1, fun _ => ⟨Or.inl rfl, h2 c1⟩⟩⟩
theorem sg_342_692 {x3 : Int32} {s0 : Int32} {s1 : Int32} {M : px_Mem} {Q : px_Po} (h1 : (s1 = s0) → px_T 0 342 2285 [some (.ref 1000), some (.ref 0), some (.ref 56), some (.int x3)] [] M Q) (h2 : (¬ (s1 = s0)) → Q (some (.int 0)) M) : px_T 0 342 692 [some (.ref 1000), some (.ref 0), some (.ref 56), some (.int x3)] [.int s0, .int s1] M Q := by
  by_cases c1 : s1 = s0
  · obtain ⟨n, h⟩ := h1 c1
    exact ⟨n + 1, ⟨fun _ => h, fun q => absurd c1 q⟩⟩
  · exact ⟨3, ⟨fun q => absurd q c1, fun _ => ⟨Or.inl rfl, h2 c1⟩⟩⟩
theorem sg_342_725 {x3 : Int32} {s0 : Int32} {s1 : Int32} {M : px_Mem} {Q : px_Po} (h1 : (s1 = s0) → px_T 0 342 2285 [some (.ref 1000), some (.ref 0), some (.ref 56), some (.int x3)] [] M Q) (h2 : (¬ (s1 = s0)) → Q (some (.int 0)) M) : px_T 0 342 725 [some (.ref 1000), some (.ref 0), some (.ref 56), some (.int x3)] [.int s0, .int s1] M Q := by
  by_cases c1 : s1 = s0
  · obtain ⟨n, h⟩ := h1 c1
    exact ⟨n + 1, ⟨fun _ => h, fun q => absurd c1 q⟩⟩
  · exact ⟨3, ⟨fun q => absurd q c1, fun _ => ⟨Or.inl rfl, h2 c1⟩⟩⟩
theorem sg_342_748 {x3 : Int32} {s0 : Int32} {s1 : Int32} {M : px_Mem} {Q : px_Po} (h1 : (s1 = s0) → px_T 0 342 2285 [some (.ref 1000), some (.ref 0), some (.ref 56), some (.int x3)] [] M Q) (h2 : (¬ (s1 = s0)) → Q (some (.int 0)) M) : px_T 0 342 748 [some (.ref 1000), some (.ref 0), some (.ref 56), some (.int x3)] [.int s0, .int s1] M Q := by
  by_cases c1 : s1 = s0
  · obtain ⟨n, h⟩ := h1 c1
    exact ⟨n + 1, ⟨fun _ => h, fun q => absurd c1 q⟩⟩
  · exact ⟨3, ⟨fun q => absurd q c1, fun _ => ⟨Or.inl rfl, h2 c1⟩⟩⟩
theorem sg_342_771 {x3 : Int32} {s0 : Int32} {s1 : Int32} {M : px_Mem} {Q : px_Po} (h1 : (s1 = s0) → px_T 0 342 2285 [some (.ref 1000), some (.ref 0), some (.ref 56), some (.int x3)] [] M Q) (h2 : (¬ (s1 = s0)) → Q (some (.int 0)) M) : px_T 0 342 771 [some (.ref 1000), some (.ref 0), some (.ref 56), some (.int x3)] [.int s0, .int s1] M Q := by
  by_cases c1 : s1 = s0
  · obtain ⟨n, h⟩ := h1 c1
    exact ⟨n + 1, ⟨fun _ => h, fun q => absurd c1 q⟩⟩
  · exact ⟨3, ⟨fun q => absurd q c1, fun _ => ⟨Or.inl rfl, h2 c1⟩⟩⟩
theorem sg_342_794 {x3 : Int32} {s0 : Int32} {s1 : Int32} {M : px_Mem} {Q : px_Po} (h1 : (s1 = s0) → px_T 0 342 2285 [some (.ref 1000), some (.ref 0), some (.ref 56), some (.int x3)] [] M Q) (h2 : (¬ (s1 = s0)) → Q (some (.int 0)) M) : px_T 0 342 794 [some (.ref 1000), some (.ref 0), some (.ref 56), some (.int x3)] [.int s0, .int s1] M Q := by
  by_cases c1 : s1 = s0
  · obtain ⟨n, h⟩ := h1 c1
    exact ⟨n + 1, ⟨fun _ => h, fun q => absurd c1 q⟩⟩
  · exact ⟨3, ⟨fun q => absurd q c1, fun _ => ⟨Or.inl rfl, h2 c1⟩⟩⟩
theorem sg_342_837 {x3 : Int32} {s0 : Int32} {s1 : Int32} {M : px_Mem} {Q : px_Po} (h1 : (s1 = s0) → px_T 0 342 2285 [some (.ref 1000), some (.ref 0), some (.ref 56), some (.int x3)] [] M Q) (h2 : (¬ (s1 = s0)) → Q (some (.int 0)) M) : px_T 0 342 837 [some (.ref 1000), some (.ref 0), some (.ref 56), some (.int x3)] [.int s0, .int s1] M Q := by
  by_cases c1 : s1 = s0
  · obtain ⟨n, h⟩ := h1 c1
    exact ⟨n + 1, ⟨fun _ => h, fun q => absurd c1 q⟩⟩
  · exact ⟨3, ⟨fun q => absurd q c1, fun _ => ⟨Or.inl rfl, h2 c1⟩⟩⟩
theorem sg_342_870 {x3 : Int32} {s0 : Int32} {s1 : Int32} {M : px_Mem} {Q : px_Po} (h1 : (s1 = s0) → px_T 0 342 2285 [some (.ref 1000), some (.ref 0), some (.ref 56), some (.int x3)] [] M Q) (h2 : (¬ (s1 = s0)) → Q (some (.int 0)) M) : px_T 0 342 870 [some (.ref 1000), some (.ref 0), some (.ref 56), some (.int x3)] [.int s0, .int s1] M Q := by
  by_cases c1 : s1 = s0
  · obtain ⟨n, h⟩ := h1 c1
    exact ⟨n + 1, ⟨fun _ => h, fun q => absurd c1 q⟩⟩
  · exact ⟨3, ⟨fun q => absurd q c1, fun _ => ⟨Or.inl rfl, h2 c1⟩⟩⟩
theorem sg_342_903 {x3 : Int32} {s0 : Int32} {s1 : Int32} {M : px_Mem} {Q : px_Po} (h1 : (s1 = s0) → px_T 0 342 2285 [some (.ref 1000), some (.ref 0), some (.ref 56), some (.int x3)] [] M Q) (h2 : (¬ (s1 = s0)) → Q (some (.int 0)) M) : px_T 0 342 903 [some (.ref 1000), some (.ref 0), some (.ref 56), some (.int x3)] [.int s0, .int s1] M Q := by
  by_cases c1 : s1 = s0
  · obtain ⟨n, h⟩ := h1 c1
    exact ⟨n + 1, ⟨fun _ => h, fun q => absurd c1 q⟩⟩
  · exact ⟨3, ⟨fun q => absurd q c1, fun _ => ⟨Or.inl rfl, h2 c1⟩⟩⟩
theorem sg_342_936 {x3 : Int32} {s0 : Int32} {s1 : Int32} {M : px_Mem} {Q : px_Po} (h1 : (s1 = s0) → px_T 0 342 2285 [some (.ref 1000), some (.ref 0), some (.ref 56), some (.int x3)] [] M Q) (h2 : (¬ (s1 = s0)) → Q (some (.int 0)) M) : px_T 0 342 936 [some (.ref 1000), some (.ref 0), some (.ref 56), some (.int x3)] [.int s0, .int s1] M Q := by
  by_cases c1 : s1 = s0
  · obtain ⟨n, h⟩ := h1 c1
    exact ⟨n + 1, ⟨fun _ => h, fun q => absurd c1 q⟩⟩
  · exact ⟨3, ⟨fun q => absurd q c1, fun _ => ⟨Or.inl rfl, h2 c1⟩⟩⟩
theorem sg_342_959 {x3 : Int32} {s0 : Int32} {s1 : Int32} {M : px_Mem} {Q : px_Po} (h1 : (s1 = s0) → px_T 0 342 2285 [some (.ref 1000), some (.ref 0), some (.ref 56), some (.int x3)] [] M Q) (h2 : (¬ (s1 = s0)) → Q (some (.int 0)) M) : px_T 0 342 959 [some (.ref 1000), some (.ref 0), some (.ref 56), some (.int x3)] [.int s0, .int s1] M Q := by
  by_cases c1 : s1 = s0
  · obtain ⟨n, h⟩ := h1 c1
    exact ⟨n + 1, ⟨fun _ => h, fun q => absurd c1 q⟩⟩
  · exact ⟨3, ⟨fun q => absurd q c1, fun _ => ⟨Or.inl rfl, h2 c1⟩⟩⟩
theorem sg_342_992 {x3 : Int32} {s0 : Int32} {s1 : Int32} {M : px_Mem} {Q : px_Po} (h1 : (s1 = s0) → px_T 0 342 2285 [some (.ref 1000), some (.ref 0), some (.ref 56), some (.int x3)] [] M Q) (h2 : (¬ (s1 = s0)) → Q (some (.int 0)) M) : px_T 0 342 992 [some (.ref 1000), some (.ref 0), some (.ref 56), some (.int x3)] [.int s0, .int s1] M Q := by
  by_cases c1 : s1 = s0
  · obtain ⟨n, h⟩ := h1 c1
    exact ⟨n + 1, ⟨fun _ => h, fun q => absurd c1 q⟩⟩
  · exact ⟨3, ⟨fun q => absurd q c1, fun _ => ⟨Or.inl rfl, h2 c1⟩⟩⟩
theorem sg_342_1015 {x3 : Int32} {s0 : Int32} {s1 : Int32} {M : px_Mem} {Q : px_Po} (h1 : (s1 = s0) → px_T 0 342 2285 [some (.ref 1000), some (.ref 0), some (.ref 56), some (.int x3)] [] M Q) (h2 : (¬ (s1 = s0)) → Q (some (.int 0)) M) : px_T 0 342 1015 [some (.ref 1000), some (.ref 0), some (.ref 56), some (.int x3)] [.int s0, .int s1] M Q := by
  by_cases c1 : s1 = s0
  · obtain ⟨n, h⟩ := h1 c1
    exact ⟨n + 1, ⟨fun _ => h, fun q => absurd c1 q⟩⟩
  · exact ⟨3, ⟨fun q => absurd q c1, fun _ => ⟨Or.inl rfl, h2 c1⟩⟩⟩
theorem sg_342_1058 {x3 : Int32} {s0 : Int32} {s1 : Int32} {M : px_Mem} {Q : px_Po} (h1 : (s1 = s0) → px_T 0 342 2285 [some (.ref 1000), some (.ref 0), some (.ref 56), some (.int x3)] [] M Q) (h2 : (¬ (s1 = s0)) → Q (some (.int 0)) M) : px_T 0 342 1058 [some (.ref 1000), some (.ref 0), some (.ref 56), some (.int x3)] [.int s0, .int s1] M Q := by
  by_cases c1 : s1 = s0
  · obtain ⟨n, h⟩ := h1 c1
    exact ⟨n + 1, ⟨fun _ => h, fun q => absurd c1 q⟩⟩
  · exact ⟨3, ⟨fun q => absurd q c1, fun _ => ⟨Or.inl rfl, h2 c1⟩⟩⟩
theorem sg_342_1101 {x3 : Int32} {s0 : Int32} {s1 : Int32} {M : px_Mem} {Q : px_Po} (h1 : (s1 = s0) → px_T 0 342 2285 [some (.ref 1000), some (.ref 0), some (.ref 56), some (.int x3)] [] M Q) (h2 : (¬ (s1 = s0)) → Q (some (.int 0)) M) : px_T 0 342 1101 [some (.ref 1000), some (.ref 0), some (.ref 56), some (.int x3)] [.int s0, .int s1] M Q := by
  by_cases c1 : s1 = s0
  · obtain ⟨n, h⟩ := h1 c1
    exact ⟨n + 1, ⟨fun _ => h, fun q => absurd c1 q⟩⟩
  · exact ⟨3, ⟨fun q => absurd q c1, fun _ => ⟨Or.inl rfl, h2 c1⟩⟩⟩
theorem sg_342_1134 {x3 : Int32} {s0 : Int32} {s1 : Int32} {M : px_Mem} {Q : px_Po} (h1 : (s1 = s0) → px_T 0 342 2285 [some (.ref 1000), some (.ref 0), some (.ref 56), some (.int x3)] [] M Q) (h2 : (¬ (s1 = s0)) → Q (some (.int 0)) M) : px_T 0 342 1134 [some (.ref 1000), some (.ref 0), some (.ref 56), some (.int x3)] [.int s0, .int s1] M Q := by
  by_cases c1 : s1 = s0
  · obtain ⟨n, h⟩ := h1 c1
    exact ⟨n + 1, ⟨fun _ => h, fun q => absurd c1 q⟩⟩
  · exact ⟨3, ⟨fun q => absurd q c1, fun _ => ⟨Or.inl rfl, h2 c1⟩⟩⟩
theorem sg_342_1157 {x3 : Int32} {s0 : Int32} {s1 : Int32} {M : px_Mem} {Q : px_Po} (h1 : (s1 = s0) → px_T 0 342 2285 [some (.ref 1000), some (.ref 0), some (.ref 56), some (.int x3)] [] M Q) (h2 : (¬ (s1 = s0)) → Q (some (.int 0)) M) : px_T 0 342 1157 [some (.ref 1000), some (.ref 0), some (.ref 56), some (.int x3)] [.int s0, .int s1] M Q := by
  by_cases c1 : s1 = s0
  · obtain ⟨n, h⟩ := h1 c1
    exact ⟨n + 1, ⟨fun _ => h, fun q => absurd c1 q⟩⟩
  · exact ⟨3, ⟨fun q => absurd q c1, fun _ => ⟨Or.inl rfl, h2 c1⟩⟩⟩
theorem sg_342_1170 {x3 : Int32} {s0 : Int32} {s1 : Int32} {M : px_Mem} {Q : px_Po} (h1 : (s1 = s0) → px_T 0 342 2285 [some (.ref 1000), some (.ref 0), some (.ref 56), some (.int x3)] [] M Q) (h2 : (¬ (s1 = s0)) → Q (some (.int 0)) M) : px_T 0 342 1170 [some (.ref 1000), some (.ref 0), some (.ref 56), some (.int x3)] [.int s0, .int s1] M Q := by
  by_cases c1 : s1 = s0
  · obtain ⟨n, h⟩ := h1 c1
    exact ⟨n + 1, ⟨fun _ => h, fun q => absurd c1 q⟩⟩
  · exact ⟨3, ⟨fun q => absurd q c1, fun _ => ⟨Or.inl rfl, h2 c1⟩⟩⟩
theorem sg_342_1183 {x3 : Int32} {s0 : Int32} {s1 : Int32} {M : px_Mem} {Q : px_Po} (h1 : (s1 = s0) → px_T 0 342 2285 [some (.ref 1000), some (.ref 0), some (.ref 56), some (.int x3)] [] M Q) (h2 : (¬ (s1 = s0)) → Q (some (.int 0)) M) : px_T 0 342 1183 [some (.ref 1000), some (.ref 0), some (.ref 56), some (.int x3)] [.int s0, .int s1] M Q := by
  by_cases c1 : s1 = s0
  · obtain ⟨n, h⟩ := h1 c1
    exact ⟨n + 1, ⟨fun _ => h, fun q => absurd c1 q⟩⟩
  · exact ⟨3, ⟨fun q => absurd q c1, fun _ => ⟨Or.inl rfl, h2 c1⟩⟩⟩
theorem sg_342_1216 {x3 : Int32} {s0 : Int32} {s1 : Int32} {M : px_Mem} {Q : px_Po} (h1 : (s1 = s0) → px_T 0 342 2285 [some (.ref 1000), some (.ref 0), some (.ref 56), some (.int x3)] [] M Q) (h2 : (¬ (s1 = s0)) → Q (some (.int 0)) M) : px_T 0 342 1216 [some (.ref 1000), some (.ref 0), some (.ref 56), some (.int x3)] [.int s0, .int s1] M Q := by
  by_cases c1 : s1 = s0
  · obtain ⟨n, h⟩ := h1 c1
    exact ⟨n + 1, ⟨fun _ => h, fun q => absurd c1 q⟩⟩
  · exact ⟨3, ⟨fun q => absurd q c1, fun _ => ⟨Or.inl rfl, h2 c1⟩⟩⟩
theorem sg_342_1239 {x3 : Int32} {s0 : Int32} {s1 : Int32} {M : px_Mem} {Q : px_Po} (h1 : (s1 = s0) → px_T 0 342 2285 [some (.ref 1000), some (.ref 0), some (.ref 56), some (.int x3)] [] M Q) (h2 : (¬ (s1 = s0)) → Q (some (.int 0)) M) : px_T 0 342 1239 [some (.ref 1000), some (.ref 0), some (.ref 56), some (.int x3)] [.int s0, .int s1] M Q := by
  by_cases c1 : s1 = s0
  · obtain ⟨n, h⟩ := h1 c1
    exact ⟨n + 1, ⟨fun _ => h, fun q => absurd c1 q⟩⟩
  · exact ⟨3, ⟨fun q => absurd q c1, fun _ => ⟨Or.inl rfl, h2 c1⟩⟩⟩
theorem sg_342_1262 {x3 : Int32} {s0 : Int32} {s1 : Int32} {M : px_Mem} {Q : px_Po} (h1 : (s1 = s0) → px_T 0 342 2285 [some (.ref 1000), some (.ref 0), some (.ref 56), some (.int x3)] [] M Q) (h2 : (¬ (s1 = s0)) → Q (some (.int 0)) M) : px_T 0 342 1262 [some (.ref 1000), some (.ref 0), some (.ref 56), some (.int x3)] [.int s0, .int s1] M Q := by
  by_cases c1 : s1 = s0
  · obtain ⟨n, h⟩ := h1 c1
    exact ⟨n + 1, ⟨fun _ => h, fun q => absurd c1 q⟩⟩
  · exact ⟨3, ⟨fun q => absurd q c1, fun _ => ⟨Or.inl rfl, h2 c1⟩⟩⟩
theorem sg_342_1295 {x3 : Int32} {s0 : Int32} {s1 : Int32} {M : px_Mem} {Q : px_Po} (h1 : (s1 = s0) → px_T 0 342 2285 [some (.ref 1000), some (.ref 0), some (.ref 56), some (.int x3)] [] M Q) (h2 : (¬ (s1 = s0)) → Q (some (.int 0)) M) : px_T 0 342 1295 [some (.ref 1000), some (.ref 0), some (.ref 56), some (.int x3)] [.int s0, .int s1] M Q := by
  by_cases c1 : s1 = s0
  · obtain ⟨n, h⟩ := h1 c1
    exact ⟨n + 1, ⟨fun _ => h, fun q => absurd c1 q⟩⟩
  · exact ⟨3, ⟨fun q => absurd q c1, fun _ => ⟨Or.inl rfl, h2 c1⟩⟩⟩
theorem sg_342_1318 {x3 : Int32} {s0 : Int32} {s1 : Int32} {M : px_Mem} {Q : px_Po} (h1 : (s1 = s0) → px_T 0 342 2285 [some (.ref 1000), some (.ref 0), some (.ref 56), some (.int x3)] [] M Q) (h2 : (¬ (s1 = s0)) → Q (some (.int 0)) M) : px_T 0 342 1318 [some (.ref 1000), some (.ref 0), some (.ref 56), some (.int x3)] [.int s0, .int s1] M Q := by
  by_cases c1 : s1 = s0
  · obtain ⟨n, h⟩ := h1 c1
    exact ⟨n + 1, ⟨fun _ => h, fun q => absurd c1 q⟩⟩
  · exact ⟨3, ⟨fun q => absurd q c1, fun _ => ⟨Or.inl rfl, h2 c1⟩⟩⟩
theorem sg_342_1331 {x3 : Int32} {s0 : Int32} {s1 : Int32} {M : px_Mem} {Q : px_Po} (h1 : (s1 = s0) → px_T 0 342 2285 [some (.ref 1000), some (.ref 0), some (.ref 56), some (.int x3)] [] M Q) (h2 : (¬ (s1 = s0)) → Q (some (.int 0)) M) : px_T 0 342 1331 [some (.ref 1000), some (.ref 0), some (.ref 56), some (.int x3)] [.int s0, .int s1] M Q := by
  by_cases c1 : s1 = s0
  · obtain ⟨n, h⟩ := h1 c1
    exact ⟨n + 1, ⟨fun _ => h, fun q => absurd c1 q⟩⟩
  · exact ⟨3, ⟨fun q => absurd q c1, fun _ => ⟨Or.inl rfl, h2 c1⟩⟩⟩
theorem sg_342_1374 {x3 : Int32} {s0 : Int32} {s1 : Int32} {M : px_Mem} {Q : px_Po} (h1 : (s1 = s0) → px_T 0 342 2285 [some (.ref 1000), some (.ref 0), some (.ref 56), some (.int x3)] [] M Q) (h2 : (¬ (s1 = s0)) → Q (some (.int 0)) M) : px_T 0 342 1374 [some (.ref 1000), some (.ref 0), some (.ref 56), some (.int x3)] [.int s0, .int s1] M Q := by
  by_cases c1 : s1 = s0
  · obtain ⟨n, h⟩ := h1 c1
    exact ⟨n + 1, ⟨fun _ => h, fun q => absurd c1 q⟩⟩
  · exact ⟨3, ⟨fun q => absurd q c1, fun _ => ⟨Or.inl rfl, h2 c1⟩⟩⟩
theorem sg_342_1427 {x3 : Int32} {s0 : Int32} {s1 : Int32} {M : px_Mem} {Q : px_Po} (h1 : (s1 = s0) → px_T 0 342 2285 [some (.ref 1000), some (.ref 0), some (.ref 56), some (.int x3)] [] M Q) (h2 : (¬ (s1 = s0)) → Q (some (.int 0)) M) : px_T 0 342 1427 [some (.ref 1000), some (.ref 0), some (.ref 56), some (.int x3)] [.int s0, .int s1] M Q := by
  by_cases c1 : s1 = s0
  · obtain ⟨n, h⟩ := h1 c1
    exact ⟨n + 1, ⟨fun _ => h, fun q => absurd c1 q⟩⟩
  · exact ⟨3, ⟨fun q => absurd q c1, fun _ => ⟨Or.inl rfl, h2 c1⟩⟩⟩
theorem sg_342_1470 {x3 : Int32} {s0 : Int32} {s1 : Int32} {M : px_Mem} {Q : px_Po} (h1 : (s1 = s0) → px_T 0 342 2285 [some (.ref 1000), some (.ref 0), some (.ref 56), some (.int x3)] [] M Q) (h2 : (¬ (s1 = s0)) → Q (some (.int 0)) M) : px_T 0 342 1470 [some (.ref 1000), some (.ref 0), some (.ref 56), some (.int x3)] [.int s0, .int s1] M Q := by
  by_cases c1 : s1 = s0
  · obtain ⟨n, h⟩ := h1 c1
    exact ⟨n + 1, ⟨fun _ => h, fun q => absurd c1 q⟩⟩
  · exact ⟨3, ⟨fun q => absurd q c1, fun _ => ⟨Or.inl rfl, h2 c1⟩⟩⟩
theorem sg_342_1503 {x3 : Int32} {s0 : Int32} {s1 : Int32} {M : px_Mem} {Q : px_Po} (h1 : (s1 = s0) → px_T 0 342 2285 [some (.ref 1000), some (.ref 0), some (.ref 56), some (.int x3)] [] M Q) (h2 : (¬ (s1 = s0)) → Q (some (.int 0)) M) : px_T 0 342 1503 [some (.ref 1000), some (.ref 0), some (.ref 56), some (.int x3)] [.int s0, .int s1] M Q := by
  by_cases c1 : s1 = s0
  · obtain ⟨n, h⟩ := h1 c1
    exact ⟨n + 1, ⟨fun _ => h, fun q => absurd c1 q⟩⟩
  · exact ⟨3, ⟨fun q => absurd q c1, fun _ => ⟨Or.inl rfl, h2 c1⟩⟩⟩
theorem sg_342_1516 {x3 : Int32} {s0 : Int32} {s1 : Int32} {M : px_Mem} {Q : px_Po} (h1 : (s1 = s0) → px_T 0 342 2285 [some (.ref 1000), some (.ref 0), some (.ref 56), some (.int x3)] [] M Q) (h2 : (¬ (s1 = s0)) → Q (some (.int 0)) M) : px_T 0 342 1516 [some (.ref 1000), some (.ref 0), some (.ref 56), some (.int x3)] [.int s0, .int s1] M Q := by
  by_cases c1 : s1 = s0
  · obtain ⟨n, h⟩ := h1 c1
    exact ⟨n + 1, ⟨fun _ => h, fun q => absurd c1 q⟩⟩
  · exact ⟨3, ⟨fun q => absurd q c1, fun _ => ⟨Or.inl rfl, h2 c1⟩⟩⟩
theorem sg_342_1529 {x3 : Int32} {s0 : Int32} {s1 : Int32} {M : px_Mem} {Q : px_Po} (h1 : (s1 = s0) → px_T 0 342 2285 [some (.ref 1000), some (.ref 0), some (.ref 56), some (.int x3)] [] M Q) (h2 : (¬ (s1 = s0)) → Q (some (.int 0)) M) : px_T 0 342 1529 [some (.ref 1000), some (.ref 0), some (.ref 56), some (.int x3)] [.int s0, .int s1] M Q := by
  by_cases c1 : s1 = s0
  · obtain ⟨n, h⟩ := h1 c1
    exact ⟨n + 1, ⟨fun _ => h, fun q => absurd c1 q⟩⟩
  · exact ⟨3, ⟨fun q => absurd q c1, fun _ => ⟨Or.inl rfl, h2 c1⟩⟩⟩
theorem sg_342_1552 {x3 : Int32} {s0 : Int32} {s1 : Int32} {M : px_Mem} {Q : px_Po} (h1 : (s1 = s0) → px_T 0 342 2285 [some (.ref 1000), some (.ref 0), some (.ref 56), some (.int x3)] [] M Q) (h2 : (¬ (s1 = s0)) → Q (some (.int 0)) M) : px_T 0 342 1552 [some (.ref 1000), some (.ref 0), some (.ref 56), some (.int x3)] [.int s0, .int s1] M Q := by
  by_cases c1 : s1 = s0
  · obtain ⟨n, h⟩ := h1 c1
    exact ⟨n + 1, ⟨fun _ => h, fun q => absurd c1 q⟩⟩
  · exact ⟨3, ⟨fun q => absurd q c1, fun _ => ⟨Or.inl rfl, h2 c1⟩⟩⟩
theorem sg_342_1575 {x3 : Int32} {s0 : Int32} {s1 : Int32} {M : px_Mem} {Q : px_Po} (h1 : (s1 = s0) → px_T 0 342 2285 [some (.ref 1000), some (.ref 0), some (.ref 56), some (.int x3)] [] M Q) (h2 : (¬ (s1 = s0)) → Q (some (.int 0)) M) : px_T 0 342 1575 [some (.ref 1000), some (.ref 0), some (.ref 56), some (.int x3)] [.int s0, .int s1] M Q := by
  by_cases c1 : s1 = s0
  · obtain ⟨n, h⟩ := h1 c1
    exact ⟨n + 1, ⟨fun _ => h, fun q => absurd c1 q⟩⟩
  · exact ⟨3, ⟨fun q => absurd q c1, fun _ => ⟨Or.inl rfl, h2 c1⟩⟩⟩
theorem sg_342_1598 {x3 : Int32} {s0 : Int32} {s1 : Int32} {M : px_Mem} {Q : px_Po} (h1 : (s1 = s0) → px_T 0 342 2285 [some (.ref 1000), some (.ref 0), some (.ref 56), some (.int x3)] [] M Q) (h2 : (¬ (s1 = s0)) → Q (some (.int 0)) M) : px_T 0 342 1598 [some (.ref 1000), some (.ref 0), some (.ref 56), some (.int x3)] [.int s0, .int s1] M Q := by
  by_cases c1 : s1 = s0
  · obtain ⟨n, h⟩ := h1 c1
    exact ⟨n + 1, ⟨fun _ => h, fun q => absurd c1 q⟩⟩
  · exact ⟨3, ⟨fun q => absurd q c1, fun _ => ⟨Or.inl rfl, h2 c1⟩⟩⟩
theorem sg_342_1621 {x3 : Int32} {s0 : Int32} {s1 : Int32} {M : px_Mem} {Q : px_Po} (h1 : (s1 = s0) → px_T 0 342 2285 [some (.ref 1000), some (.ref 0), some (.ref 56), some (.int x3)] [] M Q) (h2 : (¬ (s1 = s0)) → Q (some (.int 0)) M) : px_T 0 342 1621 [some (.ref 1000), some (.ref 0), some (.ref 56), some (.int x3)] [.int s0, .int s1] M Q := by
  by_cases c1 : s1 = s0
  · obtain ⟨n, h⟩ := h1 c1
    exact ⟨n + 1, ⟨fun _ => h, fun q => absurd c1 q⟩⟩
  · exact ⟨3, ⟨fun q => absurd q c1, fun _ => ⟨Or.inl rfl, h2 c1⟩⟩⟩
theorem sg_342_1644 {x3 : Int32} {s0 : Int32} {s1 : Int32} {M : px_Mem} {Q : px_Po} (h1 : (s1 = s0) → px_T 0 342 2285 [some (.ref 1000), some (.ref 0), some (.ref 56), some (.int x3)] [] M Q) (h2 : (¬ (s1 = s0)) → Q (some (.int 0)) M) : px_T 0 342 1644 [some (.ref 1000), some (.ref 0), some (.ref 56), some (.int x3)] [.int s0, .int s1] M Q := by
  by_cases c1 : s1 = s0
  · obtain ⟨n, h⟩ := h1 c1
    exact ⟨n + 1, ⟨fun _ => h, fun q => absurd c1 q⟩⟩
  · exact ⟨3, ⟨fun q => absurd q c1, fun _ => ⟨Or.inl rfl, h2 c1⟩⟩⟩
theorem sg_342_1657 {x3 : Int32} {s0 : Int32} {s1 : Int32} {M : px_Mem} {Q : px_Po} (h1 : (s1 = s0) → px_T 0 342 2285 [some (.ref 1000), some (.ref 0), some (.ref 56), some (.int x3)] [] M Q) (h2 : (¬ (s1 = s0)) → Q (some (.int 0)) M) : px_T 0 342 1657 [some (.ref 1000), some (.ref 0), some (.ref 56), some (.int x3)] [.int s0, .int s1] M Q := by
  by_cases c1 : s1 = s0
  · obtain ⟨n, h⟩ := h1 c1
    exact ⟨n + 1, ⟨fun _ => h, fun q => absurd c1 q⟩⟩
  · exact ⟨3, ⟨fun q => absurd q c1, fun _ => ⟨Or.inl rfl, h2 c1⟩⟩⟩
theorem sg_342_1680 {x3 : Int32} {s0 : Int32} {s1 : Int32} {M : px_Mem} {Q : px_Po} (h1 : (s1 = s0) → px_T 0 342 2285 [some (.ref 1000), some (.ref 0), some (.ref 56), some (.int x3)] [] M Q) (h2 : (¬ (s1 = s0)) → Q (some (.int 0)) M) : px_T 0 342 1680 [some (.ref 1000), some (.ref 0), some (.ref 56), some (.int x3)] [.int s0, .int s1] M Q := by
  by_cases c1 : s1 = s0
  · obtain ⟨n, h⟩ := h1 c1
    exact ⟨n + 1, ⟨fun _ => h, fun q => absurd c1 q⟩⟩
  · exact ⟨3, ⟨fun q => absurd q c1, fun _ => ⟨Or.inl rfl, h2 c1⟩⟩⟩
theorem sg_342_1713 {x3 : Int32} {s0 : Int32} {s1 : Int32} {M : px_Mem} {Q : px_Po} (h1 : (s1 = s0) → px_T 0 342 2285 [some (.ref 1000), some (.ref 0), some (.ref 56), some (.int x3)] [] M Q) (h2 : (¬ (s1 = s0)) → Q (some (.int 0)) M) : px_T 0 342 1713 [some (.ref 1000), some (.ref 0), some (.ref 56), some (.int x3)] [.int s0, .int s1] M Q := by
  by_cases c1 : s1 = s0
  · obtain ⟨n, h⟩ := h1 c1
    exact ⟨n + 1, ⟨fun _ => h, fun q => absurd c1 q⟩⟩
  · exact ⟨3, ⟨fun q => absurd q c1, fun _ => ⟨Or.inl rfl, h2 c1⟩⟩⟩
theorem sg_342_1746 {x3 : Int32} {s0 : Int32} {s1 : Int32} {M : px_Mem} {Q : px_Po} (h1 : (s1 = s0) → px_T 0 342 2285 [some (.ref 1000), some (.ref 0), some (.ref 56), some (.int x3)] [] M Q) (h2 : (¬ (s1 = s0)) → Q (some (.int 0)) M) : px_T 0 342 1746 [some (.ref 1000), some (.ref 0), some (.ref 56), some (.int x3)] [.int s0, .int s1] M Q := by
  by_cases c1 : s1 = s0
  · obtain ⟨n, h⟩ := h1 c1
    exact ⟨n + 1, ⟨fun _ => h, fun q => absurd c1 q⟩⟩
  · exact ⟨3, ⟨fun q => absurd q c1, fun _ => ⟨Or.inl rfl, h2 c1⟩⟩⟩
theorem sg_342_1799 {x3 : Int32} {s0 : Int32} {s1 : Int32} {M : px_Mem} {Q : px_Po} (h1 : (s1 = s0) → px_T 0 342 2285 [some (.ref 1000), some (.ref 0), some (.ref 56), some (.int x3)] [] M Q) (h2 : (¬ (s1 = s0)) → Q (some (.int 0)) M) : px_T 0 342 1799 [some (.ref 1000), some (.ref 0), some (.ref 56), some (.int x3)] [.int s0, .int s1] M Q := by
  by_cases c1 : s1 = s0
  · obtain ⟨n, h⟩ := h1 c1
    exact ⟨n + 1, ⟨fun _ => h, fun q => absurd c1 q⟩⟩
  · exact ⟨3, ⟨fun q => absurd q c1, fun _ => ⟨Or.inl rfl, h2 c1⟩⟩⟩
theorem sg_342_1842 {x3 : Int32} {s0 : Int64} {s1 : Int64} {M : px_Mem} {Q : px_Po} (h1 : ((lg_cmp s1 s0) = 0) → px_T 0 342 2285 [some (.ref 1000), some (.ref 0), some (.ref 56), some (.int x3)] [] M Q) (h2 : (¬ ((lg_cmp s1 s0) = 0)) → Q (some (.int 0)) M) : px_T 0 342 1842 [some (.ref 1000), some (.ref 0), some (.ref 56), some (.int x3)] [.long s0, .long s1] M Q := by
  by_cases c1 : (lg_cmp s1 s0) = 0
  · obtain ⟨n, h⟩ := h1 c1
    exact ⟨n + 2, ⟨fun _ => h, fun q => absurd c1 q⟩⟩
  · exact ⟨4, ⟨fun q => absurd q c1, fun _ => ⟨Or.inl rfl, h2 c1⟩⟩⟩
theorem sg_342_1876 {x3 : Int32} {s0 : Int64} {s1 : Int64} {M : px_Mem} {Q : px_Po} (h1 : ((lg_cmp s1 s0) = 0) → px_T 0 342 2285 [some (.ref 1000), some (.ref 0), some (.ref 56), some (.int x3)] [] M Q) (h2 : (¬ ((lg_cmp s1 s0) = 0)) → Q (some (.int 0)) M) : px_T 0 342 1876 [some (.ref 1000), some (.ref 0), some (.ref 56), some (.int x3)] [.long s0, .long s1] M Q := by
  by_cases c1 : (lg_cmp s1 s0) = 0
  · obtain ⟨n, h⟩ := h1 c1
    exact ⟨n + 2, ⟨fun _ => h, fun q => absurd c1 q⟩⟩
  · exact ⟨4, ⟨fun q => absurd q c1, fun _ => ⟨Or.inl rfl, h2 c1⟩⟩⟩
theorem sg_342_1930 {x3 : Int32} {s0 : Int32} {s1 : Int32} {M : px_Mem} {Q : px_Po} (h1 : (s1 = s0) → px_T 0 342 2285 [some (.ref 1000), some (.ref 0), some (.ref 56), some (.int x3)] [] M Q) (h2 : (¬ (s1 = s0)) → Q (some (.int 0)) M) : px_T 0 342 1930 [some (.ref 1000), some (.ref 0), some (.ref 56), some (.int x3)] [.int s0, .int s1] M Q := by
  by_cases c1 : s1 = s0
  · obtain ⟨n, h⟩ := h1 c1
    exact ⟨n + 1, ⟨fun _ => h, fun q => absurd c1 q⟩⟩
  · exact ⟨3, ⟨fun q => absurd q c1, fun _ => ⟨Or.inl rfl, h2 c1⟩⟩⟩
theorem sg_342_1943 {x3 : Int32} {s0 : Int32} {s1 : Int32} {M : px_Mem} {Q : px_Po} (h1 : (s1 = s0) → px_T 0 342 2285 [some (.ref 1000), some (.ref 0), some (.ref 56), some (.int x3)] [] M Q) (h2 : (¬ (s1 = s0)) → Q (some (.int 0)) M) : px_T 0 342 1943 [some (.ref 1000), some (.ref 0), some (.ref 56), some (.int x3)] [.int s0, .int s1] M Q := by
  by_cases c1 : s1 = s0
  · obtain ⟨n, h⟩ := h1 c1
    exact ⟨n + 1, ⟨fun _ => h, fun q => absurd c1 q⟩⟩
  · exact ⟨3, ⟨fun q => absurd q c1, fun _ => ⟨Or.inl rfl, h2 c1⟩⟩⟩
theorem sg_342_1956 {x3 : Int32} {s0 : Int32} {s1 : Int32} {M : px_Mem} {Q : px_Po} (h1 : (s1 = s0) → px_T 0 342 2285 [some (.ref 1000), some (.ref 0), some (.ref 56), some (.int x3)] [] M Q) (h2 : (¬ (s1 = s0)) → Q (some (.int 0)) M) : px_T 0 342 1956 [some (.ref 1000), some (.ref 0), some (.ref 56), some (.int x3)] [.int s0, .int s1] M Q := by
  by_cases c1 : s1 = s0
  · obtain ⟨n, h⟩ := h1 c1
    exact ⟨n + 1, ⟨fun _ => h, fun q => absurd c1 q⟩⟩
  · exact ⟨3, ⟨fun q => absurd q c1, fun _ => ⟨Or.inl rfl, h2 c1⟩⟩⟩
theorem sg_342_1989 {x3 : Int32} {s0 : Int32} {s1 : Int32} {M : px_Mem} {Q : px_Po} (h1 : (s1 = s0) → px_T 0 342 2285 [some (.ref 1000), some (.ref 0), some (.ref 56), some (.int x3)] [] M Q) (h2 : (¬ (s1 = s0)) → Q (some (.int 0)) M) : px_T 0 342 1989 [some (.ref 1000), some (.ref 0), some (.ref 56), some (.int x3)] [.int s0, .int s1] M Q := by
  by_cases c1 : s1 = s0
  · obtain ⟨n, h⟩ := h1 c1
    exact ⟨n + 1, ⟨fun _ => h, fun q => absurd c1 q⟩⟩
  · exact ⟨3, ⟨fun q => absurd q c1, fun _ => ⟨Or.inl rfl, h2 c1⟩⟩⟩
theorem sg_342_2032 {x3 : Int32} {s0 : Int32} {s1 : Int32} {M : px_Mem} {Q : px_Po} (h1 : (s1 = s0) → px_T 0 342 2285 [some (.ref 1000), some (.ref 0), some (.ref 56), some (.int x3)] [] M Q) (h2 : (¬ (s1 = s0)) → Q (some (.int 0)) M) : px_T 0 342 2032 [some (.ref 1000), some (.ref 0), some (.ref 56), some (.int x3)] [.int s0, .int s1] M Q := by
  by_cases c1 : s1 = s0
  · obtain ⟨n, h⟩ := h1 c1
    exact ⟨n + 1, ⟨fun _ => h, fun q => absurd c1 q⟩⟩
  · exact ⟨3, ⟨fun q => absurd q c1, fun _ => ⟨Or.inl rfl, h2 c1⟩⟩⟩
theorem sg_342_2055 {x3 : Int32} {s0 : Int32} {s1 : Int32} {M : px_Mem} {Q : px_Po} (h1 : (s1 = s0) → px_T 0 342 2285 [some (.ref 1000), some (.ref 0), some (.ref 56), some (.int x3)] [] M Q) (h2 : (¬ (s1 = s0)) → Q (some (.int 0)) M) : px_T 0 342 2055 [some (.ref 1000), some (.ref 0), some (.ref 56), some (.int x3)] [.int s0, .int s1] M Q := by
  by_cases c1 : s1 = s0
  · obtain ⟨n, h⟩ := h1 c1
    exact ⟨n + 1, ⟨fun _ => h, fun q => absurd c1 q⟩⟩
  · exact ⟨3, ⟨fun q => absurd q c1, fun _ => ⟨Or.inl rfl, h2 c1⟩⟩⟩
theorem sg_342_2078 {x3 : Int32} {s0 : Int32} {s1 : Int32} {M : px_Mem} {Q : px_Po} (h1 : (s1 = s0) → px_T 0 342 2285 [some (.ref 1000), some (.ref 0), some (.ref 56), some (.int x3)] [] M Q) (h2 : (¬ (s1 = s0)) → Q (some (.int 0)) M) : px_T 0 342 2078 [some (.ref 1000), some (.ref 0), some (.ref 56), some (.int x3)] [.int s0, .int s1] M Q := by
  by_cases c1 : s1 = s0
  · obtain ⟨n, h⟩ := h1 c1
    exact ⟨n + 1, ⟨fun _ => h, fun q => absurd c1 q⟩⟩
  · exact ⟨3, ⟨fun q => absurd q c1, fun _ => ⟨Or.inl rfl, h2 c1⟩⟩⟩
theorem sg_342_2101 {x3 : Int32} {s0 : Int32} {s1 : Int32} {M : px_Mem} {Q : px_Po} (h1 : (s1 = s0) → px_T 0 342 2285 [some (.ref 1000), some (.ref 0), some (.ref 56), some (.int x3)] [] M Q) (h2 : (¬ (s1 = s0)) → Q (some (.int 0)) M) : px_T 0 342 2101 [some (.ref 1000), some (.ref 0), some (.ref 56), some (.int x3)] [.int s0, .int s1] M Q := by
  by_cases c1 : s1 = s0
  · obtain ⟨n, h⟩ := h1 c1
    exact ⟨n + 1, ⟨fun _ => h, fun q => absurd c1 q⟩⟩
  · exact ⟨3, ⟨fun q => absurd q c1, fun _ => ⟨Or.inl rfl, h2 c1⟩⟩⟩
theorem sg_342_2144 {x3 : Int32} {s0 : Int32} {s1 : Int32} {M : px_Mem} {Q : px_Po} (h1 : (s1 = s0) → px_T 0 342 2285 [some (.ref 1000), some (.ref 0), some (.ref 56), some (.int x3)] [] M Q) (h2 : (¬ (s1 = s0)) → Q (some (.int 0)) M) : px_T 0 342 2144 [some (.ref 1000), some (.ref 0), some (.ref 56), some (.int x3)] [.int s0, .int s1] M Q := by
  by_cases c1 : s1 = s0
  · obtain ⟨n, h⟩ := h1 c1
    exact ⟨n + 1, ⟨fun _ => h, fun q => absurd c1 q⟩⟩
  · exact ⟨3, ⟨fun q => absurd q c1, fun _ => ⟨Or.inl rfl, h2 c1⟩⟩⟩
theorem sg_342_2217 {x3 : Int32} {s0 : Int32} {s1 : Int32} {M : px_Mem} {Q : px_Po} (h1 : (s1 = s0) → px_T 0 342 2285 [some (.ref 1000), some (.ref 0), some (.ref 56), some (.int x3)] [] M Q) (h2 : (¬ (s1 = s0)) → Q (some (.int 0)) M) : px_T 0 342 2217 [some (.ref 1000), some (.ref 0), some (.ref 56), some (.int x3)] [.int s0, .int s1] M Q := by
  by_cases c1 : s1 = s0
  · obtain ⟨n, h⟩ := h1 c1
    exact ⟨n + 1, ⟨fun _ => h, fun q => absurd c1 q⟩⟩
  · exact ⟨3, ⟨fun q => absurd q c1, fun _ => ⟨Or.inl rfl, h2 c1⟩⟩⟩
theorem sg_342_2280 {x3 : Int32} {s0 : Int32} {s1 : Int32} {M : px_Mem} {Q : px_Po} (h1 : (s1 = s0) → px_T 0 342 2285 [some (.ref 1000), some (.ref 0), some (.ref 56), some (.int x3)] [] M Q) (h2 : (¬ (s1 = s0)) → Q (some (.int 0)) M) : px_T 0 342 2280 [some (.ref 1000), some (.ref 0), some (.ref 56), some (.int x3)] [.int s0, .int s1] M Q := by
  by_cases c1 : s1 = s0
  · obtain ⟨n, h⟩ := h1 c1
    exact ⟨n + 1, ⟨fun _ => h, fun q => absurd c1 q⟩⟩
  · exact ⟨3, ⟨fun q => absurd q c1, fun _ => ⟨Or.inl rfl, h2 c1⟩⟩⟩
