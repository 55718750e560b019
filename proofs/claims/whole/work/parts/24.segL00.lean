theorem sg_342_18 {x3 : Int32} {M : px_Mem} {Q : px_Po} (h1 : (((M.1 999 0) - 6) < x3) → Q (some (.int 1)) M) (h2 : (¬ (((M.1 999 0) - 6) < x3)) → vp_in x3 (M.1 999 0).toNatClampNeg) (h3 : (¬ (((M.1 999 0) - 6) < x3)) → px_T 0 342 33 [some (.ref 1000), some (.ref 0), some (.ref 56), some (.int x3)] [.int ((M.1 1000 x3.toNatClampNeg) &&& 127)] M Q) : px_T 0 342 18 [some (.ref 1000), some (.ref 0), some (.ref 56), some (.int x3)] [] M Q := by
  by_cases c1 : ((M.1 999 0) - 6) < x3
  · exact ⟨8, (Or.inr ⟨rfl, ⟨fun _ => ⟨Or.inr rfl, h1 c1⟩, fun q => absurd c1 q⟩⟩)⟩
  · obtain ⟨n, h⟩ := h3 c1
    exact ⟨n + 11, (Or.inr ⟨rfl, ⟨fun q => absurd q c1, fun _ => ⟨Or.inr ⟨rfl, (h2 c1)⟩, h⟩⟩⟩)⟩
theorem sg_342_33 {x3 : Int32} {s0 : Int32} {M : px_Mem} {Q : px_Po} (h1 : (s0 = 0) → px_T 0 342 308 [some (.ref 1000), some (.ref 0), some (.ref 56), some (.int x3)] [] M Q) (h2 : (s0 = 1) → px_T 0 342 371 [some (.ref 1000), some (.ref 0), some (.ref 56), some (.int x3)] [] M Q) (h3 : (s0 = 2) → px_T 0 342 394 [some (.ref 1000), some (.ref 0), some (.ref 56), some (.int x3)] [] M Q) (h4 : (s0 = 3) → px_T 0 342 407 [some (.ref 1000), some (.ref 0), some (.ref 56), some (.int x3)] [] M Q) (h5 : (s0 = 4) → px_T 0 342 430 [some (.ref 1000), some (.ref 0), some (.ref 56), some (.int x3)] [] M Q) (h6 : (s0 = 5) → px_T 0 342 463 [some (.ref 1000), some (.ref 0), some (.ref 56), some (.int x3)] [] M Q) (h7 : (s0 = 6) → px_T 0 342 486 [some (.ref 1000), some (.ref 0), some (.ref 56), some (.int x3)] [] M Q) (h8 : (s0 = 7) → px_T 0 342 509 [some (.ref 1000), some (.ref 0), some (.ref 56), some (.int x3)] [] M Q) (h9 : (s0 = 8) → px_T 0 342 532 [some (.ref 1000), some (.ref 0), some (.ref 56), some (.int x3)] [] M Q) (h10 : (s0 = 9) → px_T 0 342 565 [some (.ref 1000), some (.ref 0), some (.ref 56), some (.int x3)] [] M Q) (h11 : (s0 = 10) → px_T 0 342 598 [some (.ref 1000), some (.ref 0), some (.ref 56), some (.int x3)] [] M Q) (h12 : (s0 = 11) → px_T 0 342 631 [some (.ref 1000), some (.ref 0), some (.ref 56), some (.int x3)] [] M Q) (h13 : (s0 = 12) → px_T 0 342 664 [some (.ref 1000), some (.ref 0), some (.ref 56), some (.int x3)] [] M Q) (h14 : (s0 = 13) → px_T 0 342 697 [some (.ref 1000), some (.ref 0), some (.ref 56), some (.int x3)] [] M Q) (h15 : (s0 = 14) → px_T 0 342 730 [some (.ref 1000), some (.ref 0), some (.ref 56), some (.int x3)] [] M Q) (h16 : (s0 = 15) → px_T 0 342 753 [some (.ref 1000), some (.ref 0), some (.ref 56), some (.int x3)] [] M Q) (h17 : (s0 = 16) → px_T 0 342 776 [some (.ref 1000), some (.ref 0), some (.ref 56), some (.int x3)] [] M Q) (h18 : (s0 = 17) → px_T 0 342 799 [some (.ref 1000), some (.ref 0), some (.ref 56), some (.int x3)] [] M Q) (h19 : (s0 = 18) → px_T 0 342 842 [some (.ref 1000), some (.ref 0), some (.ref 56), some (.int x3)] [] M Q) (h20 : (s0 = 19) → px_T 0 342 875 [some (.ref 1000), some (.ref 0), some (.ref 56), some (.int x3)] [] M Q) (h21 : (s0 = 20) → px_T 0 342 908 [some (.ref 1000), some (.ref 0), some (.ref 56), some (.int x3)] [] M Q) (h22 : (s0 = 21) → px_T 0 342 941 [some (.ref 1000), some (.ref 0), some (.ref 56), some (.int x3)] [] M Q) (h23 : (s0 = 22) → px_T 0 342 964 [some (.ref 1000), some (.ref 0), some (.ref 56), some (.int x3)] [] M Q) (h24 : (s0 = 23) → px_T 0 342 997 [some (.ref 1000), some (.ref 0), some (.ref 56), some (.int x3)] [] M Q) (h25 : (s0 = 24) → px_T 0 342 1020 [some (.ref 1000), some (.ref 0), some (.ref 56), some (.int x3)] [] M Q) (h26 : (s0 = 25) → px_T 0 342 1063 [some (.ref 1000), some (.ref 0), some (.ref 56), some (.int x3)] [] M Q) (h27 : (s0 = 26) → px_T 0 342 1106 [some (.ref 1000), some (.ref 0), some (.ref 56), some (.int x3)] [] M Q) (h28 : (s0 = 27) → px_T 0 342 1139 [some (.ref 1000), some (.ref 0), some (.ref 56), some (.int x3)] [] M Q) (h29 : (s0 = 28) → px_T 0 342 1162 [some (.ref 1000), some (.ref 0), some (.ref 56), some (.int x3)] [] M Q) (h30 : (s0 = 29) → px_T 0 342 1175 [some (.ref 1000), some (.ref 0), some (.ref 56), some (.int x3)] [] M Q) (h31 : (s0 = 30) → px_T 0 342 1188 [some (.ref 1000), some (.ref 0), some (.ref 56), some (.int x3)] [] M Q) (h32 : (s0 = 31) → px_T 0 342 1221 [some (.ref 1000), some (.ref 0), some (.ref 56), some (.int x3)] [] M Q) (h33 : (s0 = 32) → px_T 0 342 1244 [some (.ref 1000), some (.ref 0), some (.ref 56), some (.int x3)] [] M Q) (h34 : (s0 = 33) → px_T 0 342 1267 [some (.ref 1000), some (.ref 0), some (.ref 56), some (.int x3)] [] M Q) (h35 : (s0 = 34) → px_T 0 342 1300 [some (.ref 1000), some (.ref 0), some (.ref 56), some (.int x3)] [] M Q) (h36 : (s0 = 35) → px_T 0 342 1323 [some (.ref 1000), some (.ref 0), some (.ref 56), some (.int x3)] [] M Q) (h37 : (s0 = 36) → px_T 0 342 1336 [some (.ref 1000), some (.ref 0), some (.ref 56), some (.int x3)] [] M Q) (h38 : (s0 = 37) → px_T 0 342 1379 [some (.ref 1000), some (.ref 0), some (.ref 56), some (.int x3)] [] M Q) (h39 : (s0 = 38) → px_T 0 342 1432 [some (.ref 1000), some (.ref 0), some (.ref 56), some (.int x3)] [] M Q) (h40 : (s0 = 39) → px_T 0 342 1475 [some (.ref 1000), some (.ref 0), some (.ref 56), some (.int x3)] [] M Q) (h41 : (s0 = 40) → px_T 0 342 1508 [some (.ref 1000), some (.ref 0), some (.ref 56), some (.int x3)] [] M Q) (h42 : (s0 = 41) → px_T 0 342 1521 [some (.ref 1000), some (.ref 0), some (.ref 56), some (.int x3)] [] M Q) (h43 : (s0 = 42) → px_T 0 342 1534 [some (.ref 1000), some (.ref 0), some (.ref 56), some (.int x3)] [] M Q) (h44 : (s0 = 43) → px_T 0 342 1557 [some (.ref 1000), some (.ref 0), some (.ref 56), some (.int x3)] [] M Q) (h45 : (s0 = 44) → px_T 0 342 1580 [some (.ref 1000), some (.ref 0), some (.ref 56), some (.int x3)] [] M Q) (h46 : (s0 = 45) → px_T 0 342 1603 [some (.ref 1000), some (.ref 0), some (.ref 56), some (.int x3)] [] M Q) (h47 : (s0 = 46) → px_T 0 342 1626 [some (.ref 1000), some (.ref 0), some (.ref 56), some (.int x3)] [] M Q) (h48 : (s0 = 47) → px_T 0 342 1649 [some (.ref 1000), some (.ref 0), some (.ref 56), some (.int x3)] [] M Q) (h49 : (s0 = 48) → px_T 0 342 1662 [some (.ref 1000), some (.ref 0), some (.ref 56), some (.int x3)] [] M Q) (h50 : (s0 = 49) → px_T 0 342 1685 [some (.ref 1000), some (.ref 0), some (.ref 56), some (.int x3)] [] M Q) (h51 : (s0 = 50) → px_T 0 342 1718 [some (.ref 1000), some (.ref 0), some (.ref 56), some (.int x3)] [] M Q) (h52 : (s0 = 51) → px_T 0 342 1751 [some (.ref 1000), some (.ref 0), some (.ref 56), some (.int x3)] [] M Q) (h53 : (s0 = 52) → px_T 0 342 1804 [some (.ref 1000), some (.ref 0), some (.ref 56), some (.int x3)] [] M Q) (h54 : (s0 = 53) → px_T 0 342 1848 [some (.ref 1000), some (.ref 0), some (.ref 56), some (.int x3)] [] M Q) (h55 : (s0 = 54) → px_T 0 342 1882 [some (.ref 1000), some (.ref 0), some (.ref 56), some (.int x3)] [] M Q) (h56 : (s0 = 55) → px_T 0 342 1935 [some (.ref 1000), some (.ref 0), some (.ref 56), some (.int x3)] [] M Q) (h57 : (s0 = 56) → px_T 0 342 1948 [some (.ref 1000), some (.ref 0), some (.ref 56), some (.int x3)] [] M Q) (h58 : (s0 = 57) → px_T 0 342 1961 [some (.ref 1000), some (.ref 0), some (.ref 56), some (.int x3)] [] M Q) (h59 : (s0 = 58) → px_T 0 342 1994 [some (.ref 1000), some (.ref 0), some (.ref 56), some (.int x3)] [] M Q) (h60 : (s0 = 59) → px_T 0 342 2037 [some (.ref 1000), some (.ref 0), some (.ref 56), some (.int x3)] [] M Q) (h61 : (s0 = 60) → px_T 0 342 2060 [some (.ref 1000), some (.ref 0), some (.ref 56), some (.int x3)] [] M Q) (h62 : (s0 = 61) → px_T 0 342 2083 [some (.ref 1000), some (.ref 0), some (.ref 56), some (.int x3)] [] M Q) (h63 : (s0 = 62) → px_T 0 342 2106 [some (.ref 1000), some (.ref 0), some (.ref 56), some (.int x3)] [] M Q) (h64 : (s0 = 63) → px_T 0 342 2149 [some (.ref 1000), some (.ref 0), some (.ref 56), some (.int x3)] [] M Q) (h65 : (s0 = 64) → px_T 0 342 2222 [some (.ref 1000), some (.ref 0), some (.ref 56), some (.int x3)] [] M Q) (h66 : (¬ s0 = 0) → (¬ s0 = 1) → (¬ s0 = 2) → (¬ s0 = 3) → (¬ s0 = 4) → (¬ s0 = 5) → (¬ s0 = 6) → (¬ s0 = 7) → (¬ s0 = 8) → (¬ s0 = 9) → (¬ s0 = 10) → (¬ s0 = 11) → (¬ s0 = 12) → (¬ s0 = 13) → (¬ s0 = 14) → (¬ s0 = 15) → (¬ s0 = 16) → (¬ s0 = 17) → (¬ s0 = 18) → (¬ s0 = 19) → (¬ s0 = 20) → (¬ s0 = 21) → (¬ s0 = 22) → (¬ s0 = 23) → (¬ s0 = 24) → (¬ s0 = 25) → (¬ s0 = 26) → (¬ s0 = 27) → (¬ s0 = 28) → (¬ s0 = 29) → (¬ s0 = 30) → (¬ s0 = 31) → (¬ s0 = 32) → (¬ s0 = 33) → (¬ s0 = 34) → (¬ s0 = 35) → (¬ s0 = 36) → (¬ s0 = 37) → (¬ s0 = 38) → (¬ s0 = 39) → (¬ s0 = 40) → (¬ s0 = 41) → (¬ s0 = 42) → (¬ s0 = 43) → (¬ s0 = 44) → (¬ s0 = 45) → (¬ s0 = 46) → (¬ s0 = 47) → (¬ s0 = 48) → (¬ s0 = 49) → (¬ s0 = 50) → (¬ s0 = 51) → (¬ s0 = 52) → (¬ s0 = 53) → (¬ s0 = 54) → (¬ s0 = 55) → (¬ s0 = 56) → (¬ s0 = 57) → (¬ s0 = 58) → (¬ s0 = 59) → (¬ s0 = 60) → (¬ s0 = 61) → (¬ s0 = 62) → (¬ s0 = 63) → (¬ s0 = 64) → px_T 0 342 2285 [some (.ref 1000), some (.ref 0), some (.ref 56), some (.int x3)] [] M Q) : px_T 0 342 33 [some (.ref 1000), some (.ref 0), some (.ref 56), some (.int x3)] [.int s0] M Q := by
  by_cases c1 : s0 = 0
  · exact px_T_sw rfl (by rw [c1]; rfl) (h1 c1)
  by_cases c2 : s0 = 1
  · exact px_T_sw rfl (by rw [c2]; rfl) (h2 c2)
  by_cases c3 : s0 = 2
  · exact px_T_sw rfl (by rw [c3]; rfl) (h3 c3)
  by_cases c4 : s0 = 3
  · exact px_T_sw rfl (by rw [c4]; rfl) (h4 c4)
  by_cases c5 : s0 = 4
  · exact px_T_sw rfl (by rw [c5]; rfl) (h5 c5)
  by_cases c6 : s0 = 5
  · exact px_T_sw rfl (by rw [c6]; rfl) (h6 c6)
  by_cases c7 : s0 = 6
  · exact px_T_sw rfl (by rw [c7]; rfl) (h7 c7)
  by_cases c8 : s0 = 7
  · exact px_T_sw rfl (by rw [c8]; rfl) (h8 c8)
  by_cases c9 : s0 = 8
  · exact px_T_sw rfl (by rw [c9]; rfl) (h9 c9)
  by_cases c10 : s0 = 9
  · exact px_T_sw rfl (by rw [c10]; rfl) (h10 c10)
  by_cases c11 : s0 = 10
  · exact px_T_sw rfl (by rw [c11]; rfl) (h11 c11)
  by_cases c12 : s0 = 11
  · exact px_T_sw rfl (by rw [c12]; rfl) (h12 c12)
  by_cases c13 : s0 = 12
  · exact px_T_sw rfl (by rw [c13]; rfl) (h13 c13)
  by_cases c14 : s0 = 13
  · exact px_T_sw rfl (by rw [c14]; rfl) (h14 c14)
  by_cases c15 : s0 = 14
  · exact px_T_sw rfl (by rw [c15]; rfl) (h15 c15)
  by_cases c16 : s0 = 15
  · exact px_T_sw rfl (by rw [c16]; rfl) (h16 c16)
  by_cases c17 : s0 = 16
  · exact px_T_sw rfl (by rw [c17]; rfl) (h17 c17)
  by_cases c18 : s0 = 17
  · exact px_T_sw rfl (by rw [c18]; rfl) (h18 c18)
  by_cases c19 : s0 = 18
  · exact px_T_sw rfl (by rw [c19]; rfl) (h19 c19)
  by_cases c20 : s0 = 19
  · exact px_T_sw rfl (by rw [c20]; rfl) (h20 c20)
  by_cases c21 : s0 = 20
  · exact px_T_sw rfl (by rw [c21]; rfl) (h21 c21)
  by_cases c22 : s0 = 21
  · exact px_T_sw rfl (by rw [c22]; rfl) (h22 c22)
  by_cases c23 : s0 = 22
  · exact px_T_sw rfl (by rw [c23]; rfl) (h23 c23)
  by_cases c24 : s0 = 23
  · exact px_T_sw rfl (by rw [c24]; rfl) (h24 c24)
  by_cases c25 : s0 = 24
  · exact px_T_sw rfl (by rw [c25]; rfl) (h25 c25)
  by_cases c26 : s0 = 25
  · exact px_T_sw rfl (by rw [c26]; rfl) (h26 c26)
  by_cases c27 : s0 = 26
  · exact px_T_sw rfl (by rw [c27]; rfl) (h27 c27)
  by_cases c28 : s0 = 27
  · exact px_T_sw rfl (by rw [c28]; rfl) (h28 c28)
  by_cases c29 : s0 = 28
  · exact px_T_sw rfl (by rw [c29]; rfl) (h29 c29)
  by_cases c30 : s0 = 29
  · exact px_T_sw rfl (by rw [c30]; rfl) (h30 c30)
  by_cases c31 : s0 = 30
  · exact px_T_sw rfl (by rw [c31]; rfl) (h31 c31)
  by_cases c32 : s0 = 31
  · exact px_T_sw rfl (by rw [c32]; rfl) (h32 c32)
  by_cases c33 : s0 = 32
  · exact px_T_sw rfl (by rw [c33]; rfl) (h33 c33)
  by_cases c34 : s0 = 33
  · exact px_T_sw rfl (by rw [c34]; rfl) (h34 c34)
  by_cases c35 : s0 = 34
  · exact px_T_sw rfl (by rw [c35]; rfl) (h35 c35)
  by_cases c36 : s0 = 35
  · exact px_T_sw rfl (by rw [c36]; rfl) (h36 c36)
  by_cases c37 : s0 = 36
  · exact px_T_sw rfl (by rw [c37]; rfl) (h37 c37)
  by_cases c38 : s0 = 37
  · exact px_T_sw rfl (by rw [c38]; rfl) (h38 c38)
  by_cases c39 : s0 = 38
  · exact px_T_sw rfl (by rw [c39]; rfl) (h39 c39)
  by_cases c40 : s0 = 39
  · exact px_T_sw rfl (by rw [c40]; rfl) (h40 c40)
  by_cases c41 : s0 = 40
  · exact px_T_sw rfl (by rw [c41]; rfl) (h41 c41)
  by_cases c42 : s0 = 41
  · exact px_T_sw rfl (by rw [c42]; rfl) (h42 c42)
  by_cases c43 : s0 = 42
  · exact px_T_sw rfl (by rw [c43]; rfl) (h43 c43)
  by_cases c44 : s0 = 43
  · exact px_T_sw rfl (by rw [c44]; rfl) (h44 c44)
  by_cases c45 : s0 = 44
  · exact px_T_sw rfl (by rw [c45]; rfl) (h45 c45)
  by_cases c46 : s0 = 45
  · exact px_T_sw rfl (by rw [c46]; rfl) (h46 c46)
  by_cases c47 : s0 = 46
  · exact px_T_sw rfl (by rw [c47]; rfl) (h47 c47)
  by_cases c48 : s0 = 47
  · exact px_T_sw rfl (by rw [c48]; rfl) (h48 c48)
  by_cases c49 : s0 = 48
  · exact px_T_sw rfl (by rw [c49]; rfl) (h49 c49)
  by_cases c50 : s0 = 49
  · exact px_T_sw rfl (by rw [c50]; rfl) (h50 c50)
  by_cases c51 : s0 = 50
  · exact px_T_sw rfl (by rw [c51]; rfl) (h51 c51)
  by_cases c52 : s0 = 51
  · exact px_T_sw rfl (by rw [c52]; rfl) (h52 c52)
  by_cases c53 : s0 = 52
  · exact px_T_sw rfl (by rw [c53]; rfl) (h53 c53)
  by_cases c54 : s0 = 53
  · exact px_T_sw rfl (by rw [c54]; rfl) (h54 c54)
  by_cases c55 : s0 = 54
  · exact px_T_sw rfl (by rw [c55]; rfl) (h55 c55)
  by_cases c56 : s0 = 55
  · exact px_T_sw rfl (by rw [c56]; rfl) (h56 c56)
  by_cases c57 : s0 = 56
  · exact px_T_sw rfl (by rw [c57]; rfl) (h57 c57)
  by_cases c58 : s0 = 57
  · exact px_T_sw rfl (by rw [c58]; rfl) (h58 c58)
  by_cases c59 : s0 = 58
  · exact px_T_sw rfl (by rw [c59]; rfl) (h59 c59)
  by_cases c60 : s0 = 59
  · exact px_T_sw rfl (by rw [c60]; rfl) (h60 c60)
  by_cases c61 : s0 = 60
  · exact px_T_sw rfl (by rw [c61]; rfl) (h61 c61)
  by_cases c62 : s0 = 61
  · exact px_T_sw rfl (by rw [c62]; rfl) (h62 c62)
  by_cases c63 : s0 = 62
  · exact px_T_sw rfl (by rw [c63]; rfl) (h63 c63)
  by_cases c64 : s0 = 63
  · exact px_T_sw rfl (by rw [c64]; rfl) (h64 c64)
  by_cases c65 : s0 = 64
  · exact px_T_sw rfl (by rw [c65]; rfl) (h65 c65)
  exact px_T_sw rfl (px_sw_o (N := 65) (by decide) (fun v hv => match v, hv with | 0, _ => c1 | 1, _ => c2 | 2, _ => c3 | 3, _ => c4 | 4, _ => c5 | 5, _ => c6 | 6, _ => c7 | 7, _ => c8 | 8, _ => c9 | 9, _ => c10 | 10, _ => c11 | 11, _ => c12 | 12, _ => c13 | 13, _ => c14 | 14, _ => c15 | 15, _ => c16 | 16, _ => c17 | 17, _ => c18 | 18, _ => c19 | 19, _ => c20 | 20, _ => c21 | 21, _ => c22 | 22, _ => c23 | 23, _ => c24 | 24, _ => c25 | 25, _ => c26 | 26, _ => c27 | 27, _ => c28 | 28, _ => c29 | 29, _ => c30 | 30, _ => c31 | 31, _ => c32 | 32, _ => c33 | 33, _ => c34 | 34, _ => c35 | 35, _ => c36 | 36, _ => c37 | 37, _ => c38 | 38, _ => c39 | 39, _ => c40 | 40, _ => c41 | 41, _ => c42 | 42, _ => c43 | 43, _ => c44 | 44, _ => c45 | 45, _ => c46 | 46, _ => c47 | 47, _ => c48 | 48, _ => c49 | 49, _ => c50 | 50, _ => c51 | 51, _ => c52 | 52, _ => c53 | 53, _ => c54 | 54, _ => c55 | 55, _ => c56 | 56, _ => c57 | 57, _ => c58 | 58, _ => c59 | 59, _ => c60 | 60, _ => c61 | 61, _ => c62 | 62, _ => c63 | 63, _ => c64 | 64, _ => c65 | n + 65, h => absurd h (by omega))) (h66 c1 c2 c3 c4 c5 c6 c7 c8 c9 c10 c11 c12 c13 c14 c15 c16 c17 c18 c19 c20 c21 c22 c23 c24 c25 c26 c27 c28 c29 c30 c31 c32 c33 c34 c35 c36 c37 c38 c39 c40 c41 c42 c43 c44 c45 c46 c47 c48 c49 c50 c51 c52 c53 c54 c55 c56 c57 c58 c59 c60 c61 c62 c63 c64 c65)
theorem sg_342_308 {x3 : Int32} {M : px_Mem} {Q : px_Po} (h1 : vp_in (x3 + 1) (M.1 999 0).toNatClampNeg) (h2 : vp_in (x3 + 2) (M.1 999 0).toNatClampNeg) (h3 : vp_in (x3 + 3) (M.1 999 0).toNatClampNeg) (h4 : vp_in (x3 + 4) (M.1 999 0).toNatClampNeg) (h5 : vp_in (x3 + 5) (M.1 999 0).toNatClampNeg) (h6 : px_T 0 86 0 [some (.ref 0), some (.int (M.1 1000 ((x3 + 1).toNatClampNeg))), some (.int (M.1 1000 ((x3 + 2).toNatClampNeg))), some (.int (M.1 1000 ((x3 + 3).toNatClampNeg))), some (.int (M.1 1000 ((x3 + 4).toNatClampNeg))), some (.int (M.1 1000 ((x3 + 5).toNatClampNeg)))] [] M (fun r M1 => px_T 0 342 337 [some (.ref 1000), some (.ref 0), some (.ref 56), some (.int x3)] (r.toList ++ []) M1 Q)) : px_T 0 342 308 [some (.ref 1000), some (.ref 0), some (.ref 56), some (.int x3)] [] M Q := by
  obtain ⟨n, h⟩ := px_T_cl (k := 342) (pc := 334) (y := 86) (st := [.int (M.1 1000 ((x3 + 5).toNatClampNeg)), .int (M.1 1000 ((x3 + 4).toNatClampNeg)), .int (M.1 1000 ((x3 + 3).toNatClampNeg)), .int (M.1 1000 ((x3 + 2).toNatClampNeg)), .int (M.1 1000 ((x3 + 1).toNatClampNeg)), .ref 0]) rfl (h6)
  exact ⟨n + 27, ⟨Or.inr ⟨rfl, h1⟩, ⟨Or.inr ⟨rfl, h2⟩, ⟨Or.inr ⟨rfl, h3⟩, ⟨Or.inr ⟨rfl, h4⟩, ⟨Or.inr ⟨rfl, h5⟩, ⟨rfl, h⟩⟩⟩⟩⟩⟩⟩
theorem sg_342_371 {x3 : Int32} {M : px_Mem} {Q : px_Po} (h1 : vp_in (x3 + 1) (M.1 999 0).toNatClampNeg) (h2 : px_T 0 87 0 [some (.ref 0), some (.int (M.1 1000 ((x3 + 1).toNatClampNeg)))] [] M (fun r M1 => px_T 0 342 380 [some (.ref 1000), some (.ref 0), some (.ref 56), some (.int x3)] (r.toList ++ []) M1 Q)) : px_T 0 342 371 [some (.ref 1000), some (.ref 0), some (.ref 56), some (.int x3)] [] M Q := by
  obtain ⟨n, h⟩ := px_T_cl (k := 342) (pc := 377) (y := 87) (st := [.int (M.1 1000 ((x3 + 1).toNatClampNeg)), .ref 0]) rfl (h2)
  exact ⟨n + 7, ⟨Or.inr ⟨rfl, h1⟩, ⟨rfl, h⟩⟩⟩
theorem sg_342_394 {x3 : Int32} {M : px_Mem} {Q : px_Po} (h1 : px_T 0 88 0 [some (.ref 0)] [] M (fun r M1 => px_T 0 342 398 [some (.ref 1000), some (.ref 0), some (.ref 56), some (.int x3)] (r.toList ++ []) M1 Q)) : px_T 0 342 394 [some (.ref 1000), some (.ref 0), some (.ref 56), some (.int x3)] [] M Q := by
  obtain ⟨n, h⟩ := px_T_cl (k := 342) (pc := 395) (y := 88) (st := [.ref 0]) rfl (h1)
  exact ⟨n + 2, ⟨rfl, h⟩⟩
theorem sg_342_407 {x3 : Int32} {M : px_Mem} {Q : px_Po} (h1 : vp_in (x3 + 1) (M.1 999 0).toNatClampNeg) (h2 : px_T 0 89 0 [some (.ref 0), some (.int (M.1 1000 ((x3 + 1).toNatClampNeg)))] [] M (fun r M1 => px_T 0 342 416 [some (.ref 1000), some (.ref 0), some (.ref 56), some (.int x3)] (r.toList ++ []) M1 Q)) : px_T 0 342 407 [some (.ref 1000), some (.ref 0), some (.ref 56), some (.int x3)] [] M Q := by
  obtain ⟨n, h⟩ := px_T_cl (k := 342) (pc := 413) (y := 89) (st := [.int (M.1 1000 ((x3 + 1).toNatClampNeg)), .ref 0]) rfl (h2)
  exact ⟨n + 7, ⟨Or.inr ⟨rfl, h1⟩, ⟨rfl, h⟩⟩⟩
theorem sg_342_430 {x3 : Int32} {M : px_Mem} {Q : px_Po} (h1 : vp_in (x3 + 1) (M.1 999 0).toNatClampNeg) (h2 : vp_in (x3 + 2) (M.1 999 0).toNatClampNeg) (h3 : px_T 0 90 0 [some (.ref 0), some (.int (M.1 1000 ((x3 + 1).toNatClampNeg))), some (.int (M.1 1000 ((x3 + 2).toNatClampNeg))), none, none] [] M (fun r M1 => px_T 0 342 444 [some (.ref 1000), some (.ref 0), some (.ref 56), some (.int x3)] (r.toList ++ []) M1 Q)) : px_T 0 342 430 [some (.ref 1000), some (.ref 0), some (.ref 56), some (.int x3)] [] M Q := by
  obtain ⟨n, h⟩ := px_T_cl (k := 342) (pc := 441) (y := 90) (st := [.int (M.1 1000 ((x3 + 2).toNatClampNeg)), .int (M.1 1000 ((x3 + 1).toNatClampNeg)), .ref 0]) rfl (h3)
  exact ⟨n + 12, ⟨Or.inr ⟨rfl, h1⟩, ⟨Or.inr ⟨rfl, h2⟩, ⟨rfl, h⟩⟩⟩⟩
theorem sg_342_463 {x3 : Int32} {M : px_Mem} {Q : px_Po} (h1 : vp_in (x3 + 1) (M.1 999 0).toNatClampNeg) (h2 : px_T 0 91 0 [some (.ref 0), some (.int (M.1 1000 ((x3 + 1).toNatClampNeg)))] [] M (fun r M1 => px_T 0 342 472 [some (.ref 1000), some (.ref 0), some (.ref 56), some (.int x3)] (r.toList ++ []) M1 Q)) : px_T 0 342 463 [some (.ref 1000), some (.ref 0), some (.ref 56), some (.int x3)] [] M Q := by
  obtain ⟨n, h⟩ := px_T_cl (k := 342) (pc := 469) (y := 91) (st := [.int (M.1 1000 ((x3 + 1).toNatClampNeg)), .ref 0]) rfl (h2)
  exact ⟨n + 7, ⟨Or.inr ⟨rfl, h1⟩, ⟨rfl, h⟩⟩⟩
theorem sg_342_486 {x3 : Int32} {M : px_Mem} {Q : px_Po} (h1 : vp_in (x3 + 1) (M.1 999 0).toNatClampNeg) (h2 : px_T 0 92 0 [some (.ref 0), some (.int (M.1 1000 ((x3 + 1).toNatClampNeg)))] [] M (fun r M1 => px_T 0 342 495 [some (.ref 1000), some (.ref 0), some (.ref 56), some (.int x3)] (r.toList ++ []) M1 Q)) : px_T 0 342 486 [some (.ref 1000), some (.ref 0), some (.ref 56), some (.int x3)] [] M Q := by
  obtain ⟨n, h⟩ := px_T_cl (k := 342) (pc := 492) (y := 92) (st := [.int (M.1 1000 ((x3 + 1).toNatClampNeg)), .ref 0]) rfl (h2)
  exact ⟨n + 7, ⟨Or.inr ⟨rfl, h1⟩, ⟨rfl, h⟩⟩⟩
theorem sg_342_509 {x3 : Int32} {M : px_Mem} {Q : px_Po} (h1 : vp_in (x3 + 1) (M.1 999 0).toNatClampNeg) (h2 : px_T 0 93 0 [some (.ref 0), some (.int (M.1 1000 ((x3 + 1).toNatClampNeg)))] [] M (fun r M1 => px_T 0 342 518 [some (.ref 1000), some (.ref 0), some (.ref 56), some (.int x3)] (r.toList ++ []) M1 Q)) : px_T 0 342 509 [some (.ref 1000), some (.ref 0), some (.ref 56), some (.int x3)] [] M Q := by
  obtain ⟨n, h⟩ := px_T_cl (k := 342) (pc := 515) (y := 93) (st := [.int (M.1 1000 ((x3 + 1).toNatClampNeg)), .ref 0]) rfl (h2)
  exact ⟨n + 7, ⟨Or.inr ⟨rfl, h1⟩, ⟨rfl, h⟩⟩⟩
theorem sg_342_532 {x3 : Int32} {M : px_Mem} {Q : px_Po} (h1 : vp_in (x3 + 1) (M.1 999 0).toNatClampNeg) (h2 : vp_in (x3 + 2) (M.1 999 0).toNatClampNeg) (h3 : px_T 0 94 0 [some (.ref 0), some (.int (M.1 1000 ((x3 + 1).toNatClampNeg))), some (.int (M.1 1000 ((x3 + 2).toNatClampNeg)))] [] M (fun r M1 => px_T 0 342 546 [some (.ref 1000), some (.ref 0), some (.ref 56), some (.int x3)] (r.toList ++ []) M1 Q)) : px_T 0 342 532 [some (.ref 1000), some (.ref 0), some (.ref 56), some (.int x3)] [] M Q := by
  obtain ⟨n, h⟩ := px_T_cl (k := 342) (pc := 543) (y := 94) (st := [.int (M.1 1000 ((x3 + 2).toNatClampNeg)), .int (M.1 1000 ((x3 + 1).toNatClampNeg)), .ref 0]) rfl (h3)
  exact ⟨n + 12, ⟨Or.inr ⟨rfl, h1⟩, ⟨Or.inr ⟨rfl, h2⟩, ⟨rfl, h⟩⟩⟩⟩
theorem sg_342_565 {x3 : Int32} {M : px_Mem} {Q : px_Po} (h1 : vp_in (x3 + 1) (M.1 999 0).toNatClampNeg) (h2 : vp_in (x3 + 2) (M.1 999 0).toNatClampNeg) (h3 : px_T 0 95 0 [some (.ref 0), some (.int (M.1 1000 ((x3 + 1).toNatClampNeg))), some (.int (M.1 1000 ((x3 + 2).toNatClampNeg))), none] [] M (fun r M1 => px_T 0 342 579 [some (.ref 1000), some (.ref 0), some (.ref 56), some (.int x3)] (r.toList ++ []) M1 Q)) : px_T 0 342 565 [some (.ref 1000), some (.ref 0), some (.ref 56), some (.int x3)] [] M Q := by
  obtain ⟨n, h⟩ := px_T_cl (k := 342) (pc := 576) (y := 95) (st := [.int (M.1 1000 ((x3 + 2).toNatClampNeg)), .int (M.1 1000 ((x3 + 1).toNatClampNeg)), .ref 0]) rfl (h3)
  exact ⟨n + 12, ⟨Or.inr ⟨rfl, h1⟩, ⟨Or.inr ⟨rfl, h2⟩, ⟨rfl, h⟩⟩⟩⟩
theorem sg_342_598 {x3 : Int32} {M : px_Mem} {Q : px_Po} (h1 : vp_in (x3 + 1) (M.1 999 0).toNatClampNeg) (h2 : vp_in (x3 + 2) (M.1 999 0).toNatClampNeg) (h3 : px_T 0 96 0 [some (.ref 0), some (.int (M.1 1000 ((x3 + 1).toNatClampNeg))), some (.int (M.1 1000 ((x3 + 2).toNatClampNeg))), none, none, none] [] M (fun r M1 => px_T 0 342 612 [some (.ref 1000), some (.ref 0), some (.ref 56), some (.int x3)] (r.toList ++ []) M1 Q)) : px_T 0 342 598 [some (.ref 1000), some (.ref 0), some (.ref 56), some (.int x3)] [] M Q := by
  obtain ⟨n, h⟩ := px_T_cl (k := 342) (pc := 609) (y := 96) (st := [.int (M.1 1000 ((x3 + 2).toNatClampNeg)), .int (M.1 1000 ((x3 + 1).toNatClampNeg)), .ref 0]) rfl (h3)
  exact ⟨n + 12, ⟨Or.inr ⟨rfl, h1⟩, ⟨Or.inr ⟨rfl, h2⟩, ⟨rfl, h⟩⟩⟩⟩
theorem sg_342_631 {x3 : Int32} {M : px_Mem} {Q : px_Po} (h1 : vp_in (x3 + 1) (M.1 999 0).toNatClampNeg) (h2 : vp_in (x3 + 2) (M.1 999 0).toNatClampNeg) (h3 : px_T 0 97 0 [some (.ref 0), some (.int (M.1 1000 ((x3 + 1).toNatClampNeg))), some (.int (M.1 1000 ((x3 + 2).toNatClampNeg)))] [] M (fun r M1 => px_T 0 342 645 [some (.ref 1000), some (.ref 0), some (.ref 56), some (.int x3)] (r.toList ++ []) M1 Q)) : px_T 0 342 631 [some (.ref 1000), some (.ref 0), some (.ref 56), some (.int x3)] [] M Q := by
  obtain ⟨n, h⟩ := px_T_cl (k := 342) (pc := 642) (y := 97) (st := [.int (M.1 1000 ((x3 + 2).toNatClampNeg)), .int (M.1 1000 ((x3 + 1).toNatClampNeg)), .ref 0]) rfl (h3)
  exact ⟨n + 12, ⟨Or.inr ⟨rfl, h1⟩, ⟨Or.inr ⟨rfl, h2⟩, ⟨rfl, h⟩⟩⟩⟩
theorem sg_342_664 {x3 : Int32} {M : px_Mem} {Q : px_Po} (h1 : vp_in (x3 + 1) (M.1 999 0).toNatClampNeg) (h2 : vp_in (x3 + 2) (M.1 999 0).toNatClampNeg) (h3 : px_T 0 98 0 [some (.ref 0), some (.int (M.1 1000 ((x3 + 1).toNatClampNeg))), some (.int (M.1 1000 ((x3 + 2).toNatClampNeg))), none] [] M (fun r M1 => px_T 0 342 678 [some (.ref 1000), some (.ref 0), some (.ref 56), some (.int x3)] (r.toList ++ []) M1 Q)) : px_T 0 342 664 [some (.ref 1000), some (.ref 0), some (.ref 56), some (.int x3)] [] M Q := by
  obtain ⟨n, h⟩ := px_T_cl (k := 342) (pc := 675) (y := 98) (st := [.int (M.1 1000 ((x3 + 2).toNatClampNeg)), .int (M.1 1000 ((x3 + 1).toNatClampNeg)), .ref 0]) rfl (h3)
  exact ⟨n + 12, ⟨Or.inr ⟨rfl, h1⟩, ⟨Or.inr ⟨rfl, h2⟩, ⟨rfl, h⟩⟩⟩⟩
theorem sg_342_697 {x3 : Int32} {M : px_Mem} {Q : px_Po} (h1 : vp_in (x3 + 1) (M.1 999 0).toNatClampNeg) (h2 : vp_in (x3 + 2) (M.1 999 0).toNatClampNeg) (h3 : px_T 0 99 0 [some (.ref 0), some (.int (M.1 1000 ((x3 + 1).toNatClampNeg))), some (.int (M.1 1000 ((x3 + 2).toNatClampNeg))), none, none, none] [] M (fun r M1 => px_T 0 342 711 [some (.ref 1000), some (.ref 0), some (.ref 56), some (.int x3)] (r.toList ++ []) M1 Q)) : px_T 0 342 697 [some (.ref 1000), some (.ref 0), some (.ref 56), some (.int x3)] [] M Q := by
  obtain ⟨n, h⟩ := px_T_cl (k := 342) (pc := 708) (y := 99) (st := [.int (M.1 1000 ((x3 + 2).toNatClampNeg)), .int (M.1 1000 ((x3 + 1).toNatClampNeg)), .ref 0]) rfl (h3)
  exact ⟨n + 12, ⟨Or.inr ⟨rfl, h1⟩, ⟨Or.inr ⟨rfl, h2⟩, ⟨rfl, h⟩⟩⟩⟩
theorem sg_342_730 {x3 : Int32} {M : px_Mem} {Q : px_Po} (h1 : vp_in (x3 + 1) (M.1 999 0).toNatClampNeg) (h2 : px_T 0 100 0 [some (.ref 0), some (.int (M.1 1000 ((x3 + 1).toNatClampNeg))), none, none, none] [] M (fun r M1 => px_T 0 342 739 [some (.ref 1000), some (.ref 0), some (.ref 56), some (.int x3)] (r.toList ++ []) M1 Q)) : px_T 0 342 730 [some (.ref 1000), some (.ref 0), some (.ref 56), some (.int x3)] [] M Q := by
  obtain ⟨n, h⟩ := px_T_cl (k := 342) (pc := 736) (y := 100) (st := [.int (M.1 1000 ((x3 + 1).toNatClampNeg)), .ref 0]) rfl (h2)
  exact ⟨n + 7, ⟨Or.inr ⟨rfl, h1⟩, ⟨rfl, h⟩⟩⟩
theorem sg_342_753 {x3 : Int32} {M : px_Mem} {Q : px_Po} (h1 : vp_in (x3 + 1) (M.1 999 0).toNatClampNeg) (h2 : px_T 0 101 0 [some (.ref 0), some (.int (M.1 1000 ((x3 + 1).toNatClampNeg)))] [] M (fun r M1 => px_T 0 342 762 [some (.ref 1000), some (.ref 0), some (.ref 56), some (.int x3)] (r.toList ++ []) M1 Q)) : px_T 0 342 753 [some (.ref 1000), some (.ref 0), some (.ref 56), some (.int x3)] [] M Q := by
  obtain ⟨n, h⟩ := px_T_cl (k := 342) (pc := 759) (y := 101) (st := [.int (M.1 1000 ((x3 + 1).toNatClampNeg)), .ref 0]) rfl (h2)
  exact ⟨n + 7, ⟨Or.inr ⟨rfl, h1⟩, ⟨rfl, h⟩⟩⟩
theorem sg_342_776 {x3 : Int32} {M : px_Mem} {Q : px_Po} (h1 : vp_in (x3 + 1) (M.1 999 0).toNatClampNeg) (h2 : px_T 0 102 0 [some (.ref 0), some (.int (M.1 1000 ((x3 + 1).toNatClampNeg))), none] [] M (fun r M1 => px_T 0 342 785 [some (.ref 1000), some (.ref 0), some (.ref 56), some (.int x3)] (r.toList ++ []) M1 Q)) : px_T 0 342 776 [some (.ref 1000), some (.ref 0), some (.ref 56), some (.int x3)] [] M Q := by
  obtain ⟨n, h⟩ := px_T_cl (k := 342) (pc := 782) (y := 102) (st := [.int (M.1 1000 ((x3 + 1).toNatClampNeg)), .ref 0]) rfl (h2)
  exact ⟨n + 7, ⟨Or.inr ⟨rfl, h1⟩, ⟨rfl, h⟩⟩⟩
theorem sg_342_799 {x3 : Int32} {M : px_Mem} {Q : px_Po} (h1 : vp_in (x3 + 1) (M.1 999 0).toNatClampNeg) (h2 : vp_in (x3 + 2) (M.1 999 0).toNatClampNeg) (h3 : vp_in (x3 + 3) (M.1 999 0).toNatClampNeg) (h4 : px_T 0 103 0 [some (.ref 0), some (.int (M.1 1000 ((x3 + 1).toNatClampNeg))), some (.int (M.1 1000 ((x3 + 2).toNatClampNeg))), some (.int (M.1 1000 ((x3 + 3).toNatClampNeg)))] [] M (fun r M1 => px_T 0 342 818 [some (.ref 1000), some (.ref 0), some (.ref 56), some (.int x3)] (r.toList ++ []) M1 Q)) : px_T 0 342 799 [some (.ref 1000), some (.ref 0), some (.ref 56), some (.int x3)] [] M Q := by
  obtain ⟨n, h⟩ := px_T_cl (k := 342) (pc := 815) (y := 103) (st := [.int (M.1 1000 ((x3 + 3).toNatClampNeg)), .int (M.1 1000 ((x3 + 2).toNatClampNeg)), .int (M.1 1000 ((x3 + 1).toNatClampNeg)), .ref 0]) rfl (h4)
  exact ⟨n + 17, ⟨Or.inr ⟨rfl, h1⟩, ⟨Or.inr ⟨rfl, h2⟩, ⟨Or.inr ⟨rfl, h3⟩, ⟨rfl, h⟩⟩⟩⟩⟩
theorem sg_342_842 {x3 : Int32} {M : px_Mem} {Q : px_Po} (h1 : vp_in (x3 + 1) (M.1 999 0).toNatClampNeg) (h2 : vp_in (x3 + 2) (M.1 999 0).toNatClampNeg) (h3 : px_T 0 104 0 [some (.ref 0), some (.int (M.1 1000 ((x3 + 1).toNatClampNeg))), some (.int (M.1 1000 ((x3 + 2).toNatClampNeg))), none, none, none] [] M (fun r M1 => px_T 0 342 856 [some (.ref 1000), some (.ref 0), some (.ref 56), some (.int x3)] (r.toList ++ []) M1 Q)) : px_T 0 342 842 [some (.ref 1000), some (.ref 0), some (.ref 56), some (.int x3)] [] M Q := by
  obtain ⟨n, h⟩ := px_T_cl (k := 342) (pc := 853) (y := 104) (st := [.int (M.1 1000 ((x3 + 2).toNatClampNeg)), .int (M.1 1000 ((x3 + 1).toNatClampNeg)), .ref 0]) rfl (h3)
  exact ⟨n + 12, ⟨Or.inr ⟨rfl, h1⟩, ⟨Or.inr ⟨rfl, h2⟩, ⟨rfl, h⟩⟩⟩⟩
theorem sg_342_875 {x3 : Int32} {M : px_Mem} {Q : px_Po} (h1 : vp_in (x3 + 1) (M.1 999 0).toNatClampNeg) (h2 : vp_in (x3 + 2) (M.1 999 0).toNatClampNeg) (h3 : px_T 0 105 0 [some (.ref 0), some (.int (M.1 1000 ((x3 + 1).toNatClampNeg))), some (.int (M.1 1000 ((x3 + 2).toNatClampNeg)))] [] M (fun r M1 => px_T 0 342 889 [some (.ref 1000), some (.ref 0), some (.ref 56), some (.int x3)] (r.toList ++ []) M1 Q)) : px_T 0 342 875 [some (.ref 1000), some (.ref 0), some (.ref 56), some (.int x3)] [] M Q := by
  obtain ⟨n, h⟩ := px_T_cl (k := 342) (pc := 886) (y := 105) (st := [.int (M.1 1000 ((x3 + 2).toNatClampNeg)), .int (M.1 1000 ((x3 + 1).toNatClampNeg)), .ref 0]) rfl (h3)
  exact ⟨n + 12, ⟨Or.inr ⟨rfl, h1⟩, ⟨Or.inr ⟨rfl, h2⟩, ⟨rfl, h⟩⟩⟩⟩
theorem sg_342_908 {x3 : Int32} {M : px_Mem} {Q : px_Po} (h1 : vp_in (x3 + 1) (M.1 999 0).toNatClampNeg) (h2 : vp_in (x3 + 2) (M.1 999 0).toNatClampNeg) (h3 : px_T 0 106 0 [some (.ref 0), some (.int (M.1 1000 ((x3 + 1).toNatClampNeg))), some (.int (M.1 1000 ((x3 + 2).toNatClampNeg))), none] [] M (fun r M1 => px_T 0 342 922 [some (.ref 1000), some (.ref 0), some (.ref 56), some (.int x3)] (r.toList ++ []) M1 Q)) : px_T 0 342 908 [some (.ref 1000), some (.ref 0), some (.ref 56), some (.int x3)] [] M Q := by
  obtain ⟨n, h⟩ := px_T_cl (k := 342) (pc := 919) (y := 106) (st := [.int (M.1 1000 ((x3 + 2).toNatClampNeg)), .int (M.1 1000 ((x3 + 1).toNatClampNeg)), .ref 0]) rfl (h3)
  exact ⟨n + 12, ⟨Or.inr ⟨rfl, h1⟩, ⟨Or.inr ⟨rfl, h2⟩, ⟨rfl, h⟩⟩⟩⟩
theorem sg_342_941 {x3 : Int32} {M : px_Mem} {Q : px_Po} (h1 : vp_in (x3 + 1) (M.1 999 0).toNatClampNeg) (h2 : px_T 0 107 0 [some (.ref 0), some (.int (M.1 1000 ((x3 + 1).toNatClampNeg))), none, none, none] [] M (fun r M1 => px_T 0 342 950 [some (.ref 1000), some (.ref 0), some (.ref 56), some (.int x3)] (r.toList ++ []) M1 Q)) : px_T 0 342 941 [some (.ref 1000), some (.ref 0), some (.ref 56), some (.int x3)] [] M Q := by
  obtain ⟨n, h⟩ := px_T_cl (k := 342) (pc := 947) (y := 107) (st := [.int (M.1 1000 ((x3 + 1).toNatClampNeg)), .ref 0]) rfl (h2)
  exact ⟨n + 7, ⟨Or.inr ⟨rfl, h1⟩, ⟨rfl, h⟩⟩⟩
theorem sg_342_964 {x3 : Int32} {M : px_Mem} {Q : px_Po} (h1 : vp_in (x3 + 1) (M.1 999 0).toNatClampNeg) (h2 : vp_in (x3 + 2) (M.1 999 0).toNatClampNeg) (h3 : px_T 0 108 0 [some (.ref 0), some (.int (M.1 1000 ((x3 + 1).toNatClampNeg))), some (.int (M.1 1000 ((x3 + 2).toNatClampNeg)))] [] M (fun r M1 => px_T 0 342 978 [some (.ref 1000), some (.ref 0), some (.ref 56), some (.int x3)] (r.toList ++ []) M1 Q)) : px_T 0 342 964 [some (.ref 1000), some (.ref 0), some (.ref 56), some (.int x3)] [] M Q := by
  obtain ⟨n, h⟩ := px_T_cl (k := 342) (pc := 975) (y := 108) (st := [.int (M.1 1000 ((x3 + 2).toNatClampNeg)), .int (M.1 1000 ((x3 + 1).toNatClampNeg)), .ref 0]) rfl (h3)
  exact ⟨n + 12, ⟨Or.inr ⟨rfl, h1⟩, ⟨Or.inr ⟨rfl, h2⟩, ⟨rfl, h⟩⟩⟩⟩
theorem sg_342_997 {x3 : Int32} {M : px_Mem} {Q : px_Po} (h1 : vp_in (x3 + 1) (M.1 999 0).toNatClampNeg) (h2 : px_T 0 109 0 [some (.ref 0), some (.int (M.1 1000 ((x3 + 1).toNatClampNeg))), none, none, none] [] M (fun r M1 => px_T 0 342 1006 [some (.ref 1000), some (.ref 0), some (.ref 56), some (.int x3)] (r.toList ++ []) M1 Q)) : px_T 0 342 997 [some (.ref 1000), some (.ref 0), some (.ref 56), some (.int x3)] [] M Q := by
  obtain ⟨n, h⟩ := px_T_cl (k := 342) (pc := 1003) (y := 109) (st := [.int (M.1 1000 ((x3 + 1).toNatClampNeg)), .ref 0]) rfl (h2)
  exact ⟨n + 7, ⟨Or.inr ⟨rfl, h1⟩, ⟨rfl, h⟩⟩⟩
theorem sg_342_1020 {x3 : Int32} {M : px_Mem} {Q : px_Po} (h1 : vp_in (x3 + 1) (M.1 999 0).toNatClampNeg) (h2 : vp_in (x3 + 2) (M.1 999 0).toNatClampNeg) (h3 : vp_in (x3 + 3) (M.1 999 0).toNatClampNeg) (h4 : px_T 0 110 0 [some (.ref 0), some (.int (M.1 1000 ((x3 + 1).toNatClampNeg))), some (.int (M.1 1000 ((x3 + 2).toNatClampNeg))), some (.int (M.1 1000 ((x3 + 3).toNatClampNeg))), none] [] M (fun r M1 => px_T 0 342 1039 [some (.ref 1000), some (.ref 0), some (.ref 56), some (.int x3)] (r.toList ++ []) M1 Q)) : px_T 0 342 1020 [some (.ref 1000), some (.ref 0), some (.ref 56), some (.int x3)] [] M Q := by
  obtain ⟨n, h⟩ := px_T_cl (k := 342) (pc := 1036) (y := 110) (st := [.int (M.1 1000 ((x3 + 3).toNatClampNeg)), .int (M.1 1000 ((x3 + 2).toNatClampNeg)), .int (M.1 1000 ((x3 + 1).toNatClampNeg)), .ref 0]) rfl (h4)
  exact ⟨n + 17, ⟨Or.inr ⟨rfl, h1⟩, ⟨Or.inr ⟨rfl, h2⟩, ⟨Or.inr ⟨rfl, h3⟩, ⟨rfl, h⟩⟩⟩⟩⟩
theorem sg_342_1063 {x3 : Int32} {M : px_Mem} {Q : px_Po} (h1 : vp_in (x3 + 1) (M.1 999 0).toNatClampNeg) (h2 : vp_in (x3 + 2) (M.1 999 0).toNatClampNeg) (h3 : vp_in (x3 + 3) (M.1 999 0).toNatClampNeg) (h4 : px_T 0 111 0 [some (.ref 0), some (.int (M.1 1000 ((x3 + 1).toNatClampNeg))), some (.int (M.1 1000 ((x3 + 2).toNatClampNeg))), some (.int (M.1 1000 ((x3 + 3).toNatClampNeg))), none, none] [] M (fun r M1 => px_T 0 342 1082 [some (.ref 1000), some (.ref 0), some (.ref 56), some (.int x3)] (r.toList ++ []) M1 Q)) : px_T 0 342 1063 [some (.ref 1000), some (.ref 0), some (.ref 56), some (.int x3)] [] M Q := by
  obtain ⟨n, h⟩ := px_T_cl (k := 342) (pc := 1079) (y := 111) (st := [.int (M.1 1000 ((x3 + 3).toNatClampNeg)), .int (M.1 1000 ((x3 + 2).toNatClampNeg)), .int (M.1 1000 ((x3 + 1).toNatClampNeg)), .ref 0]) rfl (h4)
  exact ⟨n + 17, ⟨Or.inr ⟨rfl, h1⟩, ⟨Or.inr ⟨rfl, h2⟩, ⟨Or.inr ⟨rfl, h3⟩, ⟨rfl, h⟩⟩⟩⟩⟩
theorem sg_342_1106 {x3 : Int32} {M : px_Mem} {Q : px_Po} (h1 : vp_in (x3 + 1) (M.1 999 0).toNatClampNeg) (h2 : vp_in (x3 + 2) (M.1 999 0).toNatClampNeg) (h3 : px_T 0 112 0 [some (.ref 0), some (.int (M.1 1000 ((x3 + 1).toNatClampNeg))), some (.int (M.1 1000 ((x3 + 2).toNatClampNeg)))] [] M (fun r M1 => px_T 0 342 1120 [some (.ref 1000), some (.ref 0), some (.ref 56), some (.int x3)] (r.toList ++ []) M1 Q)) : px_T 0 342 1106 [some (.ref 1000), some (.ref 0), some (.ref 56), some (.int x3)] [] M Q := by
  obtain ⟨n, h⟩ := px_T_cl (k := 342) (pc := 1117) (y := 112) (st := [.int (M.1 1000 ((x3 + 2).toNatClampNeg)), .int (M.1 1000 ((x3 + 1).toNatClampNeg)), .ref 0]) rfl (h3)
  exact ⟨n + 12, ⟨Or.inr ⟨rfl, h1⟩, ⟨Or.inr ⟨rfl, h2⟩, ⟨rfl, h⟩⟩⟩⟩
theorem sg_342_1139 {x3 : Int32} {M : px_Mem} {Q : px_Po} (h1 : vp_in (x3 + 1) (M.1 999 0).toNatClampNeg) (h2 : px_T 0 113 0 [some (.ref 0), some (.int (M.1 1000 ((x3 + 1).toNatClampNeg)))] [] M (fun r M1 => px_T 0 342 1148 [some (.ref 1000), some (.ref 0), some (.ref 56), some (.int x3)] (r.toList ++ []) M1 Q)) : px_T 0 342 1139 [some (.ref 1000), some (.ref 0), some (.ref 56), some (.int x3)] [] M Q := by
  obtain ⟨n, h⟩ := px_T_cl (k := 342) (pc := 1145) (y := 113) (st := [.int (M.1 1000 ((x3 + 1).toNatClampNeg)), .ref 0]) rfl (h2)
  exact ⟨n + 7, ⟨Or.inr ⟨rfl, h1⟩, ⟨rfl, h⟩⟩⟩
theorem sg_342_1162 {x3 : Int32} {M : px_Mem} {Q : px_Po} (h1 : px_T 0 114 0 [some (.ref 0), none, none] [] M (fun r M1 => px_T 0 342 1166 [some (.ref 1000), some (.ref 0), some (.ref 56), some (.int x3)] (r.toList ++ []) M1 Q)) : px_T 0 342 1162 [some (.ref 1000), some (.ref 0), some (.ref 56), some (.int x3)] [] M Q := by
  obtain ⟨n, h⟩ := px_T_cl (k := 342) (pc := 1163) (y := 114) (st := [.ref 0]) rfl (h1)
  exact ⟨n + 2, ⟨rfl, h⟩⟩
theorem sg_342_1175 {x3 : Int32} {M : px_Mem} {Q : px_Po} (h1 : px_T 0 115 0 [some (.ref 0)] [] M (fun r M1 => px_T 0 342 1179 [some (.ref 1000), some (.ref 0), some (.ref 56), some (.int x3)] (r.toList ++ []) M1 Q)) : px_T 0 342 1175 [some (.ref 1000), some (.ref 0), some (.ref 56), some (.int x3)] [] M Q := by
  obtain ⟨n, h⟩ := px_T_cl (k := 342) (pc := 1176) (y := 115) (st := [.ref 0]) rfl (h1)
  exact ⟨n + 2, ⟨rfl, h⟩⟩
theorem sg_342_1188 {x3 : Int32} {M : px_Mem} {Q : px_Po} (h1 : vp_in (x3 + 1) (M.1 999 0).toNatClampNeg) (h2 : vp_in (x3 + 2) (M.1 999 0).toNatClampNeg) (h3 : px_T 0 116 0 [some (.ref 0), some (.int (M.1 1000 ((x3 + 1).toNatClampNeg))), some (.int (M.1 1000 ((x3 + 2).toNatClampNeg))), none] [] M (fun r M1 => px_T 0 342 1202 [some (.ref 1000), some (.ref 0), some (.ref 56), some (.int x3)] (r.toList ++ []) M1 Q)) : px_T 0 342 1188 [some (.ref 1000), some (.ref 0), some (.ref 56), some (.int x3)] [] M Q := by
  obtain ⟨n, h⟩ := px_T_cl (k := 342) (pc := 1199) (y := 116) (st := [.int (M.1 1000 ((x3 + 2).toNatClampNeg)), .int (M.1 1000 ((x3 + 1).toNatClampNeg)), .ref 0]) rfl (h3)
  exact ⟨n + 12, ⟨Or.inr ⟨rfl, h1⟩, ⟨Or.inr ⟨rfl, h2⟩, ⟨rfl, h⟩⟩⟩⟩
theorem sg_342_1221 {x3 : Int32} {M : px_Mem} {Q : px_Po} (h1 : vp_in (x3 + 1) (M.1 999 0).toNatClampNeg) (h2 : px_T 0 117 0 [some (.ref 0), some (.int (M.1 1000 ((x3 + 1).toNatClampNeg)))] [] M (fun r M1 => px_T 0 342 1230 [some (.ref 1000), some (.ref 0), some (.ref 56), some (.int x3)] (r.toList ++ []) M1 Q)) : px_T 0 342 1221 [some (.ref 1000), some (.ref 0), some (.ref 56), some (.int x3)] [] M Q := by
  obtain ⟨n, h⟩ := px_T_cl (k := 342) (pc := 1227) (y := 117) (st := [.int (M.1 1000 ((x3 + 1).toNatClampNeg)), .ref 0]) rfl (h2)
  exact ⟨n + 7, ⟨Or.inr ⟨rfl, h1⟩, ⟨rfl, h⟩⟩⟩
theorem sg_342_1244 {x3 : Int32} {M : px_Mem} {Q : px_Po} (h1 : vp_in (x3 + 1) (M.1 999 0).toNatClampNeg) (h2 : px_T 0 118 0 [some (.ref 0), some (.int (M.1 1000 ((x3 + 1).toNatClampNeg)))] [] M (fun r M1 => px_T 0 342 1253 [some (.ref 1000), some (.ref 0), some (.ref 56), some (.int x3)] (r.toList ++ []) M1 Q)) : px_T 0 342 1244 [some (.ref 1000), some (.ref 0), some (.ref 56), some (.int x3)] [] M Q := by
  obtain ⟨n, h⟩ := px_T_cl (k := 342) (pc := 1250) (y := 118) (st := [.int (M.1 1000 ((x3 + 1).toNatClampNeg)), .ref 0]) rfl (h2)
  exact ⟨n + 7, ⟨Or.inr ⟨rfl, h1⟩, ⟨rfl, h⟩⟩⟩
theorem sg_342_1267 {x3 : Int32} {M : px_Mem} {Q : px_Po} (h1 : vp_in (x3 + 1) (M.1 999 0).toNatClampNeg) (h2 : vp_in (x3 + 2) (M.1 999 0).toNatClampNeg) (h3 : px_T 0 119 0 [some (.ref 0), some (.int (M.1 1000 ((x3 + 1).toNatClampNeg))), some (.int (M.1 1000 ((x3 + 2).toNatClampNeg)))] [] M (fun r M1 => px_T 0 342 1281 [some (.ref 1000), some (.ref 0), some (.ref 56), some (.int x3)] (r.toList ++ []) M1 Q)) : px_T 0 342 1267 [some (.ref 1000), some (.ref 0), some (.ref 56), some (.int x3)] [] M Q := by
  obtain ⟨n, h⟩ := px_T_cl (k := 342) (pc := 1278) (y := 119) (st := [.int (M.1 1000 ((x3 + 2).toNatClampNeg)), .int (M.1 1000 ((x3 + 1).toNatClampNeg)), .ref 0]) rfl (h3)
  exact ⟨n + 12, ⟨Or.inr ⟨rfl, h1⟩, ⟨Or.inr ⟨rfl, h2⟩, ⟨rfl, h⟩⟩⟩⟩
theorem sg_342_1300 {x3 : Int32} {M : px_Mem} {Q : px_Po} (h1 : vp_in (x3 + 1) (M.1 999 0).toNatClampNeg) (h2 : px_T 0 120 0 [some (.ref 0), some (.int (M.1 1000 ((x3 + 1).toNatClampNeg)))] [] M (fun r M1 => px_T 0 342 1309 [some (.ref 1000), some (.ref 0), some (.ref 56), some (.int x3)] (r.toList ++ []) M1 Q)) : px_T 0 342 1300 [some (.ref 1000), some (.ref 0), some (.ref 56), some (.int x3)] [] M Q := by
  obtain ⟨n, h⟩ := px_T_cl (k := 342) (pc := 1306) (y := 120) (st := [.int (M.1 1000 ((x3 + 1).toNatClampNeg)), .ref 0]) rfl (h2)
  exact ⟨n + 7, ⟨Or.inr ⟨rfl, h1⟩, ⟨rfl, h⟩⟩⟩
theorem sg_342_1323 {x3 : Int32} {M : px_Mem} {Q : px_Po} (h1 : px_T 0 121 0 [some (.ref 0), none, none] [] M (fun r M1 => px_T 0 342 1327 [some (.ref 1000), some (.ref 0), some (.ref 56), some (.int x3)] (r.toList ++ []) M1 Q)) : px_T 0 342 1323 [some (.ref 1000), some (.ref 0), some (.ref 56), some (.int x3)] [] M Q := by
  obtain ⟨n, h⟩ := px_T_cl (k := 342) (pc := 1324) (y := 121) (st := [.ref 0]) rfl (h1)
  exact ⟨n + 2, ⟨rfl, h⟩⟩
theorem sg_342_1336 {x3 : Int32} {M : px_Mem} {Q : px_Po} (h1 : vp_in (x3 + 1) (M.1 999 0).toNatClampNeg) (h2 : vp_in (x3 + 2) (M.1 999 0).toNatClampNeg) (h3 : vp_in (x3 + 3) (M.1 999 0).toNatClampNeg) (h4 : px_T 0 122 0 [some (.ref 0), some (.int (M.1 1000 ((x3 + 1).toNatClampNeg))), some (.int (M.1 1000 ((x3 + 2).toNatClampNeg))), some (.int (M.1 1000 ((x3 + 3).toNatClampNeg))), none] [] M (fun r M1 => px_T 0 342 1355 [some (.ref 1000), some (.ref 0), some (.ref 56), some (.int x3)] (r.toList ++ []) M1 Q)) : px_T 0 342 1336 [some (.ref 1000), some (.ref 0), some (.ref 56), some (.int x3)] [] M Q := by
  obtain ⟨n, h⟩ := px_T_cl (k := 342) (pc := 1352) (y := 122) (st := [.int (M.1 1000 ((x3 + 3).toNatClampNeg)), .int (M.1 1000 ((x3 + 2).toNatClampNeg)), .int (M.1 1000 ((x3 + 1).toNatClampNeg)), .ref 0]) rfl (h4)
  exact ⟨n + 17, ⟨Or.inr ⟨rfl, h1⟩, ⟨Or.inr ⟨rfl, h2⟩, ⟨Or.inr ⟨rfl, h3⟩, ⟨rfl, h⟩⟩⟩⟩⟩
theorem sg_342_1379 {x3 : Int32} {M : px_Mem} {Q : px_Po} (h1 : vp_in (x3 + 1) (M.1 999 0).toNatClampNeg) (h2 : vp_in (x3 + 2) (M.1 999 0).toNatClampNeg) (h3 : vp_in (x3 + 3) (M.1 999 0).toNatClampNeg) (h4 : vp_in (x3 + 4) (M.1 999 0).toNatClampNeg) (h5 : px_T 0 123 0 [some (.ref 0), some (.int (M.1 1000 ((x3 + 1).toNatClampNeg))), some (.int (M.1 1000 ((x3 + 2).toNatClampNeg))), some (.int (M.1 1000 ((x3 + 3).toNatClampNeg))), some (.int (M.1 1000 ((x3 + 4).toNatClampNeg)))] [] M (fun r M1 => px_T 0 342 1403 [some (.ref 1000), some (.ref 0), some (.ref 56), some (.int x3)] (r.toList ++ []) M1 Q)) : px_T 0 342 1379 [some (.ref 1000), some (.ref 0), some (.ref 56), some (.int x3)] [] M Q := by
  obtain ⟨n, h⟩ := px_T_cl (k := 342) (pc := 1400) (y := 123) (st := [.int (M.1 1000 ((x3 + 4).toNatClampNeg)), .int (M.1 1000 ((x3 + 3).toNatClampNeg)), .int (M.1 1000 ((x3 + 2).toNatClampNeg)), .int (M.1 1000 ((x3 + 1).toNatClampNeg)), .ref 0]) rfl (h5)
  exact ⟨n + 22, ⟨Or.inr ⟨rfl, h1⟩, ⟨Or.inr ⟨rfl, h2⟩, ⟨Or.inr ⟨rfl, h3⟩, ⟨Or.inr ⟨rfl, h4⟩, ⟨rfl, h⟩⟩⟩⟩⟩⟩
theorem sg_342_1432 {x3 : Int32} {M : px_Mem} {Q : px_Po} (h1 : vp_in (x3 + 1) (M.1 999 0).toNatClampNeg) (h2 : vp_in (x3 + 2) (M.1 999 0).toNatClampNeg) (h3 : vp_in (x3 + 3) (M.1 999 0).toNatClampNeg) (h4 : px_T 0 124 0 [some (.ref 0), some (.int (M.1 1000 ((x3 + 1).toNatClampNeg))), some (.int (M.1 1000 ((x3 + 2).toNatClampNeg))), some (.int (M.1 1000 ((x3 + 3).toNatClampNeg)))] [] M (fun r M1 => px_T 0 342 1451 [some (.ref 1000), some (.ref 0), some (.ref 56), some (.int x3)] (r.toList ++ []) M1 Q)) : px_T 0 342 1432 [some (.ref 1000), some (.ref 0), some (.ref 56), some (.int x3)] [] M Q := by
  obtain ⟨n, h⟩ := px_T_cl (k := 342) (pc := 1448) (y := 124) (st := [.int (M.1 1000 ((x3 + 3).toNatClampNeg)), .int (M.1 1000 ((x3 + 2).toNatClampNeg)), .int (M.1 1000 ((x3 + 1).toNatClampNeg)), .ref 0]) rfl (h4)
  exact ⟨n + 17, ⟨Or.inr ⟨rfl, h1⟩, ⟨Or.inr ⟨rfl, h2⟩, ⟨Or.inr ⟨rfl, h3⟩, ⟨rfl, h⟩⟩⟩⟩⟩
theorem sg_342_1475 {x3 : Int32} {M : px_Mem} {Q : px_Po} (h1 : vp_in (x3 + 1) (M.1 999 0).toNatClampNeg) (h2 : vp_in (x3 + 2) (M.1 999 0).toNatClampNeg) (h3 : px_T 0 125 0 [some (.ref 0), some (.int (M.1 1000 ((x3 + 1).toNatClampNeg))), some (.int (M.1 1000 ((x3 + 2).toNatClampNeg))), none, none, none, none, none] [] M (fun r M1 => px_T 0 342 1489 [some (.ref 1000), some (.ref 0), some (.ref 56), some (.int x3)] (r.toList ++ []) M1 Q)) : px_T 0 342 1475 [some (.ref 1000), some (.ref 0), some (.ref 56), some (.int x3)] [] M Q := by
  obtain ⟨n, h⟩ := px_T_cl (k := 342) (pc := 1486) (y := 125) (st := [.int (M.1 1000 ((x3 + 2).toNatClampNeg)), .int (M.1 1000 ((x3 + 1).toNatClampNeg)), .ref 0]) rfl (h3)
  exact ⟨n + 12, ⟨Or.inr ⟨rfl, h1⟩, ⟨Or.inr ⟨rfl, h2⟩, ⟨rfl, h⟩⟩⟩⟩
theorem sg_342_1508 {x3 : Int32} {M : px_Mem} {Q : px_Po} (h1 : px_T 0 126 0 [some (.ref 0), none, none, none, none] [] M (fun r M1 => px_T 0 342 1512 [some (.ref 1000), some (.ref 0), some (.ref 56), some (.int x3)] (r.toList ++ []) M1 Q)) : px_T 0 342 1508 [some (.ref 1000), some (.ref 0), some (.ref 56), some (.int x3)] [] M Q := by
  obtain ⟨n, h⟩ := px_T_cl (k := 342) (pc := 1509) (y := 126) (st := [.ref 0]) rfl (h1)
  exact ⟨n + 2, ⟨rfl, h⟩⟩
theorem sg_342_1521 {x3 : Int32} {M : px_Mem} {Q : px_Po} (h1 : px_T 0 127 0 [some (.ref 0), none, none, none, none, none, none] [] M (fun r M1 => px_T 0 342 1525 [some (.ref 1000), some (.ref 0), some (.ref 56), some (.int x3)] (r.toList ++ []) M1 Q)) : px_T 0 342 1521 [some (.ref 1000), some (.ref 0), some (.ref 56), some (.int x3)] [] M Q := by
  obtain ⟨n, h⟩ := px_T_cl (k := 342) (pc := 1522) (y := 127) (st := [.ref 0]) rfl (h1)
  exact ⟨n + 2, ⟨rfl, h⟩⟩
theorem sg_342_1534 {x3 : Int32} {M : px_Mem} {Q : px_Po} (h1 : vp_in (x3 + 1) (M.1 999 0).toNatClampNeg) (h2 : px_T 0 128 0 [some (.ref 0), some (.int (M.1 1000 ((x3 + 1).toNatClampNeg))), none, none, none] [] M (fun r M1 => px_T 0 342 1543 [some (.ref 1000), some (.ref 0), some (.ref 56), some (.int x3)] (r.toList ++ []) M1 Q)) : px_T 0 342 1534 [some (.ref 1000), some (.ref 0), some (.ref 56), some (.int x3)] [] M Q := by
  obtain ⟨n, h⟩ := px_T_cl (k := 342) (pc := 1540) (y := 128) (st := [.int (M.1 1000 ((x3 + 1).toNatClampNeg)), .ref 0]) rfl (h2)
  exact ⟨n + 7, ⟨Or.inr ⟨rfl, h1⟩, ⟨rfl, h⟩⟩⟩
theorem sg_342_1557 {x3 : Int32} {M : px_Mem} {Q : px_Po} (h1 : vp_in (x3 + 1) (M.1 999 0).toNatClampNeg) (h2 : px_T 0 129 0 [some (.ref 0), some (.int (M.1 1000 ((x3 + 1).toNatClampNeg))), none, none] [] M (fun r M1 => px_T 0 342 1566 [some (.ref 1000), some (.ref 0), some (.ref 56), some (.int x3)] (r.toList ++ []) M1 Q)) : px_T 0 342 1557 [some (.ref 1000), some (.ref 0), some (.ref 56), some (.int x3)] [] M Q := by
  obtain ⟨n, h⟩ := px_T_cl (k := 342) (pc := 1563) (y := 129) (st := [.int (M.1 1000 ((x3 + 1).toNatClampNeg)), .ref 0]) rfl (h2)
  exact ⟨n + 7, ⟨Or.inr ⟨rfl, h1⟩, ⟨rfl, h⟩⟩⟩
theorem sg_342_1580 {x3 : Int32} {M : px_Mem} {Q : px_Po} (h1 : vp_in (x3 + 1) (M.1 999 0).toNatClampNeg) (h2 : px_T 0 130 0 [some (.ref 0), some (.int (M.1 1000 ((x3 + 1).toNatClampNeg))), none] [] M (fun r M1 => px_T 0 342 1589 [some (.ref 1000), some (.ref 0), some (.ref 56), some (.int x3)] (r.toList ++ []) M1 Q)) : px_T 0 342 1580 [some (.ref 1000), some (.ref 0), some (.ref 56), some (.int x3)] [] M Q := by
  obtain ⟨n, h⟩ := px_T_cl (k := 342) (pc := 1586) (y := 130) (st := [.int (M.1 1000 ((x3 + 1).toNatClampNeg)), .ref 0]) rfl (h2)
  exact ⟨n + 7, ⟨Or.inr ⟨rfl, h1⟩, ⟨rfl, h⟩⟩⟩
theorem sg_342_1603 {x3 : Int32} {M : px_Mem} {Q : px_Po} (h1 : vp_in (x3 + 1) (M.1 999 0).toNatClampNeg) (h2 : px_T 0 131 0 [some (.ref 0), some (.int (M.1 1000 ((x3 + 1).toNatClampNeg))), none, none, none] [] M (fun r M1 => px_T 0 342 1612 [some (.ref 1000), some (.ref 0), some (.ref 56), some (.int x3)] (r.toList ++ []) M1 Q)) : px_T 0 342 1603 [some (.ref 1000), some (.ref 0), some (.ref 56), some (.int x3)] [] M Q := by
  obtain ⟨n, h⟩ := px_T_cl (k := 342) (pc := 1609) (y := 131) (st := [.int (M.1 1000 ((x3 + 1).toNatClampNeg)), .ref 0]) rfl (h2)
  exact ⟨n + 7, ⟨Or.inr ⟨rfl, h1⟩, ⟨rfl, h⟩⟩⟩
theorem sg_342_1626 {x3 : Int32} {M : px_Mem} {Q : px_Po} (h1 : vp_in (x3 + 1) (M.1 999 0).toNatClampNeg) (h2 : px_T 0 132 0 [some (.ref 0), some (.int (M.1 1000 ((x3 + 1).toNatClampNeg)))] [] M (fun r M1 => px_T 0 342 1635 [some (.ref 1000), some (.ref 0), some (.ref 56), some (.int x3)] (r.toList ++ []) M1 Q)) : px_T 0 342 1626 [some (.ref 1000), some (.ref 0), some (.ref 56), some (.int x3)] [] M Q := by
  obtain ⟨n, h⟩ := px_T_cl (k := 342) (pc := 1632) (y := 132) (st := [.int (M.1 1000 ((x3 + 1).toNatClampNeg)), .ref 0]) rfl (h2)
  exact ⟨n + 7, ⟨Or.inr ⟨rfl, h1⟩, ⟨rfl, h⟩⟩⟩
theorem sg_342_1649 {x3 : Int32} {M : px_Mem} {Q : px_Po} (h1 : px_T 0 133 0 [some (.ref 0), none, none, none, none] [] M (fun r M1 => px_T 0 342 1653 [some (.ref 1000), some (.ref 0), some (.ref 56), some (.int x3)] (r.toList ++ []) M1 Q)) : px_T 0 342 1649 [some (.ref 1000), some (.ref 0), some (.ref 56), some (.int x3)] [] M Q := by
  obtain ⟨n, h⟩ := px_T_cl (k := 342) (pc := 1650) (y := 133) (st := [.ref 0]) rfl (h1)
  exact ⟨n + 2, ⟨rfl, h⟩⟩
theorem sg_342_1662 {x3 : Int32} {M : px_Mem} {Q : px_Po} (h1 : vp_in (x3 + 1) (M.1 999 0).toNatClampNeg) (h2 : px_T 0 134 0 [some (.ref 0), some (.int (M.1 1000 ((x3 + 1).toNatClampNeg)))] [] M (fun r M1 => px_T 0 342 1671 [some (.ref 1000), some (.ref 0), some (.ref 56), some (.int x3)] (r.toList ++ []) M1 Q)) : px_T 0 342 1662 [some (.ref 1000), some (.ref 0), some (.ref 56), some (.int x3)] [] M Q := by
  obtain ⟨n, h⟩ := px_T_cl (k := 342) (pc := 1668) (y := 134) (st := [.int (M.1 1000 ((x3 + 1).toNatClampNeg)), .ref 0]) rfl (h2)
  exact ⟨n + 7, ⟨Or.inr ⟨rfl, h1⟩, ⟨rfl, h⟩⟩⟩
theorem sg_342_1685 {x3 : Int32} {M : px_Mem} {Q : px_Po} (h1 : vp_in (x3 + 1) (M.1 999 0).toNatClampNeg) (h2 : vp_in (x3 + 2) (M.1 999 0).toNatClampNeg) (h3 : px_T 0 135 0 [some (.ref 0), some (.int (M.1 1000 ((x3 + 1).toNatClampNeg))), some (.int (M.1 1000 ((x3 + 2).toNatClampNeg))), none, none, none, none] [] M (fun r M1 => px_T 0 342 1699 [some (.ref 1000), some (.ref 0), some (.ref 56), some (.int x3)] (r.toList ++ []) M1 Q)) : px_T 0 342 1685 [some (.ref 1000), some (.ref 0), some (.ref 56), some (.int x3)] [] M Q := by
  obtain ⟨n, h⟩ := px_T_cl (k := 342) (pc := 1696) (y := 135) (st := [.int (M.1 1000 ((x3 + 2).toNatClampNeg)), .int (M.1 1000 ((x3 + 1).toNatClampNeg)), .ref 0]) rfl (h3)
  exact ⟨n + 12, ⟨Or.inr ⟨rfl, h1⟩, ⟨Or.inr ⟨rfl, h2⟩, ⟨rfl, h⟩⟩⟩⟩
theorem sg_342_1718 {x3 : Int32} {M : px_Mem} {Q : px_Po} (h1 : vp_in (x3 + 1) (M.1 999 0).toNatClampNeg) (h2 : vp_in (x3 + 2) (M.1 999 0).toNatClampNeg) (h3 : px_T 0 136 0 [some (.ref 0), some (.int (M.1 1000 ((x3 + 1).toNatClampNeg))), some (.int (M.1 1000 ((x3 + 2).toNatClampNeg))), none, none, none, none, none, none] [] M (fun r M1 => px_T 0 342 1732 [some (.ref 1000), some (.ref 0), some (.ref 56), some (.int x3)] (r.toList ++ []) M1 Q)) : px_T 0 342 1718 [some (.ref 1000), some (.ref 0), some (.ref 56), some (.int x3)] [] M Q := by
  obtain ⟨n, h⟩ := px_T_cl (k := 342) (pc := 1729) (y := 136) (st := [.int (M.1 1000 ((x3 + 2).toNatClampNeg)), .int (M.1 1000 ((x3 + 1).toNatClampNeg)), .ref 0]) rfl (h3)
  exact ⟨n + 12, ⟨Or.inr ⟨rfl, h1⟩, ⟨Or.inr ⟨rfl, h2⟩, ⟨rfl, h⟩⟩⟩⟩
theorem sg_342_1751 {x3 : Int32} {M : px_Mem} {Q : px_Po} (h1 : vp_in (x3 + 1) (M.1 999 0).toNatClampNeg) (h2 : vp_in (x3 + 2) (M.1 999 0).toNatClampNeg) (h3 : vp_in (x3 + 3) (M.1 999 0).toNatClampNeg) (h4 : vp_in (x3 + 4) (M.1 999 0).toNatClampNeg) (h5 : px_T 0 137 0 [some (.ref 0), some (.int (M.1 1000 ((x3 + 1).toNatClampNeg))), some (.int (M.1 1000 ((x3 + 2).toNatClampNeg))), some (.int (M.1 1000 ((x3 + 3).toNatClampNeg))), some (.int (M.1 1000 ((x3 + 4).toNatClampNeg)))] [] M (fun r M1 => px_T 0 342 1775 [some (.ref 1000), some (.ref 0), some (.ref 56), some (.int x3)] (r.toList ++ []) M1 Q)) : px_T 0 342 1751 [some (.ref 1000), some (.ref 0), some (.ref 56), some (.int x3)] [] M Q := by
  obtain ⟨n, h⟩ := px_T_cl (k := 342) (pc := 1772) (y := 137) (st := [.int (M.1 1000 ((x3 + 4).toNatClampNeg)), .int (M.1 1000 ((x3 + 3).toNatClampNeg)), .int (M.1 1000 ((x3 + 2).toNatClampNeg)), .int (M.1 1000 ((x3 + 1).toNatClampNeg)), .ref 0]) rfl (h5)
  exact ⟨n + 22, ⟨Or.inr ⟨rfl, h1⟩, ⟨Or.inr ⟨rfl, h2⟩, ⟨Or.inr ⟨rfl, h3⟩, ⟨Or.inr ⟨rfl, h4⟩, ⟨rfl, h⟩⟩⟩⟩⟩⟩
theorem sg_342_1804 {x3 : Int32} {M : px_Mem} {Q : px_Po} (h1 : vp_in (x3 + 1) (M.1 999 0).toNatClampNeg) (h2 : vp_in (x3 + 2) (M.1 999 0).toNatClampNeg) (h3 : vp_in (x3 + 3) (M.1 999 0).toNatClampNeg) (h4 : px_T 0 138 0 [some (.ref 0), some (.int (M.1 1000 ((x3 + 1).toNatClampNeg))), some (.int (M.1 1000 ((x3 + 2).toNatClampNeg))), some (.int (M.1 1000 ((x3 + 3).toNatClampNeg)))] [] M (fun r M1 => px_T 0 342 1823 [some (.ref 1000), some (.ref 0), some (.ref 56), some (.int x3)] (r.toList ++ []) M1 Q)) : px_T 0 342 1804 [some (.ref 1000), some (.ref 0), some (.ref 56), some (.int x3)] [] M Q := by
  obtain ⟨n, h⟩ := px_T_cl (k := 342) (pc := 1820) (y := 138) (st := [.int (M.1 1000 ((x3 + 3).toNatClampNeg)), .int (M.1 1000 ((x3 + 2).toNatClampNeg)), .int (M.1 1000 ((x3 + 1).toNatClampNeg)), .ref 0]) rfl (h4)
  exact ⟨n + 17, ⟨Or.inr ⟨rfl, h1⟩, ⟨Or.inr ⟨rfl, h2⟩, ⟨Or.inr ⟨rfl, h3⟩, ⟨rfl, h⟩⟩⟩⟩⟩
theorem sg_342_1848 {x3 : Int32} {M : px_Mem} {Q : px_Po} (h1 : vp_in (x3 + 1) (M.1 999 0).toNatClampNeg) (h2 : vp_in (x3 + 2) (M.1 999 0).toNatClampNeg) (h3 : px_T 0 139 0 [some (.ref 0), some (.int (M.1 1000 ((x3 + 1).toNatClampNeg))), some (.int (M.1 1000 ((x3 + 2).toNatClampNeg)))] [] M (fun r M1 => px_T 0 342 1862 [some (.ref 1000), some (.ref 0), some (.ref 56), some (.int x3)] (r.toList ++ []) M1 Q)) : px_T 0 342 1848 [some (.ref 1000), some (.ref 0), some (.ref 56), some (.int x3)] [] M Q := by
  obtain ⟨n, h⟩ := px_T_cl (k := 342) (pc := 1859) (y := 139) (st := [.int (M.1 1000 ((x3 + 2).toNatClampNeg)), .int (M.1 1000 ((x3 + 1).toNatClampNeg)), .ref 0]) rfl (h3)
  exact ⟨n + 12, ⟨Or.inr ⟨rfl, h1⟩, ⟨Or.inr ⟨rfl, h2⟩, ⟨rfl, h⟩⟩⟩⟩
theorem sg_342_1882 {x3 : Int32} {M : px_Mem} {Q : px_Po} (h1 : vp_in (x3 + 1) (M.1 999 0).toNatClampNeg) (h2 : vp_in (x3 + 2) (M.1 999 0).toNatClampNeg) (h3 : vp_in (x3 + 3) (M.1 999 0).toNatClampNeg) (h4 : vp_in (x3 + 4) (M.1 999 0).toNatClampNeg) (h5 : px_T 0 140 0 [some (.ref 0), some (.int (M.1 1000 ((x3 + 1).toNatClampNeg))), some (.int (M.1 1000 ((x3 + 2).toNatClampNeg))), some (.int (M.1 1000 ((x3 + 3).toNatClampNeg))), some (.int (M.1 1000 ((x3 + 4).toNatClampNeg)))] [] M (fun r M1 => px_T 0 342 1906 [some (.ref 1000), some (.ref 0), some (.ref 56), some (.int x3)] (r.toList ++ []) M1 Q)) : px_T 0 342 1882 [some (.ref 1000), some (.ref 0), some (.ref 56), some (.int x3)] [] M Q := by
  obtain ⟨n, h⟩ := px_T_cl (k := 342) (pc := 1903) (y := 140) (st := [.int (M.1 1000 ((x3 + 4).toNatClampNeg)), .int (M.1 1000 ((x3 + 3).toNatClampNeg)), .int (M.1 1000 ((x3 + 2).toNatClampNeg)), .int (M.1 1000 ((x3 + 1).toNatClampNeg)), .ref 0]) rfl (h5)
  exact ⟨n + 22, ⟨Or.inr ⟨rfl, h1⟩, ⟨Or.inr ⟨rfl, h2⟩, ⟨Or.inr ⟨rfl, h3⟩, ⟨Or.inr ⟨rfl, h4⟩, ⟨rfl, h⟩⟩⟩⟩⟩⟩
theorem sg_342_1935 {x3 : Int32} {M : px_Mem} {Q : px_Po} (h1 : px_T 0 141 0 [some (.ref 0)] [] M (fun r M1 => px_T 0 342 1939 [some (.ref 1000), some (.ref 0), some (.ref 56), some (.int x3)] (r.toList ++ []) M1 Q)) : px_T 0 342 1935 [some (.ref 1000), some (.ref 0), some (.ref 56), some (.int x3)] [] M Q := by
  obtain ⟨n, h⟩ := px_T_cl (k := 342) (pc := 1936) (y := 141) (st := [.ref 0]) rfl (h1)
  exact ⟨n + 2, ⟨rfl, h⟩⟩
theorem sg_342_1948 {x3 : Int32} {M : px_Mem} {Q : px_Po} (h1 : px_T 0 142 0 [some (.ref 0), none] [] M (fun r M1 => px_T 0 342 1952 [some (.ref 1000), some (.ref 0), some (.ref 56), some (.int x3)] (r.toList ++ []) M1 Q)) : px_T 0 342 1948 [some (.ref 1000), some (.ref 0), some (.ref 56), some (.int x3)] [] M Q := by
  obtain ⟨n, h⟩ := px_T_cl (k := 342) (pc := 1949) (y := 142) (st := [.ref 0]) rfl (h1)
  exact ⟨n + 2, ⟨rfl, h⟩⟩
theorem sg_342_1961 {x3 : Int32} {M : px_Mem} {Q : px_Po} (h1 : vp_in (x3 + 1) (M.1 999 0).toNatClampNeg) (h2 : vp_in (x3 + 2) (M.1 999 0).toNatClampNeg) (h3 : px_T 0 143 0 [some (.ref 0), some (.int (M.1 1000 ((x3 + 1).toNatClampNeg))), some (.int (M.1 1000 ((x3 + 2).toNatClampNeg))), none] [] M (fun r M1 => px_T 0 342 1975 [some (.ref 1000), some (.ref 0), some (.ref 56), some (.int x3)] (r.toList ++ []) M1 Q)) : px_T 0 342 1961 [some (.ref 1000), some (.ref 0), some (.ref 56), some (.int x3)] [] M Q := by
  obtain ⟨n, h⟩ := px_T_cl (k := 342) (pc := 1972) (y := 143) (st := [.int (M.1 1000 ((x3 + 2).toNatClampNeg)), .int (M.1 1000 ((x3 + 1).toNatClampNeg)), .ref 0]) rfl (h3)
  exact ⟨n + 12, ⟨Or.inr ⟨rfl, h1⟩, ⟨Or.inr ⟨rfl, h2⟩, ⟨rfl, h⟩⟩⟩⟩
theorem sg_342_1994 {x3 : Int32} {M : px_Mem} {Q : px_Po} (h1 : vp_in (x3 + 1) (M.1 999 0).toNatClampNeg) (h2 : vp_in (x3 + 2) (M.1 999 0).toNatClampNeg) (h3 : vp_in (x3 + 3) (M.1 999 0).toNatClampNeg) (h4 : px_T 0 144 0 [some (.ref 0), some (.int (M.1 1000 ((x3 + 1).toNatClampNeg))), some (.int (M.1 1000 ((x3 + 2).toNatClampNeg))), some (.int (M.1 1000 ((x3 + 3).toNatClampNeg))), none, none] [] M (fun r M1 => px_T 0 342 2013 [some (.ref 1000), some (.ref 0), some (.ref 56), some (.int x3)] (r.toList ++ []) M1 Q)) : px_T 0 342 1994 [some (.ref 1000), some (.ref 0), some (.ref 56), some (.int x3)] [] M Q := by
  obtain ⟨n, h⟩ := px_T_cl (k := 342) (pc := 2010) (y := 144) (st := [.int (M.1 1000 ((x3 + 3).toNatClampNeg)), .int (M.1 1000 ((x3 + 2).toNatClampNeg)), .int (M.1 1000 ((x3 + 1).toNatClampNeg)), .ref 0]) rfl (h4)
  exact ⟨n + 17, ⟨Or.inr ⟨rfl, h1⟩, ⟨Or.inr ⟨rfl, h2⟩, ⟨Or.inr ⟨rfl, h3⟩, ⟨rfl, h⟩⟩⟩⟩⟩
theorem sg_342_2037 {x3 : Int32} {M : px_Mem} {Q : px_Po} (h1 : vp_in (x3 + 1) (M.1 999 0).toNatClampNeg) (h2 : px_T 0 145 0 [some (.ref 0), some (.int (M.1 1000 ((x3 + 1).toNatClampNeg)))] [] M (fun r M1 => px_T 0 342 2046 [some (.ref 1000), some (.ref 0), some (.ref 56), some (.int x3)] (r.toList ++ []) M1 Q)) : px_T 0 342 2037 [some (.ref 1000), some (.ref 0), some (.ref 56), some (.int x3)] [] M Q := by
  obtain ⟨n, h⟩ := px_T_cl (k := 342) (pc := 2043) (y := 145) (st := [.int (M.1 1000 ((x3 + 1).toNatClampNeg)), .ref 0]) rfl (h2)
  exact ⟨n + 7, ⟨Or.inr ⟨rfl, h1⟩, ⟨rfl, h⟩⟩⟩
theorem sg_342_2060 {x3 : Int32} {M : px_Mem} {Q : px_Po} (h1 : vp_in (x3 + 1) (M.1 999 0).toNatClampNeg) (h2 : px_T 0 146 0 [some (.ref 0), some (.int (M.1 1000 ((x3 + 1).toNatClampNeg)))] [] M (fun r M1 => px_T 0 342 2069 [some (.ref 1000), some (.ref 0), some (.ref 56), some (.int x3)] (r.toList ++ []) M1 Q)) : px_T 0 342 2060 [some (.ref 1000), some (.ref 0), some (.ref 56), some (.int x3)] [] M Q := by
  obtain ⟨n, h⟩ := px_T_cl (k := 342) (pc := 2066) (y := 146) (st := [.int (M.1 1000 ((x3 + 1).toNatClampNeg)), .ref 0]) rfl (h2)
  exact ⟨n + 7, ⟨Or.inr ⟨rfl, h1⟩, ⟨rfl, h⟩⟩⟩
theorem sg_342_2083 {x3 : Int32} {M : px_Mem} {Q : px_Po} (h1 : vp_in (x3 + 1) (M.1 999 0).toNatClampNeg) (h2 : px_T 0 147 0 [some (.ref 0), some (.int (M.1 1000 ((x3 + 1).toNatClampNeg)))] [] M (fun r M1 => px_T 0 342 2092 [some (.ref 1000), some (.ref 0), some (.ref 56), some (.int x3)] (r.toList ++ []) M1 Q)) : px_T 0 342 2083 [some (.ref 1000), some (.ref 0), some (.ref 56), some (.int x3)] [] M Q := by
  obtain ⟨n, h⟩ := px_T_cl (k := 342) (pc := 2089) (y := 147) (st := [.int (M.1 1000 ((x3 + 1).toNatClampNeg)), .ref 0]) rfl (h2)
  exact ⟨n + 7, ⟨Or.inr ⟨rfl, h1⟩, ⟨rfl, h⟩⟩⟩
theorem sg_342_2106 {x3 : Int32} {M : px_Mem} {Q : px_Po} (h1 : vp_in (x3 + 1) (M.1 999 0).toNatClampNeg) (h2 : vp_in (x3 + 2) (M.1 999 0).toNatClampNeg) (h3 : vp_in (x3 + 3) (M.1 999 0).toNatClampNeg) (h4 : px_T 0 148 0 [some (.ref 0), some (.int (M.1 1000 ((x3 + 1).toNatClampNeg))), some (.int (M.1 1000 ((x3 + 2).toNatClampNeg))), some (.int (M.1 1000 ((x3 + 3).toNatClampNeg)))] [] M (fun r M1 => px_T 0 342 2125 [some (.ref 1000), some (.ref 0), some (.ref 56), some (.int x3)] (r.toList ++ []) M1 Q)) : px_T 0 342 2106 [some (.ref 1000), some (.ref 0), some (.ref 56), some (.int x3)] [] M Q := by
  obtain ⟨n, h⟩ := px_T_cl (k := 342) (pc := 2122) (y := 148) (st := [.int (M.1 1000 ((x3 + 3).toNatClampNeg)), .int (M.1 1000 ((x3 + 2).toNatClampNeg)), .int (M.1 1000 ((x3 + 1).toNatClampNeg)), .ref 0]) rfl (h4)
  exact ⟨n + 17, ⟨Or.inr ⟨rfl, h1⟩, ⟨Or.inr ⟨rfl, h2⟩, ⟨Or.inr ⟨rfl, h3⟩, ⟨rfl, h⟩⟩⟩⟩⟩
theorem sg_342_2149 {x3 : Int32} {M : px_Mem} {Q : px_Po} (h1 : vp_in (x3 + 1) (M.1 999 0).toNatClampNeg) (h2 : vp_in (x3 + 2) (M.1 999 0).toNatClampNeg) (h3 : vp_in (x3 + 3) (M.1 999 0).toNatClampNeg) (h4 : vp_in (x3 + 4) (M.1 999 0).toNatClampNeg) (h5 : px_T 0 149 0 [some (.ref 0), some (.int (M.1 1000 ((x3 + 1).toNatClampNeg))), some (.int (M.1 1000 ((x3 + 2).toNatClampNeg))), some (.long ((((M.1 1000 ((x3 + 3).toNatClampNeg)).toInt64) <<< ((32 : Int32).toInt64 &&& 63)) ||| (((M.1 1000 ((x3 + 4).toNatClampNeg)).toInt64) &&& 4294967295))), none, none] [] M (fun r M1 => px_T 0 342 2183 [some (.ref 1000), some (.ref 0), some (.ref 56), some (.int x3)] (r.toList ++ []) M1 Q)) : px_T 0 342 2149 [some (.ref 1000), some (.ref 0), some (.ref 56), some (.int x3)] [] M Q := by
  obtain ⟨n, h⟩ := px_T_cl (k := 342) (pc := 2180) (y := 149) (st := [.long ((((M.1 1000 ((x3 + 3).toNatClampNeg)).toInt64) <<< ((32 : Int32).toInt64 &&& 63)) ||| (((M.1 1000 ((x3 + 4).toNatClampNeg)).toInt64) &&& 4294967295)), .int (M.1 1000 ((x3 + 2).toNatClampNeg)), .int (M.1 1000 ((x3 + 1).toNatClampNeg)), .ref 0]) rfl (h5)
  exact ⟨n + 29, ⟨Or.inr ⟨rfl, h1⟩, ⟨Or.inr ⟨rfl, h2⟩, ⟨Or.inr ⟨rfl, h3⟩, ⟨Or.inr ⟨rfl, h4⟩, ⟨rfl, h⟩⟩⟩⟩⟩⟩
theorem sg_342_2222 {x3 : Int32} {M : px_Mem} {Q : px_Po} (h1 : vp_in (x3 + 1) (M.1 999 0).toNatClampNeg) (h2 : vp_in (x3 + 2) (M.1 999 0).toNatClampNeg) (h3 : vp_in (x3 + 3) (M.1 999 0).toNatClampNeg) (h4 : vp_in (x3 + 4) (M.1 999 0).toNatClampNeg) (h5 : vp_in (x3 + 5) (M.1 999 0).toNatClampNeg) (h6 : px_T 0 150 0 [some (.ref 0), some (.int (M.1 1000 ((x3 + 1).toNatClampNeg))), some (.int (M.1 1000 ((x3 + 2).toNatClampNeg))), some (.int (M.1 1000 ((x3 + 3).toNatClampNeg))), some (.int (M.1 1000 ((x3 + 4).toNatClampNeg))), some (.int (M.1 1000 ((x3 + 5).toNatClampNeg))), none, none] [] M (fun r M1 => px_T 0 342 2251 [some (.ref 1000), some (.ref 0), some (.ref 56), some (.int x3)] (r.toList ++ []) M1 Q)) : px_T 0 342 2222 [some (.ref 1000), some (.ref 0), some (.ref 56), some (.int x3)] [] M Q := by
  obtain ⟨n, h⟩ := px_T_cl (k := 342) (pc := 2248) (y := 150) (st := [.int (M.1 1000 ((x3 + 5).toNatClampNeg)), .int (M.1 1000 ((x3 + 4).toNatClampNeg)), .int (M.1 1000 ((x3 + 3).toNatClampNeg)), .int (M.1 1000 ((x3 + 2).toNatClampNeg)), .int (M.1 1000 ((x3 + 1).toNatClampNeg)), .ref 0]) rfl (h6)
  exact ⟨n + 27, ⟨Or.inr ⟨rfl, h1⟩, ⟨Or.inr ⟨rfl, h2⟩, ⟨Or.inr ⟨rfl, h3⟩, ⟨Or.inr ⟨rfl, h4⟩, ⟨Or.inr ⟨rfl, h5⟩, ⟨rfl, h⟩⟩⟩⟩⟩⟩⟩
