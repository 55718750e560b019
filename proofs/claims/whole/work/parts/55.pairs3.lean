/-! write, paste -/
theorem cb_8 (x : BitVec 64) : (((x.signExtend 32).signExtend 8).signExtend 32).signExtend 64 = (x <<< 56).sshiftRight 56 := by
  apply BitVec.eq_of_getLsbD_eq
  intro i hi
  simp only [BitVec.getLsbD_signExtend, BitVec.getLsbD_sshiftRight, BitVec.getLsbD_shiftLeft, BitVec.msb_eq_getLsbD_last]
  by_cases h : i < 8
  · have h32 : i < 32 := by omega
    have hd : 56 + i < 64 := by omega
    have hs : ¬ 56 + i < 56 := by omega
    have he : 56 + i - 56 = i := by omega
    have hq : ¬ 64 ≤ i := by omega
    simp only [h, h32, hi, hd, hs, he, hq, if_true, if_false, decide_true, decide_false, Bool.true_and, Bool.and_true, Bool.not_false, Bool.not_true]
  · have hd : ¬ 56 + i < 64 := by omega
    have hq : ¬ 64 ≤ i := by omega
    by_cases h32 : i < 32
    · simp [h, h32, hi, hd, hq]
    · simp [h, h32, hi, hd, hq]
theorem cb_16 (x : BitVec 64) : (((x.signExtend 32).signExtend 16).signExtend 32).signExtend 64 = (x <<< 48).sshiftRight 48 := by
  apply BitVec.eq_of_getLsbD_eq
  intro i hi
  simp only [BitVec.getLsbD_signExtend, BitVec.getLsbD_sshiftRight, BitVec.getLsbD_shiftLeft, BitVec.msb_eq_getLsbD_last]
  by_cases h : i < 16
  · have h32 : i < 32 := by omega
    have hd : 48 + i < 64 := by omega
    have hs : ¬ 48 + i < 48 := by omega
    have he : 48 + i - 48 = i := by omega
    have hq : ¬ 64 ≤ i := by omega
    simp only [h, h32, hi, hd, hs, he, hq, if_true, if_false, decide_true, decide_false, Bool.true_and, Bool.and_true, Bool.not_false, Bool.not_true]
  · have hd : ¬ 48 + i < 64 := by omega
    have hq : ¬ 64 ≤ i := by omega
    by_cases h32 : i < 32
    · simp [h, h32, hi, hd, hq]
    · simp [h, h32, hi, hd, hq]
theorem cb_32 (x : BitVec 64) : (x.signExtend 32).signExtend 64 = (x <<< 32).sshiftRight 32 := by
  apply BitVec.eq_of_getLsbD_eq
  intro i hi
  simp only [BitVec.getLsbD_signExtend, BitVec.getLsbD_sshiftRight, BitVec.getLsbD_shiftLeft, BitVec.msb_eq_getLsbD_last]
  by_cases h : i < 32
  · have h32 : i < 32 := by omega
    have hd : 32 + i < 64 := by omega
    have hs : ¬ 32 + i < 32 := by omega
    have he : 32 + i - 32 = i := by omega
    have hq : ¬ 64 ≤ i := by omega
    simp only [h, h32, hi, hd, hs, he, hq, if_true, if_false, decide_true, decide_false, Bool.true_and, Bool.and_true, Bool.not_false, Bool.not_true]
  · have hd : ¬ 32 + i < 64 := by omega
    have hq : ¬ 64 ≤ i := by omega
    by_cases h32 : i < 32
    · simp [h, h32, hi, hd, hq]
    · simp [h, h32, hi, hd, hq]
def cl_d (w : Nat) : Int64 := ((64 : Int32) - (8 <<< (nI w &&& 31))).toInt64 &&& 63
theorem cl_0 (x : Int64) : x.toInt32.toInt8.toInt32.toInt64 = (x <<< cl_d 0) >>> cl_d 0 := by
  apply Int64.toBitVec_inj.mp
  rw [Int64.toBitVec_shiftRight, Int64.toBitVec_shiftLeft, show (cl_d 0).toBitVec.smod 64 = 56#64 by decide]
  exact cb_8 x.toBitVec
theorem cl_1 (x : Int64) : x.toInt32.toInt16.toInt32.toInt64 = (x <<< cl_d 1) >>> cl_d 1 := by
  apply Int64.toBitVec_inj.mp
  rw [Int64.toBitVec_shiftRight, Int64.toBitVec_shiftLeft, show (cl_d 1).toBitVec.smod 64 = 48#64 by decide]
  exact cb_16 x.toBitVec
theorem cl_2 (x : Int64) : x.toInt32.toInt64 = (x <<< cl_d 2) >>> cl_d 2 := by
  apply Int64.toBitVec_inj.mp
  rw [Int64.toBitVec_shiftRight, Int64.toBitVec_shiftLeft, show (cl_d 2).toBitVec.smod 64 = 32#64 by decide]
  exact cb_32 x.toBitVec
theorem cl_3 (x : Int64) : x = (x <<< cl_d 3) >>> cl_d 3 := by
  apply Int64.toBitVec_inj.mp
  rw [Int64.toBitVec_shiftRight, Int64.toBitVec_shiftLeft]
  show x.toBitVec = (x.toBitVec <<< (0#64)).sshiftRight' (0#64)
  simp
def cl_v (x : Int64) (w : Nat) : Int64 := (x <<< cl_d w) >>> cl_d w
section L55
variable {M M1 M2 : px_Mem} {Q : px_Po} {y : iv_Y}
theorem sp_38 {o w : Nat} {x : Int64} (ho : px_isR o) (hw : w ≤ 3) (hM : M.1 o 2 = nI w) (h : Q (some (.long (cl_v x w))) M) : px_T 0 38 0 [some (.ref o), some (.long x), none] [] M Q := by
  unfold cl_v at h
  refine sg_38_0 ho ?_
  rw [hM]
  rcases (show w = 0 ∨ w = 1 ∨ w = 2 ∨ w = 3 by omega) with rfl | rfl | rfl | rfl
  · rw [← cl_0] at h
    exact sg_38_4 (fun _ => sg_38_32 h) (fun c => absurd c (by decide)) (fun c => absurd c (by decide)) (fun c => absurd rfl c)
  · rw [← cl_1] at h
    exact sg_38_4 (fun c => absurd c (by decide)) (fun _ => sg_38_37 h) (fun c => absurd c (by decide)) (fun _ c => absurd rfl c)
  · rw [← cl_2] at h
    exact sg_38_4 (fun c => absurd c (by decide)) (fun c => absurd c (by decide)) (fun _ => sg_38_42 h) (fun _ _ c => absurd rfl c)
  · rw [← cl_3] at h
    exact sg_38_4 (fun c => absurd c (by decide)) (fun c => absurd c (by decide)) (fun c => absurd c (by decide)) (fun _ _ _ => sg_38_46 h)
theorem pr_149 {x i : Int32} {v : Int64} : PR 149 [some (.ref 0), some (.int x), some (.int i), some (.long v), none, none] 330 [some (.ref 56), some (.int x), some (.int i), some (.long v), none] := by
  intro M Q I h
  have hV : iv_rows M := by obtain ⟨y, C, R, V⟩ := I; exact V.2.2.2
  refine sg_149_0 (sc_156 (fun k hk k4 g => ?_) (fun g => ?_))
  · subst hk
    have hrf : px_rf 15 (nI k).toNatClampNeg = 16 + 2 * k := by rw [in_cl (by omega), rf15 k4]
    have hw : ∀ N : px_Mem, ∀ Q' : px_Po, px_T 0 330 4 [some (.ref 56), some (.int (nI k)), some (.int i), some (.long v), none] [.int 1] N Q' → px_T 0 330 0 [some (.ref 56), some (.int (nI k)), some (.int i), some (.long v), none] [] N Q' := by
      intro N Q' g2
      refine sg_330_0 (sr_327 ?_)
      rw [g]
      exact g2
    obtain ⟨hr, hn⟩ := hV k k4
    rcases hr with ⟨w1, w2⟩ | ⟨w1, n, w, n60, w3, a3, a4, a5, a6⟩
    · have hz : M.1 (px_rf 15 (nI k).toNatClampNeg) 1 = 0 := by rw [hrf]; exact w1
      refine sg_149_4 (fun _ => me_vin k4 (by omega)) (fun _ => by rw [hrf]; exact sh15 k4) (fun _ _ => h _ M lw_rf (fun Q' h' => hw M Q' ?_)) (fun _ c => absurd hz c) (fun _ c => absurd hz c) (fun _ c => absurd hz c) (fun c => absurd rfl c)
      exact sg_330_4 (fun c => absurd c (by decide)) (fun _ => me_vin k4 (by omega)) (fun _ _ => h' M I lw_rf) (fun _ c => absurd (by rw [in_cl (by omega)]; exact w2) c)
    · have hz : ¬ M.1 (px_rf 15 (nI k).toNatClampNeg) 1 = 0 := by rw [hrf, w1]; decide
      have h88 : ∀ N : px_Mem, N.1 88 = M.1 88 → ∀ Q' : px_Po, px_T 0 330 38 [some (.ref 56), some (.int (nI k)), some (.int i), some (.long v), none] [.int (in_b (rg i 0 ((n : Int) - 1)))] N Q' → px_T 0 330 0 [some (.ref 56), some (.int (nI k)), some (.int i), some (.long v), none] [] N Q' := by
        intro N hN Q' g2
        refine hw N Q' (sg_330_4 (fun c => absurd c (by decide)) (fun _ => me_vin k4 (by omega)) (fun _ c => ?_) (fun _ _ => sr_175 ?_))
        · rw [in_cl (by omega), hN, a4] at c
          exact absurd c (in_nm (by omega))
        · rw [in_cl (by omega), hN, a4]
          have e1 : (nI n - 1).toInt = (n : Int) - 1 := by
            rcases Nat.eq_zero_or_pos n with h0 | h0
            · rw [h0]
              rfl
            · rw [in_s1 h0, nI_toInt (by omega)]
              omega
          have e : decide ((0 : Int64) ≤ i.toInt64 ∧ i.toInt64 ≤ (nI n - 1).toInt64) = rg i 0 ((n : Int) - 1) := by
            unfold rg
            refine decide_eq_decide.mpr ?_
            rw [fa_le64, fa_le64, Int32.toInt_toInt64, Int32.toInt_toInt64, e1]
            exact Iff.rfl
          rw [e]
          exact g2
      have bad : rg i 0 ((n : Int) - 1) = false → Q (some (.int (-7))) M := by
        intro gb
        refine h _ M lw_rf (fun Q' h' => h88 M rfl Q' ?_)
        rw [gb]
        exact sg_330_38 (fun _ => h' M I lw_rf) (fun c => absurd rfl c) (fun c => absurd rfl c)
      have a3' : M.1 (px_rf 15 (nI k).toNatClampNeg) 3 = nI n := by rw [hrf]; exact a3
      refine sg_149_4 (fun _ => me_vin k4 (by omega)) (fun _ => by rw [hrf]; exact sh15 k4) (fun _ c => absurd c hz) (fun _ _ c => bad ?_) (fun _ _ c d => ?_) (fun _ _ c d => bad ?_) (fun c => absurd rfl c)
      · rw [fa_lt, Int32.toInt_zero] at c
        exact rg_f (Or.inl c)
      · obtain ⟨u, hu, rfl⟩ := nI_of c
        rw [a3', in_lt hu (by omega)] at d
        rw [hrf]
        refine sg_37_0 (isR k4) (fun q => absurd q c) (fun _ q => ?_) (fun _ _ => ?_)
        · rw [a3, in_le (by omega) hu] at q
          omega
        · refine sp_38 (isR k4) w3 a5 (sg_37_22 ⟨60, sh17 k4, me_vin (by omega) (by omega)⟩ (sg_149_52 ?_))
          rw [in_cl hu]
          refine h _ _ ⟨rfl, rfl⟩ (fun Q' h' => h88 (px_wL M (16 + 2 * k + 1) u (cl_v v w)) rfl Q' ?_)
          have gb : rg (nI u) 0 ((n : Int) - 1) = true := by rw [rg_n hu]; exact decide_eq_true (by omega)
          rw [gb]
          refine sg_330_38 (fun q => absurd q (by decide)) (fun _ => me_vin k4 (by omega)) (fun _ => sg_328_0 ?_)
          rw [il_60, in_mul, in_add]
          refine sg_330_64 (me_vin (by omega) (by omega)) ?_
          rw [in_cl (by omega), in_cl (by omega), me_L1, a6]
          have J := IV_rows (M1 := px_wL (px_wL M (16 + 2 * k + 1) u (cl_v v w)) 90 (60 * k + u) (cl_v v w)) I (fun a h1 h2 h3 => by simp (disch := omega) only [me_II, me_Ii, me_Io, me_I2, me_L1, me_Li, me_LL, me_Lo, me_As, me_Ao, me_A2, me_Bs, me_Bo, me_B1]) (fun a h1 h2 h3 => by simp (disch := omega) only [me_II, me_Ii, me_Io, me_I2, me_L1, me_Li, me_LL, me_Lo, me_As, me_Ao, me_A2, me_Bs, me_Bo, me_B1]) (fun j hj => ?_)
          · exact h' _ J.1 J.2
          · obtain ⟨b1, b2⟩ := hV j hj
            refine ⟨b1, fun i hi => ?_⟩
            by_cases hjk : j = k
            · subst hjk
              by_cases hiu : i = u
              · subst hiu
                rw [me_LL, me_Lo (by omega), show 17 + 2 * j = 16 + 2 * j + 1 by omega, me_LL]
              · have eL : (px_wL (px_wL M (16 + 2 * j + 1) u (cl_v v w)) 90 (60 * j + u) (cl_v v w)).2 (17 + 2 * j) i = M.2 (17 + 2 * j) i := by
                  rw [me_Lo (by omega), show 17 + 2 * j = 16 + 2 * j + 1 by omega, me_Li hiu]
                have eR : (px_wL (px_wL M (16 + 2 * j + 1) u (cl_v v w)) 90 (60 * j + u) (cl_v v w)).2 90 (60 * j + i) = M.2 90 (60 * j + i) := by
                  rw [me_Li (by omega), me_Lo (by omega)]
                rw [eL, eR]
                exact b2 i hi
            · rw [me_Li (by omega), me_Lo (by omega), me_Lo (by omega), me_Lo (by omega)]
              exact b2 i hi
      · obtain ⟨u, hu, rfl⟩ := nI_of c
        rw [a3', in_lt hu (by omega)] at d
        rw [rg_n hu]
        exact decide_eq_false (by omega)
  · refine sg_149_4 (fun c => absurd c (by decide)) (fun c => absurd c (by decide)) (fun c => absurd c (by decide)) (fun c => absurd c (by decide)) (fun c => absurd c (by decide)) (fun c => absurd c (by decide)) (fun _ => h _ M lw_rf (fun Q' h' => sg_330_0 (sr_327 ?_)))
    rw [g]
    exact sg_330_4 (fun _ => h' M I lw_rf) (fun c => absurd rfl c) (fun c => absurd rfl c) (fun c => absurd rfl c)
/-- whether n numbers from a place on are there -/
def la (x n : Int32) (m : Nat) : Bool := decide (0 ≤ x.toInt ∧ 0 ≤ n.toInt ∧ x.toInt + n.toInt ≤ m)
theorem li_sum (x n : Int32) : (x.toInt64 + n.toInt64).toInt = x.toInt + n.toInt := by
  have h1 := Int32.toInt_lt x
  have h2 := Int32.le_toInt x
  have h3 := Int32.toInt_lt n
  have h4 := Int32.le_toInt n
  rw [Int64.toInt_add, Int32.toInt_toInt64, Int32.toInt_toInt64]
  rw [Int.bmod_eq_of_le (by omega) (by omega)]
theorem sp_39 {o m : Nat} {x n : Int32} (ho : px_isR o) (hm : m ≤ 60) (hM : M.1 o 3 = nI m) (h : Q (some (.int (in_b (!la x n m)))) M) : px_T 0 39 0 [some (.ref o), some (.int x), some (.int n)] [] M Q := by
  refine sg_39_0 ho (fun c => ?_) (fun c d => ?_) (fun c d e => ?_) (fun c d e => ?_)
  · rw [fa_lt, Int32.toInt_zero] at c
    rw [show la x n m = false from decide_eq_false (by omega)] at h
    exact h
  · rw [fa_lt, Int32.toInt_zero] at d
    rw [show la x n m = false from decide_eq_false (by omega)] at h
    exact h
  · rw [fa_lt, Int32.toInt_zero] at c d
    rw [lg_cmp_le, fa_le64, li_sum, hM, Int32.toInt_toInt64, nI_toInt (by omega)] at e
    rw [show la x n m = true from decide_eq_true (by omega)] at h
    exact h
  · rw [lg_cmp_le, fa_le64, li_sum, hM, Int32.toInt_toInt64, nI_toInt (by omega)] at e
    rw [show la x n m = false from decide_eq_false (by omega)] at h
    exact h
theorem pr_150 {x i z j n : Int32} : PR 150 [some (.ref 0), some (.int x), some (.int i), some (.int z), some (.int j), some (.int n), none, none] 331 [some (.ref 56), some (.int x), some (.int i), some (.int z), some (.int j), some (.int n), none] := by
  intro M Q I h
  have hV : iv_rows M := by obtain ⟨y, C, R, V⟩ := I; exact V.2.2.2
  refine sg_150_0 (sc_156 (fun k hk k4 g => ?_) (fun g => ?_))
  · refine sg_150_4 (fun _ => sc_156 (fun l hl l4 g2 => ?_) (fun g2 => ?_)) (fun c => absurd rfl c)
    · subst hk hl
      have hrk : px_rf 15 (nI k).toNatClampNeg = 16 + 2 * k := by rw [in_cl (by omega), rf15 k4]
      have hrl : px_rf 15 (nI l).toNatClampNeg = 16 + 2 * l := by rw [in_cl (by omega), rf15 l4]
      have hw : ∀ N : px_Mem, ∀ Q' : px_Po, px_T 0 331 11 [some (.ref 56), some (.int (nI k)), some (.int i), some (.int (nI l)), some (.int j), some (.int n), none] [.int 1] N Q' → px_T 0 331 0 [some (.ref 56), some (.int (nI k)), some (.int i), some (.int (nI l)), some (.int j), some (.int n), none] [] N Q' := by
        intro N Q' g3
        refine sg_331_0 (sr_327 ?_)
        rw [g]
        refine sg_331_4 (fun c => absurd c (by decide)) (fun _ => sr_327 ?_)
        rw [g2]
        exact g3
      have s1 : ∀ c : (0 : Int32) = 0, vp_in (nI k) 4 := fun _ => me_vin k4 (by omega)
      have s2 : ∀ c : (0 : Int32) = 0, vp_in (nI l) 4 := fun _ => me_vin l4 (by omega)
      have s3 : px_sh 0 (px_rf 15 (nI k).toNatClampNeg) = some (.inl 4) := by rw [hrk]; exact sh15 k4
      have s4 : px_sh 0 (px_rf 15 (nI l).toNatClampNeg) = some (.inl 4) := by rw [hrl]; exact sh15 l4
      obtain ⟨hr, hn⟩ := hV k k4
      obtain ⟨hr2, hn2⟩ := hV l l4
      rcases hr with ⟨w1, w2⟩ | ⟨w1, n1, b1, n60, b3, a3, a4, a5, a6⟩
      · have hz : M.1 (px_rf 15 (nI k).toNatClampNeg) 1 = 0 := by rw [hrk]; exact w1
        refine sg_150_11 s1 s2 (fun _ => s3) (fun _ _ => h _ M lw_rf (fun Q' h' => hw M Q' ?_)) (fun _ c => absurd hz c) (fun _ c => absurd hz c) (fun _ c => absurd hz c) (fun _ c => absurd hz c) (fun c => absurd rfl c)
        have hy : M.1 88 (nI k).toNatClampNeg = -1 := by rw [in_cl (by omega)]; exact w2
        exact sg_331_11 (fun c => absurd c (by decide)) (fun _ => me_vin k4 (by omega)) (fun _ _ => h' M I lw_rf) (fun _ c => absurd hy c) (fun _ c => absurd hy c) (fun _ c => absurd hy c) (fun _ c => absurd hy c) (fun _ c => absurd hy c) (fun _ c => absurd hy c) (fun _ c => absurd hy c) (fun _ c => absurd hy c)
      · have hz : ¬ M.1 (px_rf 15 (nI k).toNatClampNeg) 1 = 0 := by rw [hrk, w1]; decide
        have hy : ¬ M.1 88 (nI k).toNatClampNeg = -1 := by rw [in_cl (by omega), a4]; exact in_nm (by omega)
        rcases hr2 with ⟨v1, v2⟩ | ⟨v1, n2, c1, m60, c3, d3, d4, d5, d6⟩
        · have hz2 : M.1 (px_rf 15 (nI l).toNatClampNeg) 1 = 0 := by rw [hrl]; exact v1
          have hy2 : M.1 88 (nI l).toNatClampNeg = -1 := by rw [in_cl (by omega)]; exact v2
          refine sg_150_11 s1 s2 (fun _ => s3) (fun _ c => absurd c hz) (fun _ _ => s4) (fun _ _ _ => h _ M lw_rf (fun Q' h' => hw M Q' ?_)) (fun _ _ c => absurd hz2 c) (fun _ _ c => absurd hz2 c) (fun c => absurd rfl c)
          exact sg_331_11 (fun c => absurd c (by decide)) (fun _ => me_vin k4 (by omega)) (fun _ c => absurd c hy) (fun _ _ => me_vin l4 (by omega)) (fun _ _ _ => h' M I lw_rf) (fun _ _ c => absurd hy2 c) (fun _ _ c => absurd hy2 c) (fun _ _ c => absurd hy2 c) (fun _ _ c => absurd hy2 c) (fun _ _ c => absurd hy2 c) (fun _ _ c => absurd hy2 c)
        · have hz2 : ¬ M.1 (px_rf 15 (nI l).toNatClampNeg) 1 = 0 := by rw [hrl, v1]; decide
          have hy2 : ¬ M.1 88 (nI l).toNatClampNeg = -1 := by rw [in_cl (by omega), d4]; exact in_nm (by omega)
          have wiff : (M.1 (px_rf 15 (nI k).toNatClampNeg) 2 = M.1 (px_rf 15 (nI l).toNatClampNeg) 2) ↔ (M.1 89 (nI k).toNatClampNeg = M.1 89 (nI l).toNatClampNeg) := by
            rw [hrk, hrl, in_cl (by omega), in_cl (by omega), a5, d5, a6, d6]
          -- what the reference does behind the widths
          have ref : ∀ N : px_Mem, N.1 = M.1 → ∀ Q' : px_Po, (M.1 89 (nI k).toNatClampNeg = M.1 89 (nI l).toNatClampNeg) → ((la i n n1 && la j n n2) = false → Q' (some (.int (-7))) N) → ((la i n n1 && la j n n2) = true → px_T 0 331 113 [some (.ref 56), some (.int (nI k)), some (.int i), some (.int (nI l)), some (.int j), some (.int n), some (.int 0)] [] N Q') → px_T 0 331 0 [some (.ref 56), some (.int (nI k)), some (.int i), some (.int (nI l)), some (.int j), some (.int n), none] [] N Q' := by
            intro N hN Q' hwd g3 g4
            have e1 : ∀ m : Nat, m ≤ 60 → ((nI m).toInt64).toInt = (m : Int) := fun m hm => by rw [Int32.toInt_toInt64, nI_toInt (by omega)]
            refine hw N Q' ?_
            rw [← hN] at hy hy2 hwd
            have f1 : (N.1 88 (nI k).toNatClampNeg) = nI n1 := by rw [in_cl (by omega), hN, a4]
            have f2 : (N.1 88 (nI l).toNatClampNeg) = nI n2 := by rw [in_cl (by omega), hN, d4]
            refine sg_331_11 (fun c => absurd c (by decide)) (fun _ => me_vin k4 (by omega)) (fun _ c => absurd c hy) (fun _ _ => me_vin l4 (by omega)) (fun _ _ c => absurd c hy2) (fun _ _ _ _ c => g3 ?_) (fun _ _ _ _ _ c => g3 ?_) (fun _ _ _ _ _ _ c => g3 ?_) (fun _ _ _ _ c1 c2 c3 c4 => sg_331_107 (g3 ?_)) (fun _ _ _ _ c1 c2 c3 c4 => sg_331_89 (me_vin l4 (by omega)) (fun c5 => g4 ?_) (fun c5 => sg_331_107 (g3 ?_))) (fun _ _ _ c => absurd hwd c)
            · rw [fa_lt, Int32.toInt_zero] at c
              rw [show la i n n1 = false from decide_eq_false (by omega)]
              rfl
            · rw [fa_lt, Int32.toInt_zero] at c
              rw [show la j n n2 = false from decide_eq_false (by omega), Bool.and_false]
            · rw [fa_lt, Int32.toInt_zero] at c
              rw [show la i n n1 = false from decide_eq_false (by omega)]
              rfl
            · rw [lg_cmp_gt, fa_lt64, li_sum, f1, e1 n1 n60] at c4
              rw [show la i n n1 = false from decide_eq_false (by omega)]
              rfl
            · rw [fa_lt, Int32.toInt_zero] at c1 c2 c3
              rw [lg_cmp_gt, fa_lt64, li_sum, f1, e1 n1 n60] at c4
              rw [lg_cmp_le, fa_le64, li_sum, f2, e1 n2 m60] at c5
              rw [show la i n n1 = true from decide_eq_true (by omega), show la j n n2 = true from decide_eq_true (by omega)]
              rfl
            · rw [lg_cmp_le, fa_le64, li_sum, f2, e1 n2 m60] at c5
              rw [show la j n n2 = false from decide_eq_false (by omega), Bool.and_false]
          refine sg_150_11 s1 s2 (fun _ => s3) (fun _ c => absurd c hz) (fun _ _ => s4) (fun _ _ c => absurd c hz2) (fun _ _ _ c => ?_) (fun _ _ _ c => ?_) (fun c => absurd rfl c)
          · have hwd := wiff.mp c
            rw [hrk, hrl]
            have bad : (la i n n1 && la j n n2) = false → Q (some (.int (-7))) M := by
              intro gb
              refine h _ M lw_rf (fun Q' h' => ref M rfl Q' hwd (fun _ => h' M I lw_rf) (fun q => ?_))
              rw [gb] at q
              exact absurd q (by decide)
            refine sp_39 (isR k4) n60 a3 (sg_150_76 (isR k4) (isR l4) (fun e => sp_39 (isR l4) m60 d3 (sg_150_88 (isR k4) (isR l4) (fun f => ?_) (fun f => ?_) (fun f => bad ?_))) (fun e => bad ?_))
            · rw [in_b0, Bool.not_eq_false'] at e f
              have e' := of_decide_eq_true e
              have f' := of_decide_eq_true f
              have i0 : ¬ i < 0 := fun q => by rw [fa_lt, Int32.toInt_zero] at q; omega
              have j0 : ¬ j < 0 := fun q => by rw [fa_lt, Int32.toInt_zero] at q; omega
              have n0 : ¬ n < 0 := fun q => by rw [fa_lt, Int32.toInt_zero] at q; omega
              obtain ⟨i', hi', rfl⟩ := nI_of i0
              obtain ⟨j', hj', rfl⟩ := nI_of j0
              obtain ⟨n', hn', rfl⟩ := nI_of n0
              rw [nI_toInt hi', nI_toInt hn'] at e'
              rw [nI_toInt hj', nI_toInt hn'] at f'
              refine ⟨60, 60, sh17 k4, sh17 l4, i0, j0, n0, ?_, ?_⟩
              · rw [in_cl hi', in_cl hn']; omega
              · rw [in_cl hj', in_cl hn']; omega
            · rw [in_b0, Bool.not_eq_false'] at e f
              have e' := of_decide_eq_true e
              have f' := of_decide_eq_true f
              have i0 : ¬ i < 0 := fun q => by rw [fa_lt, Int32.toInt_zero] at q; omega
              have j0 : ¬ j < 0 := fun q => by rw [fa_lt, Int32.toInt_zero] at q; omega
              have n0 : ¬ n < 0 := fun q => by rw [fa_lt, Int32.toInt_zero] at q; omega
              obtain ⟨i', hi', rfl⟩ := nI_of i0
              obtain ⟨j', hj', rfl⟩ := nI_of j0
              obtain ⟨n', hn', rfl⟩ := nI_of n0
              have e2 := e'
              have f2 := f'
              rw [nI_toInt hi', nI_toInt hn'] at e2
              rw [nI_toInt hj', nI_toInt hn'] at f2
              rw [in_cl hi', in_cl hj', in_cl hn']
              generalize hN : px_aL M (16 + 2 * l + 1) (va_cpy (M.2 (16 + 2 * k + 1)) (M.2 (16 + 2 * l + 1)) i' j' n') = N
              have n1' : N.1 = M.1 := by subst hN; rfl
              have n90 : N.2 90 = M.2 90 := by subst hN; rw [me_Bo (by omega)]
              refine h _ N ⟨by rw [n1'], by rw [n1']⟩ (fun Q' h' => ref N n1' Q' hwd (fun q => ?_) (fun _ => ?_))
              · rw [e, f] at q
                exact absurd q (by decide)
              have l1 : ∀ u, u ≤ n' → px_T 0 331 113 [some (.ref 56), some (.int (nI k)), some (.int (nI i')), some (.int (nI l)), some (.int (nI j')), some (.int (nI n')), some (.int (nI u))] [] (px_aL N 91 (va_cpy (N.2 90) (N.2 91) (60 * k + i') 0 u)) Q' := by
                refine lp_dn ?_ (fun u hu ih => ?_)
                · refine sg_331_113 (fun c1 => ?_) (fun c1 => by exfalso; (try simp (disch := omega) only [in_lt, in_le, in_eq, in_add, in_mul, in_sb, in_cl, in_bz, in_bo, in_mo, not_true_eq_false, not_false_eq_true, il_0, il_1, il_2, il_3, il_4, il_5, il_6, il_7, il_8, il_9, il_10, il_11, il_12, il_13, il_14, il_15, il_16, il_31, il_60] at c1) <;> omega) (fun c1 => by exfalso; (try simp (disch := omega) only [in_lt, in_le, in_eq, in_add, in_mul, in_sb, in_cl, in_bz, in_bo, in_mo, not_true_eq_false, not_false_eq_true, il_0, il_1, il_2, il_3, il_4, il_5, il_6, il_7, il_8, il_9, il_10, il_11, il_12, il_13, il_14, il_15, il_16, il_31] at c1) <;> omega) (fun c1 => by exfalso; (try simp (disch := omega) only [in_lt, in_le, in_eq, in_add, in_mul, in_sb, in_cl, in_bz, in_bo, in_mo, not_true_eq_false, not_false_eq_true, il_0, il_1, il_2, il_3, il_4, il_5, il_6, il_7, il_8, il_9, il_10, il_11, il_12, il_13, il_14, il_15, il_16, il_31] at c1) <;> omega)
                  generalize hN2 : px_aL N 91 (va_cpy (N.2 90) (N.2 91) (60 * k + i') 0 n') = N2
                  have m91 : ∀ u, u < n' → N2.2 91 u = M.2 90 (60 * k + i' + u) := by
                    intro u hu
                    subst hN2
                    rw [me_Bs, pk_cpy_in (by omega) (by omega), n90, Nat.sub_zero]
                  have l2 : ∀ u, u ≤ n' → px_T 0 331 150 [some (.ref 56), some (.int (nI k)), some (.int (nI i')), some (.int (nI l)), some (.int (nI j')), some (.int (nI n')), some (.int (nI u))] [] (px_aL N2 90 (va_cpy (N2.2 91) (N2.2 90) 0 (60 * l + j') u)) Q' := by
                    refine lp_dn ?_ (fun u hu ih => ?_)
                    · refine sg_331_150 (fun c1 => ?_) (fun c1 => by exfalso; (try simp (disch := omega) only [in_lt, in_le, in_eq, in_add, in_mul, in_sb, in_cl, in_bz, in_bo, in_mo, not_true_eq_false, not_false_eq_true, il_0, il_1, il_2, il_3, il_4, il_5, il_6, il_7, il_8, il_9, il_10, il_11, il_12, il_13, il_14, il_15, il_16, il_31] at c1) <;> omega) (fun c1 => by exfalso; (try simp (disch := omega) only [in_lt, in_le, in_eq, in_add, in_mul, in_sb, in_cl, in_bz, in_bo, in_mo, not_true_eq_false, not_false_eq_true, il_0, il_1, il_2, il_3, il_4, il_5, il_6, il_7, il_8, il_9, il_10, il_11, il_12, il_13, il_14, il_15, il_16, il_31, il_60] at c1) <;> omega) (fun c1 => by exfalso; (try simp (disch := omega) only [in_lt, in_le, in_eq, in_add, in_mul, in_sb, in_cl, in_bz, in_bo, in_mo, not_true_eq_false, not_false_eq_true, il_0, il_1, il_2, il_3, il_4, il_5, il_6, il_7, il_8, il_9, il_10, il_11, il_12, il_13, il_14, il_15, il_16, il_31] at c1) <;> omega)
                      have J := IV_rows (M1 := px_aL N2 90 (va_cpy (N2.2 91) (N2.2 90) 0 (60 * l + j') n')) I (fun a h1 h2 h3 => ?_) (fun a h1 h2 h3 => ?_) (fun q hq => ?_)
                      · exact h' _ J.1 J.2
                      · subst hN2 hN
                        simp (disch := omega) only [me_II, me_Ii, me_Io, me_I2, me_L1, me_Li, me_LL, me_Lo, me_As, me_Ao, me_A2, me_Bs, me_Bo, me_B1]
                      · subst hN2 hN
                        simp (disch := omega) only [me_II, me_Ii, me_Io, me_I2, me_L1, me_Li, me_LL, me_Lo, me_As, me_Ao, me_A2, me_Bs, me_Bo, me_B1]
                      · obtain ⟨b1, b2⟩ := hV q hq
                        have b3 := (hV k k4).2
                        have e90 : N2.2 90 = M.2 90 := by subst hN2; rw [me_Bo (by omega), n90]
                        have eN1 : N2.1 = M.1 := by subst hN2; exact n1'
                        refine ⟨by rw [me_B1, eN1]; exact b1, fun v hv => ?_⟩
                        have e17 : (px_aL N2 90 (va_cpy (N2.2 91) (N2.2 90) 0 (60 * l + j') n')).2 (17 + 2 * q) = N.2 (17 + 2 * q) := by
                          subst hN2
                          simp (disch := omega) only [me_II, me_Ii, me_Io, me_I2, me_L1, me_Li, me_LL, me_Lo, me_As, me_Ao, me_A2, me_Bs, me_Bo, me_B1]
                        rw [e17, me_Bs]
                        by_cases hql : q = l
                        · subst hql
                          have eN : N.2 (17 + 2 * q) = va_cpy (M.2 (17 + 2 * k)) (M.2 (17 + 2 * q)) i' j' n' := by
                            subst hN
                            rw [show 17 + 2 * q = 16 + 2 * q + 1 by omega, me_Bs, show 16 + 2 * k + 1 = 17 + 2 * k by omega]
                          rw [eN]
                          by_cases hin : j' ≤ v ∧ v < j' + n'
                          · rw [pk_cpy_in hin.1 hin.2, pk_cpy_in (by omega) (by omega), show 0 + (60 * q + v - (60 * q + j')) = v - j' by omega, m91 (v - j') (by omega), b3 _ (by omega), show 60 * k + (i' + (v - j')) = 60 * k + i' + (v - j') by omega]
                          · rw [pk_cpy_out (by omega), pk_cpy_out (by omega), e90]
                            exact b2 v hv
                        · have eN : N.2 (17 + 2 * q) = M.2 (17 + 2 * q) := by
                            subst hN
                            rw [me_Bo (by omega)]
                          rw [eN, pk_cpy_out (by omega), e90]
                          exact b2 v hv
                    · refine sg_331_150 (fun c1 => by exfalso; (try simp (disch := omega) only [in_lt, in_le, in_eq, in_add, in_mul, in_sb, in_cl, in_bz, in_bo, in_mo, not_true_eq_false, not_false_eq_true, il_0, il_1, il_2, il_3, il_4, il_5, il_6, il_7, il_8, il_9, il_10, il_11, il_12, il_13, il_14, il_15, il_16, il_31] at c1) <;> omega) (fun c1 => by (try simp (disch := omega) only [in_lt, in_le, in_eq, in_add, in_mul, in_sb, in_cl, in_bz, in_bo, in_mo, not_true_eq_false, not_false_eq_true, il_0, il_1, il_2, il_3, il_4, il_5, il_6, il_7, il_8, il_9, il_10, il_11, il_12, il_13, il_14, il_15, il_16, il_31] at c1 ⊢) <;> exact me_vin (by omega) (by omega)) (fun c1 => by (try simp (disch := omega) only [in_lt, in_le, in_eq, in_add, in_mul, in_sb, in_cl, in_bz, in_bo, in_mo, not_true_eq_false, not_false_eq_true, il_0, il_1, il_2, il_3, il_4, il_5, il_6, il_7, il_8, il_9, il_10, il_11, il_12, il_13, il_14, il_15, il_16, il_31, il_60] at c1 ⊢) <;> exact me_vin (by omega) (by omega)) (fun c1 => ?_)
                      rw [il_60, in_mul, in_add, in_add, in_cl (by omega), in_cl (by omega), in_a1]
                      simp (disch := omega) only [me_II, me_Ii, me_Io, me_I2, me_L1, me_Li, me_LL, me_Lo, me_As, me_Ao, me_A2, me_Bs, me_Bo, me_B1]
                      rw [me_BL]
                      have e9 := cpL_g (N2.2 91) (N2.2 90) 0 (60 * l + j') u
                      rw [Nat.zero_add] at e9
                      rw [e9]
                      exact ih
                  have h0 := l2 0 (Nat.zero_le _)
                  rw [cpL_g0, me_Bid] at h0
                  exact h0
                · refine sg_331_113 (fun c1 => by exfalso; (try simp (disch := omega) only [in_lt, in_le, in_eq, in_add, in_mul, in_sb, in_cl, in_bz, in_bo, in_mo, not_true_eq_false, not_false_eq_true, il_0, il_1, il_2, il_3, il_4, il_5, il_6, il_7, il_8, il_9, il_10, il_11, il_12, il_13, il_14, il_15, il_16, il_31] at c1) <;> omega) (fun c1 => by (try simp (disch := omega) only [in_lt, in_le, in_eq, in_add, in_mul, in_sb, in_cl, in_bz, in_bo, in_mo, not_true_eq_false, not_false_eq_true, il_0, il_1, il_2, il_3, il_4, il_5, il_6, il_7, il_8, il_9, il_10, il_11, il_12, il_13, il_14, il_15, il_16, il_31, il_60] at c1 ⊢) <;> exact me_vin (by omega) (by omega)) (fun c1 => by (try simp (disch := omega) only [in_lt, in_le, in_eq, in_add, in_mul, in_sb, in_cl, in_bz, in_bo, in_mo, not_true_eq_false, not_false_eq_true, il_0, il_1, il_2, il_3, il_4, il_5, il_6, il_7, il_8, il_9, il_10, il_11, il_12, il_13, il_14, il_15, il_16, il_31] at c1 ⊢) <;> exact me_vin (by omega) (by omega)) (fun c1 => ?_)
                  rw [il_60, in_mul, in_add, in_add, in_cl (by omega), in_cl (by omega), in_a1]
                  simp (disch := omega) only [me_II, me_Ii, me_Io, me_I2, me_L1, me_Li, me_LL, me_Lo, me_As, me_Ao, me_A2, me_Bs, me_Bo, me_B1]
                  rw [me_BL]
                  have e9 := cpL_g (N.2 90) (N.2 91) (60 * k + i') 0 u
                  rw [Nat.zero_add] at e9
                  rw [e9]
                  exact ih
              have h0 := l1 0 (Nat.zero_le _)
              rw [cpL_g0, me_Bid] at h0
              exact h0
            · rw [in_b0] at f
              have f2 : la j n n2 = false := by cases hh : la j n n2 with
                | false => rfl
                | true => rw [hh] at f; exact absurd rfl f
              rw [f2, Bool.and_false]
            · rw [in_b0] at e
              have f2 : la i n n1 = false := by cases hh : la i n n1 with
                | false => rfl
                | true => rw [hh] at e; exact absurd rfl e
              rw [f2, Bool.false_and]
          · have hwd := fun q => c (wiff.mpr q)
            refine h _ M lw_rf (fun Q' h' => hw M Q' ?_)
            exact sg_331_11 (fun c => absurd c (by decide)) (fun _ => me_vin k4 (by omega)) (fun _ c => absurd c hy) (fun _ _ => me_vin l4 (by omega)) (fun _ _ c => absurd c hy2) (fun _ _ _ c => absurd c hwd) (fun _ _ _ c => absurd c hwd) (fun _ _ _ c => absurd c hwd) (fun _ _ _ c => absurd c hwd) (fun _ _ _ c => absurd c hwd) (fun _ _ _ _ => h' M I lw_rf)
    · refine sg_150_11 (fun c => absurd c (by decide)) (fun c => absurd c (by decide)) (fun c => absurd c (by decide)) (fun c => absurd c (by decide)) (fun c => absurd c (by decide)) (fun c => absurd c (by decide)) (fun c => absurd c (by decide)) (fun c => absurd c (by decide)) (fun _ => h _ M lw_rf (fun Q' h' => sg_331_0 (sr_327 ?_)))
      rw [g]
      refine sg_331_4 (fun c => absurd c (by decide)) (fun _ => sr_327 ?_)
      rw [g2]
      exact sg_331_11 (fun _ => h' M I lw_rf) (fun c => absurd rfl c) (fun c => absurd rfl c) (fun c => absurd rfl c) (fun c => absurd rfl c) (fun c => absurd rfl c) (fun c => absurd rfl c) (fun c => absurd rfl c) (fun c => absurd rfl c) (fun c => absurd rfl c) (fun c => absurd rfl c)
  · refine sg_150_4 (fun c => absurd c (by decide)) (fun _ => h _ M lw_rf (fun Q' h' => sg_331_0 (sr_327 ?_)))
    rw [g]
    exact sg_331_4 (fun _ => h' M I lw_rf) (fun c => absurd rfl c)
end L55
