/-! system: the class -/
def y00 : iv_Y := (0, 0, 0, 0, 0, fun _ => (0, 0, 0, 0))
section Y80
variable {M : px_Mem} {Q : px_Po} {T : tx}
theorem y00_ok : iv_yok y00 := ⟨by show 0 ≤ 3; omega, by show 0 ≤ 10; omega, by show 0 ≤ 40; omega, by show 0 ≤ 30; omega, Or.inl ⟨rfl, rfl, rfl⟩, fun e he => absurd he (Nat.not_lt_zero e)⟩
theorem cs_21 (P : TPc T M) (Ro : iv_ro M) (h : ∀ M', (∀ a, a ≠ 3 → a ≠ 6 → a ≠ 7 → M'.1 a = M.1 a) → M'.2 = M.2 → (∃ k', CS T k' (pL T 43 y00 (stp T 0)).1 M') → ((pL T 43 y00 (stp T 0)).1 = none → iv_yok (pL T 43 y00 (stp T 0)).2 ∧ iv_ac (pL T 43 y00 (stp T 0)).2 = 0 ∧ iv_sc (pL T 43 y00 (stp T 0)).2 6 M') → Q none M') : px_T 0 21 0 [some (.ref 3), some (.ref 6), none] [] M Q := by
  have i6 : px_isS 6 := Or.inr (Or.inl rfl)
  refine sg_21_0 i6 (sg_56_0 i6 (sg_21_4 i6 ?_))
  have fr : ∀ a, a ≠ 3 → a ≠ 6 → (px_wI (px_wI (px_wI (px_wI (px_wI (px_wI (px_wI (px_wI M 6 1 0) 6 2 0) 6 3 0) 6 4 0) 6 5 0) 3 1 0) 3 2 (-1)) 3 5 0).1 a = M.1 a := fun a h1 h2 => by simp (disch := omega) only [me_II, me_Ii, me_Io, me_I2, me_L1, me_Li, me_LL, me_Lo, me_As, me_Ao, me_A2, me_Bs, me_Bo, me_B1]
  have d1 : ∀ i, 1 ≤ i → i ≤ 5 → (px_wI (px_wI (px_wI (px_wI (px_wI (px_wI (px_wI (px_wI M 6 1 0) 6 2 0) 6 3 0) 6 4 0) 6 5 0) 3 1 0) 3 2 (-1)) 3 5 0).1 6 i = 0 := by
    intro i h1 h2
    have h5 : i = 1 ∨ i = 2 ∨ i = 3 ∨ i = 4 ∨ i = 5 := by omega
    rcases h5 with rfl | rfl | rfl | rfl | rfl
    · simp (disch := omega) only [me_II, me_Ii, me_Io, me_I2, me_L1, me_Li, me_LL, me_Lo, me_As, me_Ao, me_A2, me_Bs, me_Bo, me_B1]
    · simp (disch := omega) only [me_II, me_Ii, me_Io, me_I2, me_L1, me_Li, me_LL, me_Lo, me_As, me_Ao, me_A2, me_Bs, me_Bo, me_B1]
    · simp (disch := omega) only [me_II, me_Ii, me_Io, me_I2, me_L1, me_Li, me_LL, me_Lo, me_As, me_Ao, me_A2, me_Bs, me_Bo, me_B1]
    · simp (disch := omega) only [me_II, me_Ii, me_Io, me_I2, me_L1, me_Li, me_LL, me_Lo, me_As, me_Ao, me_A2, me_Bs, me_Bo, me_B1]
    · simp (disch := omega) only [me_II, me_Ii, me_Io, me_I2, me_L1, me_Li, me_LL, me_Lo, me_As, me_Ao, me_A2, me_Bs, me_Bo, me_B1]
  have e31 : (px_wI (px_wI (px_wI (px_wI (px_wI (px_wI (px_wI (px_wI M 6 1 0) 6 2 0) 6 3 0) 6 4 0) 6 5 0) 3 1 0) 3 2 (-1)) 3 5 0).1 3 1 = 0 := by simp (disch := omega) only [me_II, me_Ii, me_Io, me_I2, me_L1, me_Li, me_LL, me_Lo, me_As, me_Ao, me_A2, me_Bs, me_Bo, me_B1]
  have e32 : (px_wI (px_wI (px_wI (px_wI (px_wI (px_wI (px_wI (px_wI M 6 1 0) 6 2 0) 6 3 0) 6 4 0) 6 5 0) 3 1 0) 3 2 (-1)) 3 5 0).1 3 2 = -1 := by simp (disch := omega) only [me_II, me_Ii, me_Io, me_I2, me_L1, me_Li, me_LL, me_Lo, me_As, me_Ao, me_A2, me_Bs, me_Bo, me_B1]
  have e35 : (px_wI (px_wI (px_wI (px_wI (px_wI (px_wI (px_wI (px_wI M 6 1 0) 6 2 0) 6 3 0) 6 4 0) 6 5 0) 3 1 0) 3 2 (-1)) 3 5 0).1 3 5 = 0 := by simp (disch := omega) only [me_II, me_Ii, me_Io, me_I2, me_L1, me_Li, me_LL, me_Lo, me_As, me_Ao, me_A2, me_Bs, me_Bo, me_B1]
  have e2 : (px_wI (px_wI (px_wI (px_wI (px_wI (px_wI (px_wI (px_wI M 6 1 0) 6 2 0) 6 3 0) 6 4 0) 6 5 0) 3 1 0) 3 2 (-1)) 3 5 0).2 = M.2 := rfl
  generalize px_wI (px_wI (px_wI (px_wI (px_wI (px_wI (px_wI (px_wI M 6 1 0) 6 2 0) 6 3 0) 6 4 0) 6 5 0) 3 1 0) 3 2 (-1)) 3 5 0 = N at fr d1 e31 e32 e35 e2 ⊢
  have P1 : TPc T N := by
    unfold TPc
    rw [fr 1 (by omega) (by omega), fr 2 (by omega) (by omega)]
    exact P
  refine sc_30 (sp := 0) P1 (Nat.zero_le _) e35 (fun M1 k1 K1 => sg_21_23 i6 ?_)
  have S : CS T (stp T 0) none M1 := ⟨TPc_fr P1 k1, K1, stp_w (Nat.zero_le _), iv_ro_fr Ro (fun a ha => by rw [k1.1 a (by omega)]; exact fr a (by omega) (by omega)), ⟨by rw [k1.2.1 1 (by omega)]; exact e31, by rw [k1.2.1 2 (by omega)]; exact e32⟩⟩
  refine cs_21l (M0 := M) h 43 y00 (stp T 0) M1 rfl (fun a a3 a6 _ => by rw [k1.1 a a3]; exact fr a a3 a6) (by rw [k1.2.2, e2]) S y00_ok rfl ?_ rfl
  refine ⟨?_, ?_, ?_, ?_, ?_, fun e he => absurd he (Nat.not_lt_zero e)⟩
  · rw [k1.1 6 (by omega), d1 1 (by omega) (by omega)]; rfl
  · rw [k1.1 6 (by omega), d1 2 (by omega) (by omega)]; rfl
  · rw [k1.1 6 (by omega), d1 3 (by omega) (by omega)]; rfl
  · rw [k1.1 6 (by omega), d1 4 (by omega) (by omega)]; rfl
  · rw [k1.1 6 (by omega), d1 5 (by omega) (by omega)]; rfl
end Y80
