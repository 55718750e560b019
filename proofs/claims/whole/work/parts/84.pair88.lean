/-! system: the pair -/
theorem pr_88 : PR 88 [some (.ref 0)] 206 [some (.ref 56), none] := by
  intro M Q I h
  obtain ⟨y, C, R, ⟨t, t1, t2, t3, t4⟩, V2, V3, V4⟩ := I
  have Ro := C.2.2.2.2
  have hv : ∀ i, i < t → (M.1 2 i).toNatClampNeg < 256 ∧ M.1 2 i = nI (M.1 2 i).toNatClampNeg ∧ M.1 60 i = (nI (M.1 2 i).toNatClampNeg).toInt8.toInt32 := by
    intro i hi
    obtain ⟨v, v1, v2, v3⟩ := t4 i hi
    have e : (M.1 2 i).toNatClampNeg = v := by rw [v2, in_cl (by omega)]
    rw [e]
    exact ⟨v1, v2, v3⟩
  generalize hvv : (fun i => (M.1 2 i).toNatClampNeg) = v
  have hv2 : ∀ i, (M.1 2 i).toNatClampNeg = v i := fun i => by rw [← hvv]
  have P : TPc (v, t) M := ⟨t2, t1, fun i hi => by
    have h9 := hv i hi
    rw [hv2] at h9
    exact ⟨h9.1, h9.2.1⟩⟩
  refine sg_88_0 (cs_21 P Ro (fun M1 k1 k2 k3 k4 => ?_))
  obtain ⟨k', S⟩ := k3
  have F := S.2.2.2.2
  -- what the reference meets
  have hr60 : ∀ N : px_Mem, N.1 60 = M.1 60 → ∀ i, i < t → v i < 256 ∧ N.1 60 i = (nI (v i)).toInt8.toInt32 := by
    intro N hN i hi
    have h9 := hv i hi
    rw [hv2] at h9
    rw [hN]
    exact ⟨h9.1, h9.2.2⟩
  cases hG : (pL (v, t) 43 y00 (stp (v, t) 0)).1 with
  | some x =>
    rw [hG] at F
    have f31 : M1.1 3 1 = nI x.1 := F.2.2.2.1
    have f32 : M1.1 3 2 = nI x.2 := F.2.2.2.2
    have n0 : ¬ M1.1 3 1 = 0 := by
      rw [f31, show (0 : Int32) = nI 0 from rfl, in_eq (by have := F.2.1; omega) (by omega)]
      exact F.1
    refine sg_88_11 (fun q => absurd q n0) (fun _ => h _ _ ⟨by rw [me_Io (by omega)]; exact k1 999 (by omega) (by omega) (by omega), by rw [me_Io (by omega)]; exact k1 1000 (by omega) (by omega) (by omega)⟩ (fun Q' h' => ?_))
    have fr : ∀ a, a ≠ 1 → a ≠ 3 → a ≠ 6 → a ≠ 7 → (px_wI M1 1 1 0).1 a = M.1 a := fun a a1 a3 a6 a7 => by rw [me_Io a1]; exact k1 a a3 a6 a7
    refine rs_206 (v := v) (t := t) (iv_ro_fr Ro (fun a ha => fr a (by omega) (by omega) (by omega) (by omega))) t1 (by rw [fr 56 (by omega) (by omega) (by omega) (by omega)]; exact t3) (hr60 _ (fr 60 (by omega) (by omega) (by omega) (by omega))) (fun M2 z hz q4 e57 FRx => ?_) (fun M2 hz _ _ _ => ?_)
    · rw [hG] at hz
      injection hz with hz
      subst hz
      have f2 : ∀ a, a ≠ 1 → a ≠ 3 → a ≠ 6 → a ≠ 7 → a ≠ 56 → a ≠ 57 → a ≠ 62 → M2.1 a = M.1 a := fun a a1 a3 a6 a7 a56 a57 a62 => by rw [q4.1 a a56 a57 a62]; exact fr a a1 a3 a6 a7
      have fL : M2.2 = M.2 := by rw [q4.2.2.1]; exact k2
      refine h' M2 ⟨y, ic_fr C (fun a ha => f2 a (by omega) (by omega) (by omega) (by omega) (by omega) (by omega) (by omega)) (fun a _ => by rw [fL]), ⟨R.1, iv_sr_fr R.2 (by rw [e57]; exact fr 57 (by omega) (by omega) (by omega) (by omega))⟩, ⟨0, by omega, ?_, ?_, fun i hi => absurd hi (Nat.not_lt_zero i)⟩, ⟨?_, ?_⟩, ?_, ?_⟩ ⟨f2 999 (by omega) (by omega) (by omega) (by omega) (by omega) (by omega) (by omega), f2 1000 (by omega) (by omega) (by omega) (by omega) (by omega) (by omega) (by omega)⟩
      · rw [q4.1 1 (by omega) (by omega) (by omega), me_II]; rfl
      · rw [q4.2.2.2]; rfl
      · rw [q4.1 3 (by omega) (by omega) (by omega), me_Io (by omega), f31, FRx.2.2.1]
      · rw [q4.1 3 (by omega) (by omega) (by omega), me_Io (by omega), f32, FRx.2.2.2]
      · exact iv_img_fr V3 (fun a h1 h2 => f2 a (by omega) (by omega) (by omega) (by omega) (by omega) (by omega) (by omega)) (f2 58 (by omega) (by omega) (by omega) (by omega) (by omega) (by omega) (by omega)) (f2 59 (by omega) (by omega) (by omega) (by omega) (by omega) (by omega) (by omega))
      · exact iv_rows_fr V4 (fun a h1 h2 => ⟨f2 a (by omega) (by omega) (by omega) (by omega) (by omega) (by omega) (by omega), by rw [fL]⟩) (f2 88 (by omega) (by omega) (by omega) (by omega) (by omega) (by omega) (by omega)) (f2 89 (by omega) (by omega) (by omega) (by omega) (by omega) (by omega) (by omega)) (by rw [fL])
    · rw [hG] at hz
      simp at hz
  | none =>
    rw [hG] at F
    obtain ⟨Y, A, D⟩ := k4 hG
    have hn := iv_yn Y
    have f31 : M1.1 3 1 = 0 := F.1
    have f32 : M1.1 3 2 = -1 := F.2
    have D1 : iv_sc (pL (v, t) 43 y00 (stp (v, t) 0)).2 6 (px_wI M1 1 1 0) := iv_sc_fr D (by simp (disch := omega) only [me_II, me_Ii, me_Io, me_I2, me_L1, me_Li, me_LL, me_Lo, me_As, me_Ao, me_A2, me_Bs, me_Bo, me_B1]) (by simp (disch := omega) only [me_II, me_Ii, me_Io, me_I2, me_L1, me_Li, me_LL, me_Lo, me_As, me_Ao, me_A2, me_Bs, me_Bo, me_B1])
    refine sg_88_11 (fun _ => ?_) (fun q => absurd f31 q)
    refine sp_57 (o := 4) (q := 6) (Or.inl rfl) (Or.inr (Or.inl rfl)) (by omega) (fun M2 j1 j2 j3 j4 => sg_88_43 ?_)
    have D2 := j3 _ D1 hn
    refine sc_163 (fun M3 l1 l2 => sg_88_47 ?_)
    have D3 : iv_sc (pL (v, t) 43 y00 (stp (v, t) 0)).2 4 M3 := iv_sc_fr D2 (l1 4 (by omega)).1 (l1 5 (by omega)).1
    rw [D3.1]
    refine h _ M3 ⟨by rw [(l1 999 (by omega)).1, j1 999 (by omega) (by omega), me_Io (by omega)]; exact k1 999 (by omega) (by omega) (by omega), by rw [(l1 1000 (by omega)).1, j1 1000 (by omega) (by omega), me_Io (by omega)]; exact k1 1000 (by omega) (by omega) (by omega)⟩ (fun Q' h' => ?_)
    have fr : ∀ a, a ≠ 1 → a ≠ 3 → a ≠ 4 → a ≠ 5 → a ≠ 6 → a ≠ 7 → (a < 28 ∨ 39 ≤ a) → M3.1 a = M.1 a := fun a a1 a3 a4 a5 a6 a7 a8 => by rw [(l1 a a8).1, j1 a a4 a5, me_Io a1]; exact k1 a a3 a6 a7
    have frL : ∀ a, (a < 28 ∨ 39 ≤ a) → M3.2 a = M.2 a := fun a a8 => by
      rw [(l1 a a8).2, j2]
      show M1.2 a = M.2 a
      rw [k2]
    refine rs_206 (v := v) (t := t) (iv_ro_fr Ro (fun a ha => fr a (by omega) (by omega) (by omega) (by omega) (by omega) (by omega) (by omega))) t1 (by rw [fr 56 (by omega) (by omega) (by omega) (by omega) (by omega) (by omega) (by omega)]; exact t3) (hr60 _ (fr 60 (by omega) (by omega) (by omega) (by omega) (by omega) (by omega) (by omega))) (fun M4 z hz _ _ _ => ?_) (fun M4 hz q4 FRx D4 => ?_)
    · rw [hG] at hz
      simp at hz
    · have f2 : ∀ a, a ≠ 56 → a ≠ 57 → a ≠ 62 → M4.1 a = M3.1 a := fun a a1 a2 a3 => q4.1 a a1 a2 a3
      have f3 : ∀ a, (a = 2 ∨ (8 ≤ a ∧ a < 28) ∨ (58 ≤ a ∧ a < 62) ∨ 63 ≤ a) → M4.1 a = M.1 a := fun a ha => by rw [f2 a (by omega) (by omega) (by omega)]; exact fr a (by omega) (by omega) (by omega) (by omega) (by omega) (by omega) (by omega)
      have fL : ∀ a, (a < 28 ∨ 39 ≤ a) → M4.2 a = M.2 a := fun a ha => by rw [q4.2.2.1]; exact frL a ha
      have C4 : ic (pL (v, t) 43 y00 (stp (v, t) 0)).2 M4 := by
        refine ⟨Y, iv_sc_fr D3 (f2 4 (by omega) (by omega) (by omega)) (f2 5 (by omega) (by omega) (by omega)), ⟨0, Nat.zero_le _, fl_at_w (l2 _).1 (fun a ha => f2 a (by omega) (by omega) (by omega))⟩, ?_, iv_ro_fr Ro (fun a ha => f3 a (by omega))⟩
        exact iv_shp_fr (l2 _).2 (by rw [f2 38 (by omega) (by omega) (by omega)]) (f2 42 (by omega) (by omega) (by omega)) (fun t _ => by rw [q4.2.2.1]) hn
      refine h' M4 ⟨_, C4, ⟨Y, D4⟩, ⟨0, by omega, ?_, ?_, fun i hi => absurd hi (Nat.not_lt_zero i)⟩, ⟨?_, ?_⟩, ?_, ?_⟩ ⟨f3 999 (by omega), f3 1000 (by omega)⟩
      · rw [f2 1 (by omega) (by omega) (by omega), (l1 1 (by omega)).1, j1 1 (by omega) (by omega), me_II]; rfl
      · rw [q4.2.2.2]; rfl
      · rw [f2 3 (by omega) (by omega) (by omega), (l1 3 (by omega)).1, j1 3 (by omega) (by omega), me_Io (by omega), f31, FRx.1]
      · rw [f2 3 (by omega) (by omega) (by omega), (l1 3 (by omega)).1, j1 3 (by omega) (by omega), me_Io (by omega), f32, FRx.2]
      · exact iv_img_fr V3 (fun a h1 h2 => f3 a (by omega)) (f3 58 (by omega)) (f3 59 (by omega))
      · exact iv_rows_fr V4 (fun a h1 h2 => ⟨f3 a (by omega), fL a (by omega)⟩) (f3 88 (by omega)) (f3 89 (by omega)) (fL 90 (by omega))
