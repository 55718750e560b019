/-! the first memory -/
theorem IV_0 {M : px_Mem} (hw : ws_C ws_0 29 M) (ro : iv_ro M) (h4 : ∀ i, 1 ≤ i → i ≤ 5 → M.1 4 i = 0) (h57 : ∀ i, i < 5 → M.1 57 i = 0) (h28 : M.1 28 3 = 0) (h38 : M.1 38 8 = 0) (h1 : M.1 1 1 = 0) (h56 : M.1 56 5 = 0) (f1 : M.1 3 1 = M.1 56 12) (f2 : M.1 3 2 = M.1 56 13) (im : ∀ k, k < 3 → M.1 (9 + 2 * k) 6 = 0 ∧ M.1 59 k = 0) (rw_ : ∀ k, k < 4 → M.1 (16 + 2 * k) 1 = 0 ∧ M.1 88 k = -1 ∧ ∀ i, i < 60 → M.2 (17 + 2 * k) i = M.2 90 (60 * k + i)) : IV M := by
  refine ⟨y00, ⟨y00_ok, ⟨?_, ?_, ?_, ?_, ?_, fun e he => absurd he (Nat.not_lt_zero e)⟩, ⟨0, Nat.zero_le _, h28, hw, fun i hi => absurd hi (Nat.not_lt_zero i)⟩, ⟨0, by omega, h38, fun t ht => absurd ht (Nat.not_lt_zero t)⟩, ro⟩, ⟨y00_ok, ⟨?_, ?_, ?_, ?_, ?_, fun e he => absurd he (Nat.not_lt_zero e)⟩⟩, ⟨0, by omega, h1, h56, fun i hi => absurd hi (Nat.not_lt_zero i)⟩, ⟨f1, f2⟩, fun k hk => Or.inl (im k hk), fun k hk => ⟨Or.inl ⟨(rw_ k hk).1, (rw_ k hk).2.1⟩, (rw_ k hk).2.2⟩⟩
  · exact h4 1 (by omega) (by omega)
  · exact h4 2 (by omega) (by omega)
  · exact h4 3 (by omega) (by omega)
  · exact h4 4 (by omega) (by omega)
  · exact h4 5 (by omega) (by omega)
  · exact h57 0 (by omega)
  · exact h57 1 (by omega)
  · exact h57 2 (by omega)
  · exact h57 3 (by omega)
  · exact h57 4 (by omega)
