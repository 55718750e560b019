theorem me_II {M : px_Mem} {a i : Nat} {x : Int32} : (px_wI M a i x).1 a i = x := by
  show va_up M.1 a _ a i = x
  rw [va_up_self]
  exact px_upd_self
theorem me_Ii {M : px_Mem} {a i j : Nat} {x : Int32} (h : j ≠ i) : (px_wI M a i x).1 a j = M.1 a j := by
  show va_up M.1 a _ a j = _
  rw [va_up_self]
  exact px_upd_ne h
theorem me_Io {M : px_Mem} {a b i : Nat} {x : Int32} (h : b ≠ a) : (px_wI M a i x).1 b = M.1 b := va_up_ne _ _ h
theorem me_Is {M : px_Mem} {a i : Nat} {x : Int32} : (px_wI M a i x).1 a = upd (M.1 a) i x := va_up_self _ _ _
theorem me_I2 {M : px_Mem} {a i : Nat} {x : Int32} : (px_wI M a i x).2 = M.2 := rfl
theorem me_Ls {M : px_Mem} {a i : Nat} {x : Int64} : (px_wL M a i x).2 a = vp_updL (M.2 a) i x := va_up_self _ _ _
theorem me_Lo {M : px_Mem} {a b i : Nat} {x : Int64} (h : b ≠ a) : (px_wL M a i x).2 b = M.2 b := va_up_ne _ _ h
theorem me_L1 {M : px_Mem} {a i : Nat} {x : Int64} : (px_wL M a i x).1 = M.1 := rfl
theorem me_LL {M : px_Mem} {a i : Nat} {x : Int64} : (px_wL M a i x).2 a i = x := by
  rw [me_Ls]
  exact px_updL_self
theorem me_Li {M : px_Mem} {a i j : Nat} {x : Int64} (h : j ≠ i) : (px_wL M a i x).2 a j = M.2 a j := by
  rw [me_Ls]
  exact px_updL_ne h
theorem me_As {M : px_Mem} {a : Nat} {f : Nat → Int32} : (px_aI M a f).1 a = f := va_up_self _ _ _
theorem me_Ao {M : px_Mem} {a b : Nat} {f : Nat → Int32} (h : b ≠ a) : (px_aI M a f).1 b = M.1 b := va_up_ne _ _ h
theorem me_A2 {M : px_Mem} {a : Nat} {f : Nat → Int32} : (px_aI M a f).2 = M.2 := rfl
theorem me_Bs {M : px_Mem} {a : Nat} {f : Nat → Int64} : (px_aL M a f).2 a = f := va_up_self _ _ _
theorem me_Bo {M : px_Mem} {a b : Nat} {f : Nat → Int64} (h : b ≠ a) : (px_aL M a f).2 b = M.2 b := va_up_ne _ _ h
theorem me_B1 {M : px_Mem} {a : Nat} {f : Nat → Int64} : (px_aL M a f).1 = M.1 := rfl
/-- all but the places of S are as they were -/
def me_fr (S : List Nat) (M M' : px_Mem) : Prop := ∀ a, a ∉ S → M'.1 a = M.1 a ∧ M'.2 a = M.2 a
theorem me_fr_rf {S : List Nat} {M : px_Mem} : me_fr S M M := fun _ _ => ⟨rfl, rfl⟩
theorem me_fr_tr {S : List Nat} {M M' M2 : px_Mem} (h : me_fr S M M') (h2 : me_fr S M' M2) : me_fr S M M2 := fun a ha => ⟨(h2 a ha).1.trans (h a ha).1, (h2 a ha).2.trans (h a ha).2⟩
theorem me_fr_mono {S S' : List Nat} {M M' : px_Mem} (h : me_fr S M M') (hs : ∀ a, a ∈ S → a ∈ S') : me_fr S' M M' := fun a ha => h a (fun q => ha (hs a q))
theorem me_fr_I {S : List Nat} {M M' : px_Mem} {a i : Nat} {x : Int32} (h : me_fr S M M') (ha : a ∈ S) : me_fr S M (px_wI M' a i x) := fun b hb => ⟨by rw [me_Io (fun e => hb (by rw [e]; exact ha))]; exact (h b hb).1, (h b hb).2⟩
theorem me_fr_L {S : List Nat} {M M' : px_Mem} {a i : Nat} {x : Int64} (h : me_fr S M M') (ha : a ∈ S) : me_fr S M (px_wL M' a i x) := fun b hb => ⟨(h b hb).1, by rw [me_Lo (fun e => hb (by rw [e]; exact ha))]; exact (h b hb).2⟩
theorem me_fr_A {S : List Nat} {M M' : px_Mem} {a : Nat} {f : Nat → Int32} (h : me_fr S M M') (ha : a ∈ S) : me_fr S M (px_aI M' a f) := fun b hb => ⟨by rw [me_Ao (fun e => hb (by rw [e]; exact ha))]; exact (h b hb).1, (h b hb).2⟩
theorem me_fr_B {S : List Nat} {M M' : px_Mem} {a : Nat} {f : Nat → Int64} (h : me_fr S M M') (ha : a ∈ S) : me_fr S M (px_aL M' a f) := fun b hb => ⟨(h b hb).1, by rw [me_Bo (fun e => hb (by rw [e]; exact ha))]; exact (h b hb).2⟩
theorem me_ext {M M' : px_Mem} (h1 : ∀ a, M.1 a = M'.1 a) (h2 : ∀ a, M.2 a = M'.2 a) : M = M' := Prod.ext (funext h1) (funext h2)
/-- filling a whole row -/
theorem me_vin {i n : Nat} (h : i < n) (hn : n < 2 ^ 31) : vp_in (nI i) n := vp_in_nI h hn
