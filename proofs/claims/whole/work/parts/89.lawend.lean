/-! the law's end -/
theorem law_rt {p : Program} {l : Launch} {e : Env} {s : State} {m : MethodId} {below : List Frame} {meth : Method} {c : Code} {b : Nat} {D : va_G} {cA : Nat → ClassId} {ar : Nat → Nat} {fv : Value} {ro : Nat → Nat → Int32} {A : Nat → Prop} (hx : p.tables.exec = Jvm.exec) (hb : c.code = code) (hr : meth.sig.returnType = ret) (hlocks : meth.locks = false) (hA : ∀ q, A q → s.heap.size ≤ q) : px_Rt p l e room_1 s m #[Value.ref b] below meth c 600000 7302250 (lw_Z below #[Value.ref b] s) 0 342 D cA ar fv ro A (fun r _ => r = some (.int 1)) := by
  intro r M pc jls H locs hQ hP hD hS hR he
  subst hQ
  refine va_forget (fun q hq => hA _ (hS.2.2 q hq)) (lw_ret hx hb hr hlocks ?_)
  rcases he with ⟨v, _, hd, _⟩ | ⟨v, h9, _⟩ | ⟨v, h9, _⟩ | ⟨h9, _⟩
  · exact hd
  · cases h9
  · cases h9
  · cases h9
/-- from the loop's head on, in a memory with IV -/
theorem law_18 {p : Program} {l : Launch} {e : Env} {s : State} {m : MethodId} {below : List Frame} {meth : Method} {c : Code} {b L : Nat} {D : va_G} {cA : Nat → ClassId} {ar : Nat → Nat} {fv : Value} {ro : Nat → Nat → Int32} {A : Nat → Prop} {M : px_Mem} (hL : L ≤ 3072) (C : px_Cx p room_1 s m #[Value.ref b] c 600000 7302250 0 342 D cA ar fv ro A L) (hb : c.code = code) (hr : meth.sig.returnType = ret) (hlocks : meth.locks = false) (hA : ∀ q, A q → s.heap.size ≤ q) (I : IV M) (h9 : M.1 999 0 = nI L) : px_G p l e room_1 s m #[Value.ref b] below meth c 600000 7302250 (lw_Z below #[Value.ref b] s) 0 342 D cA ar fv ro A 18 (lc_l (nI 0)) [] M := by
  have hfv : fv = .null ∨ ∃ t, fv = .ref t := C.2.2.2.2.2.2.2.2.2
  obtain ⟨n, h⟩ := law_go (Q := fun r _ => r = some (.int 1)) (L := L) (by omega) (fun _ _ => rfl) (L + 1) 0 M (by omega) (by omega) h9 I
  exact px_sound hfv n p e room_1 s m _ below meth c _ _ _ 342 18 _ _ M _ h (by decide) C (law_rt C.1 hb hr hlocks hA)
