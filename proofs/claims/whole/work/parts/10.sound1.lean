def px_ro (ro : Nat → Nat → Int32) (M : px_Mem) : Prop := ∀ a, 163 ≤ a → M.1 a = ro a
def px_STb (ar : Nat → Nat) (fv : Value) (ro : Nat → Nat → Int32) (A : Nat → Prop) (Lx : Nat) (U : State) (H : Heap) : Prop :=
  (va_Z "FrozenTrees$Code" "NUMBERS" "[I" (.ref (ar 1001)) A U H ∧ va_T .int (ar 1001) 10 (fun j => .int (ro 1001 j)) A U H) ∧
  (va_Z "FrozenTrees" "ORDERS" "[I" (.ref (ar 1002)) A U H ∧ va_T .int (ar 1002) 6 (fun j => .int (ro 1002 j)) A U H) ∧
  (va_Z "java/lang/String" "COMPACT_STRINGS" "Z" (.int 1) A U H ∧ va_Z "jdk/internal/util/Preconditions" "SIOOBE_FORMATTER" "Ljava/util/function/BiFunction;" fv A U H) ∧
  (∀ i, i < 14 → va_O "java/lang/String" (ar (1100 + i)) A U H ∧ va_OF "java/lang/String" "coder" "B" (.int (ro (1100 + i) 1)) (ar (1100 + i)) A U H ∧ va_OF "java/lang/String" "value" "[B" (.ref (ar (1200 + i))) (ar (1100 + i)) A U H ∧ va_T .byte (ar (1200 + i)) (px_str.getD i []).length (fun j => .int (ro (1200 + i) j)) A U H) ∧
  (∀ own cp t pl, px_ksk own cp = some (t, pl) → vk_R (px_cn own) cp (px_txt.getD t "") (ar (1100 + t)) U) ∧
  (∀ e ∈ px_nest, va_Nw (.methodLinkNest (px_cn e.1) e.2.1 (px_yn e.2.2) "FrozenTrees") U) ∧
  (va_X (ar 1000) Lx (ro 1000) U H ∧ ¬ A (ar 1000) ∧ ar 1000 < H.size ∧ ro 999 0 = Int32.ofNat Lx ∧ Lx ≤ 3072)
def px_ST (g : Nat) (ar : Nat → Nat) (fv : Value) (ro : Nat → Nat → Int32) (A : Nat → Prop) (Lx : Nat) (U : State) (H : Heap) : Prop := g = 0 → px_STb ar fv ro A Lx U H
theorem px_ST_mv {g : Nat} {ar : Nat → Nat} {fv : Value} {ro : Nat → Nat → Int32} {A : Nat → Prop} {Lx : Nat} {u U : State} {H H1 : Heap} (hvm : u.vm.Alike U.vm) (hr : ∀ own cp tx a, vk_R own cp tx a u → vk_R own cp tx a U) (hn : ∀ own cp y h, va_Nw (.methodLinkNest own cp y h) u → va_Nw (.methodLinkNest own cp y h) U) (hz : H.size ≤ H1.size) (hq : ∀ a : Nat, a < H.size → ¬ A a → H1[a]? = H[a]?) (h : px_ST g ar fv ro A Lx u H) : px_ST g ar fv ro A Lx U H1 := by
  intro hg
  obtain ⟨⟨a1, a2⟩, ⟨b1, b2⟩, ⟨c1, c2⟩, d1, e1, f1, ⟨x1, x2, x3, x4⟩⟩ := h hg
  refine ⟨⟨(a1.moved hvm).kept hq, (a2.moved hvm).kept hq⟩, ⟨(b1.moved hvm).kept hq, (b2.moved hvm).kept hq⟩, ⟨(c1.moved hvm).kept hq, (c2.moved hvm).kept hq⟩, fun i hi => ?_, fun own cp t pl h => hr _ _ _ _ (e1 own cp t pl h), fun e he => hn _ _ _ _ (f1 e he), ⟨(x1.moved hvm).kept (hq _ x3 x2), x2, Nat.lt_of_lt_of_le x3 hz, x4⟩⟩
  obtain ⟨d2, d3, d4, d5⟩ := d1 i hi
  exact ⟨(d2.moved hvm).kept hq, (d3.moved hvm).kept hq, (d4.moved hvm).kept hq, (d5.moved hvm).kept hq⟩
theorem px_ST_warm {g : Nat} {ar : Nat → Nat} {fv : Value} {ro : Nat → Nat → Int32} {A : Nat → Prop} {Lx : Nat} {s U : State} {H1 : Heap} (hW : s.WarmedH U.vm) (hz : s.heap.size ≤ H1.size) (hq : ∀ a : Nat, a < s.heap.size → ¬ A a → H1[a]? = s.heap[a]?) (h : px_ST g ar fv ro A Lx s s.heap) : px_ST g ar fv ro A Lx U H1 :=
  px_ST_mv hW.alike (fun _ _ _ _ h => vk_R.warm hW h) (fun _ _ _ _ h => va_Nw.warmM hW h) hz hq h
theorem px_ST_same {g : Nat} {ar : Nat → Nat} {fv : Value} {ro : Nat → Nat → Int32} {A : Nat → Prop} {Lx : Nat} {u U : State} {H : Heap} (hv : U.vm = u.vm) (h : px_ST g ar fv ro A Lx u H) : px_ST g ar fv ro A Lx U H :=
  px_ST_mv (by rw [hv]; exact Vm.Alike.refl u.vm) (fun _ _ _ _ h => vk_R.same hv h) (fun _ _ _ _ h => va_Nw.same rfl hv.symm h) (Nat.le_refl _) (fun _ _ _ => rfl) h
def px_Iv (g : Nat) (D : va_G) (cA : Nat → ClassId) (ar : Nat → Nat) (fv : Value) (ro : Nat → Nat → Int32) (A : Nat → Prop) (Lx : Nat) (M : px_Mem) (U : State) : Prop := va_P D px_cls (px_ws g ar cA M) U.heap ∧ va_K D px_cls (px_tys g cA) U ∧ va_D A (px_ws g ar cA M) ∧ px_ro ro M ∧ px_ST g ar fv ro A Lx U U.heap
def px_Qc (g : Nat) (D : va_G) (cA : Nat → ClassId) (ar : Nat → Nat) (fv : Value) (ro : Nat → Nat → Int32) (A : Nat → Prop) (Lx : Nat) (Q : px_Po) : Array Value → State → Outcome → State → Prop := fun _ st o t => (∃ (r : Option Value) (M : px_Mem), o = .returned (r.map (px_cv fv ar)) ∧ Q r M ∧ px_Iv g D cA ar fv ro A Lx M t) ∧ va_F A st t
def px_rm (y : Nat) : Room := { frames := px_nf y, cells := 0, slots := 0, locals := px_nl y }
def px_wsy (y : Nat) : List Cond := .code (px_yn y) (px_by y) (px_ml y) (px_rty (px_rt y)) :: px_gw
def px_Mt (l : Launch) (g : Nat) (D : va_G) (cA : Nat → ClassId) (ar : Nat → Nat) (fv : Value) (ro : Nat → Nat → Int32) (A : Nat → Prop) (Lx : Nat) (y : Nat) (vs : List Value) (M : px_Mem) (Q : px_Po) : Prop := Met l (px_yn y) (px_wsy y) (px_rm y) (va_Pc (vs.map (px_cv fv ar)) (px_Iv g D cA ar fv ro A Lx M)) (px_Qc g D cA ar fv ro A Lx Q) 0 0 A
def px_Cx (p : Program) (R : Room) (s : State) (m : MethodId) (args : Array Value) (c : Code) (cells slots g k : Nat) (D : va_G) (cA : Nat → ClassId) (ar : Nat → Nat) (fv : Value) (ro : Nat → Nat → Int32) (A : Nat → Prop) (Lx : Nat) : Prop :=
  p.tables.exec = Jvm.exec ∧ c.code = px_by k ∧ c.maxLocals = px_ml k ∧ s.vm.findClass (px_cn (px_ow k)) = some m.cls ∧ (∀ w ∈ px_gw, w.before args s = true) ∧ (px_nf k ≤ R.frames ∧ px_nl k ≤ R.locals) ∧ (cells ≤ R.cells ∧ slots ≤ R.slots) ∧ va_K D px_cls (px_tys g cA) s ∧ px_ST g ar fv ro A Lx s s.heap ∧ (fv = .null ∨ ∃ t, fv = .ref t)
def px_G (p : Program) (l : Launch) (e : Env) (R : Room) (s : State) (m : MethodId) (args : Array Value) (below : List Frame) (meth : Method) (c : Code) (cells slots : Nat) (Qm : State → Prop) (g k : Nat) (D : va_G) (cA : Nat → ClassId) (ar : Nat → Nat) (fv : Value) (ro : Nat → Nat → Int32) (A : Nat → Prop) (pc : Nat) (ls : px_Lo) (st : List Value) (M : px_Mem) : Prop :=
  ∀ (H : Heap) (locs : List Loc) (jls : Array Slot), va_P D px_cls (px_ws g ar cA M) H → va_D A (px_ws g ar cA M) → va_S A s.heap H locs → px_ro ro M → lv_has jls (px_ml k) (px_lvs fv ar ls) → px_wfp k ls → W p l e R s m args below meth c H locs cells slots Qm (F0 m pc jls (st.map (px_cv fv ar)))
theorem px_fcat {fv : Value} (h : fv = .null ∨ ∃ t, fv = .ref t) : fv.category = 1 := by
  rcases h with rfl | ⟨t, rfl⟩ <;> rfl
theorem px_sh_ne {g a : Nat} {x : Nat ⊕ (Nat × Nat)} (h : px_sh g a = some x) : a ≠ 1003 := by
  intro e
  subst e
  have h0 := px_sh_0 h
  have h1 : px_sh0 1003 = none := by decide +kernel
  rw [h1] at h0
  cases h0
theorem px_jt_ok {pc : Nat} {off : Int} (h : 0 ≤ (pc : Int) + off) : (pc : Int) + off = (px_jt pc off : Int) := (Int.toNat_of_nonneg h).symm
section PXS
variable {p : Program} {l : Launch} {e : Env} {R : Room} {s : State} {m : MethodId} {args : Array Value} {below : List Frame} {meth : Method} {c : Code} {cells slots : Nat} {Qm : State → Prop} {g k : Nat} {D : va_G} {cA : Nat → ClassId} {ar : Nat → Nat} {fv : Value} {ro : Nat → Nat → Int32} {A : Nat → Prop} {Lx : Nat} {pc : Nat} {ls : px_Lo} {M : px_Mem} {r : List Value}
theorem px_x_iadd {x y : Int32} (C : px_Cx p R s m args c cells slots g k D cA ar fv ro A Lx) (hd : decode (px_by k) pc = .ok (.iadd, 1)) (h : px_G p l e R s m args below meth c cells slots Qm g k D cA ar fv ro A (pc + 1) (ls) (.int (x + y) :: r) (M)) : px_G p l e R s m args below meth c cells slots Qm g k D cA ar fv ro A (pc) (ls) (.int y :: .int x :: r) (M) := fun H locs jls hP hD hS hR hl hw => lv_iadd C.1 C.2.1 hd (h H locs jls hP hD hS hR hl hw)
theorem px_x_isub {x y : Int32} (C : px_Cx p R s m args c cells slots g k D cA ar fv ro A Lx) (hd : decode (px_by k) pc = .ok (.isub, 1)) (h : px_G p l e R s m args below meth c cells slots Qm g k D cA ar fv ro A (pc + 1) (ls) (.int (x - y) :: r) (M)) : px_G p l e R s m args below meth c cells slots Qm g k D cA ar fv ro A (pc) (ls) (.int y :: .int x :: r) (M) := fun H locs jls hP hD hS hR hl hw => lv_isub C.1 C.2.1 hd (h H locs jls hP hD hS hR hl hw)
theorem px_x_imul {x y : Int32} (C : px_Cx p R s m args c cells slots g k D cA ar fv ro A Lx) (hd : decode (px_by k) pc = .ok (.imul, 1)) (h : px_G p l e R s m args below meth c cells slots Qm g k D cA ar fv ro A (pc + 1) (ls) (.int (x * y) :: r) (M)) : px_G p l e R s m args below meth c cells slots Qm g k D cA ar fv ro A (pc) (ls) (.int y :: .int x :: r) (M) := fun H locs jls hP hD hS hR hl hw => lv_imul C.1 C.2.1 hd (h H locs jls hP hD hS hR hl hw)
theorem px_x_iand {x y : Int32} (C : px_Cx p R s m args c cells slots g k D cA ar fv ro A Lx) (hd : decode (px_by k) pc = .ok (.iand, 1)) (h : px_G p l e R s m args below meth c cells slots Qm g k D cA ar fv ro A (pc + 1) (ls) (.int (x &&& y) :: r) (M)) : px_G p l e R s m args below meth c cells slots Qm g k D cA ar fv ro A (pc) (ls) (.int y :: .int x :: r) (M) := fun H locs jls hP hD hS hR hl hw => lv_iand C.1 C.2.1 hd (h H locs jls hP hD hS hR hl hw)
theorem px_x_ior {x y : Int32} (C : px_Cx p R s m args c cells slots g k D cA ar fv ro A Lx) (hd : decode (px_by k) pc = .ok (.ior, 1)) (h : px_G p l e R s m args below meth c cells slots Qm g k D cA ar fv ro A (pc + 1) (ls) (.int (x ||| y) :: r) (M)) : px_G p l e R s m args below meth c cells slots Qm g k D cA ar fv ro A (pc) (ls) (.int y :: .int x :: r) (M) := fun H locs jls hP hD hS hR hl hw => lv_ior C.1 C.2.1 hd (h H locs jls hP hD hS hR hl hw)
theorem px_x_ixor {x y : Int32} (C : px_Cx p R s m args c cells slots g k D cA ar fv ro A Lx) (hd : decode (px_by k) pc = .ok (.ixor, 1)) (h : px_G p l e R s m args below meth c cells slots Qm g k D cA ar fv ro A (pc + 1) (ls) (.int (x ^^^ y) :: r) (M)) : px_G p l e R s m args below meth c cells slots Qm g k D cA ar fv ro A (pc) (ls) (.int y :: .int x :: r) (M) := fun H locs jls hP hD hS hR hl hw => lv_ixor C.1 C.2.1 hd (h H locs jls hP hD hS hR hl hw)
theorem px_x_ishl {x y : Int32} (C : px_Cx p R s m args c cells slots g k D cA ar fv ro A Lx) (hd : decode (px_by k) pc = .ok (.ishl, 1)) (h : px_G p l e R s m args below meth c cells slots Qm g k D cA ar fv ro A (pc + 1) (ls) (.int (x <<< (y &&& 31)) :: r) (M)) : px_G p l e R s m args below meth c cells slots Qm g k D cA ar fv ro A (pc) (ls) (.int y :: .int x :: r) (M) := fun H locs jls hP hD hS hR hl hw => lv_ishl C.1 C.2.1 hd (h H locs jls hP hD hS hR hl hw)
theorem px_x_ishr {x y : Int32} (C : px_Cx p R s m args c cells slots g k D cA ar fv ro A Lx) (hd : decode (px_by k) pc = .ok (.ishr, 1)) (h : px_G p l e R s m args below meth c cells slots Qm g k D cA ar fv ro A (pc + 1) (ls) (.int (x >>> (y &&& 31)) :: r) (M)) : px_G p l e R s m args below meth c cells slots Qm g k D cA ar fv ro A (pc) (ls) (.int y :: .int x :: r) (M) := fun H locs jls hP hD hS hR hl hw => lv_ishr C.1 C.2.1 hd (h H locs jls hP hD hS hR hl hw)
theorem px_x_idiv {x y : Int32} (C : px_Cx p R s m args c cells slots g k D cA ar fv ro A Lx) (hd : decode (px_by k) pc = .ok (.idiv, 1)) (hy : ¬ y = 0) (h : px_G p l e R s m args below meth c cells slots Qm g k D cA ar fv ro A (pc + 1) (ls) (.int (x / y) :: r) (M)) : px_G p l e R s m args below meth c cells slots Qm g k D cA ar fv ro A (pc) (ls) (.int y :: .int x :: r) (M) := fun H locs jls hP hD hS hR hl hw => lv_idiv C.1 C.2.1 hd hy (h H locs jls hP hD hS hR hl hw)
theorem px_x_irem {x y : Int32} (C : px_Cx p R s m args c cells slots g k D cA ar fv ro A Lx) (hd : decode (px_by k) pc = .ok (.irem, 1)) (hy : ¬ y = 0) (h : px_G p l e R s m args below meth c cells slots Qm g k D cA ar fv ro A (pc + 1) (ls) (.int (x - x / y * y) :: r) (M)) : px_G p l e R s m args below meth c cells slots Qm g k D cA ar fv ro A (pc) (ls) (.int y :: .int x :: r) (M) := fun H locs jls hP hD hS hR hl hw => lv_irem C.1 C.2.1 hd hy (h H locs jls hP hD hS hR hl hw)
theorem px_x_iushr {x y : Int32} (C : px_Cx p R s m args c cells slots g k D cA ar fv ro A Lx) (hd : decode (px_by k) pc = .ok (.iushr, 1)) (h : px_G p l e R s m args below meth c cells slots Qm g k D cA ar fv ro A (pc + 1) (ls) (.int (x.toUInt32 >>> (y.toUInt32 &&& Int32.toUInt32 31)).toInt32 :: r) (M)) : px_G p l e R s m args below meth c cells slots Qm g k D cA ar fv ro A (pc) (ls) (.int y :: .int x :: r) (M) := fun H locs jls hP hD hS hR hl hw => lv_iushr C.1 C.2.1 hd rfl (h H locs jls hP hD hS hR hl hw)
theorem px_x_ladd {x y : Int64} (C : px_Cx p R s m args c cells slots g k D cA ar fv ro A Lx) (hd : decode (px_by k) pc = .ok (.ladd, 1)) (h : px_G p l e R s m args below meth c cells slots Qm g k D cA ar fv ro A (pc + 1) (ls) (.long (x + y) :: r) (M)) : px_G p l e R s m args below meth c cells slots Qm g k D cA ar fv ro A (pc) (ls) (.long y :: .long x :: r) (M) := fun H locs jls hP hD hS hR hl hw => lv_ladd C.1 C.2.1 hd (h H locs jls hP hD hS hR hl hw)
theorem px_x_lsub {x y : Int64} (C : px_Cx p R s m args c cells slots g k D cA ar fv ro A Lx) (hd : decode (px_by k) pc = .ok (.lsub, 1)) (h : px_G p l e R s m args below meth c cells slots Qm g k D cA ar fv ro A (pc + 1) (ls) (.long (x - y) :: r) (M)) : px_G p l e R s m args below meth c cells slots Qm g k D cA ar fv ro A (pc) (ls) (.long y :: .long x :: r) (M) := fun H locs jls hP hD hS hR hl hw => lv_lsub C.1 C.2.1 hd (h H locs jls hP hD hS hR hl hw)
theorem px_x_lmul {x y : Int64} (C : px_Cx p R s m args c cells slots g k D cA ar fv ro A Lx) (hd : decode (px_by k) pc = .ok (.lmul, 1)) (h : px_G p l e R s m args below meth c cells slots Qm g k D cA ar fv ro A (pc + 1) (ls) (.long (x * y) :: r) (M)) : px_G p l e R s m args below meth c cells slots Qm g k D cA ar fv ro A (pc) (ls) (.long y :: .long x :: r) (M) := fun H locs jls hP hD hS hR hl hw => lv_lmul C.1 C.2.1 hd (h H locs jls hP hD hS hR hl hw)
theorem px_x_land {x y : Int64} (C : px_Cx p R s m args c cells slots g k D cA ar fv ro A Lx) (hd : decode (px_by k) pc = .ok (.land, 1)) (h : px_G p l e R s m args below meth c cells slots Qm g k D cA ar fv ro A (pc + 1) (ls) (.long (x &&& y) :: r) (M)) : px_G p l e R s m args below meth c cells slots Qm g k D cA ar fv ro A (pc) (ls) (.long y :: .long x :: r) (M) := fun H locs jls hP hD hS hR hl hw => lv_land C.1 C.2.1 hd (h H locs jls hP hD hS hR hl hw)
theorem px_x_lor {x y : Int64} (C : px_Cx p R s m args c cells slots g k D cA ar fv ro A Lx) (hd : decode (px_by k) pc = .ok (.lor, 1)) (h : px_G p l e R s m args below meth c cells slots Qm g k D cA ar fv ro A (pc + 1) (ls) (.long (x ||| y) :: r) (M)) : px_G p l e R s m args below meth c cells slots Qm g k D cA ar fv ro A (pc) (ls) (.long y :: .long x :: r) (M) := fun H locs jls hP hD hS hR hl hw => lv_lor C.1 C.2.1 hd (h H locs jls hP hD hS hR hl hw)
theorem px_x_ldiv {x y : Int64} (C : px_Cx p R s m args c cells slots g k D cA ar fv ro A Lx) (hd : decode (px_by k) pc = .ok (.ldiv, 1)) (hy : ¬ y = 0) (h : px_G p l e R s m args below meth c cells slots Qm g k D cA ar fv ro A (pc + 1) (ls) (.long (x / y) :: r) (M)) : px_G p l e R s m args below meth c cells slots Qm g k D cA ar fv ro A (pc) (ls) (.long y :: .long x :: r) (M) := fun H locs jls hP hD hS hR hl hw => lv_ldiv C.1 C.2.1 hd hy (h H locs jls hP hD hS hR hl hw)
theorem px_x_lrem {x y : Int64} (C : px_Cx p R s m args c cells slots g k D cA ar fv ro A Lx) (hd : decode (px_by k) pc = .ok (.lrem, 1)) (hy : ¬ y = 0) (h : px_G p l e R s m args below meth c cells slots Qm g k D cA ar fv ro A (pc + 1) (ls) (.long (x - x / y * y) :: r) (M)) : px_G p l e R s m args below meth c cells slots Qm g k D cA ar fv ro A (pc) (ls) (.long y :: .long x :: r) (M) := fun H locs jls hP hD hS hR hl hw => lv_lrem C.1 C.2.1 hd hy (h H locs jls hP hD hS hR hl hw)
theorem px_x_lneg {x : Int64} (C : px_Cx p R s m args c cells slots g k D cA ar fv ro A Lx) (hd : decode (px_by k) pc = .ok (.lneg, 1)) (h : px_G p l e R s m args below meth c cells slots Qm g k D cA ar fv ro A (pc + 1) (ls) (.long (-x) :: r) (M)) : px_G p l e R s m args below meth c cells slots Qm g k D cA ar fv ro A (pc) (ls) (.long x :: r) (M) := fun H locs jls hP hD hS hR hl hw => lv_lneg C.1 C.2.1 hd (h H locs jls hP hD hS hR hl hw)
theorem px_x_lshl {x : Int64} {y : Int32} (C : px_Cx p R s m args c cells slots g k D cA ar fv ro A Lx) (hd : decode (px_by k) pc = .ok (.lshl, 1)) (h : px_G p l e R s m args below meth c cells slots Qm g k D cA ar fv ro A (pc + 1) (ls) (.long (x <<< (y.toInt64 &&& 63)) :: r) (M)) : px_G p l e R s m args below meth c cells slots Qm g k D cA ar fv ro A (pc) (ls) (.int y :: .long x :: r) (M) := fun H locs jls hP hD hS hR hl hw => lv_lshl C.1 C.2.1 hd rfl (h H locs jls hP hD hS hR hl hw)
theorem px_x_lshr {x : Int64} {y : Int32} (C : px_Cx p R s m args c cells slots g k D cA ar fv ro A Lx) (hd : decode (px_by k) pc = .ok (.lshr, 1)) (h : px_G p l e R s m args below meth c cells slots Qm g k D cA ar fv ro A (pc + 1) (ls) (.long (x >>> (y.toInt64 &&& 63)) :: r) (M)) : px_G p l e R s m args below meth c cells slots Qm g k D cA ar fv ro A (pc) (ls) (.int y :: .long x :: r) (M) := fun H locs jls hP hD hS hR hl hw => lv_lshr C.1 C.2.1 hd rfl (h H locs jls hP hD hS hR hl hw)
theorem px_x_i2l {x : Int32} (C : px_Cx p R s m args c cells slots g k D cA ar fv ro A Lx) (hd : decode (px_by k) pc = .ok (.i2l, 1)) (h : px_G p l e R s m args below meth c cells slots Qm g k D cA ar fv ro A (pc + 1) (ls) (.long x.toInt64 :: r) (M)) : px_G p l e R s m args below meth c cells slots Qm g k D cA ar fv ro A (pc) (ls) (.int x :: r) (M) := fun H locs jls hP hD hS hR hl hw => lv_i2l C.1 C.2.1 hd rfl (h H locs jls hP hD hS hR hl hw)
theorem px_x_l2i {x : Int64} (C : px_Cx p R s m args c cells slots g k D cA ar fv ro A Lx) (hd : decode (px_by k) pc = .ok (.l2i, 1)) (h : px_G p l e R s m args below meth c cells slots Qm g k D cA ar fv ro A (pc + 1) (ls) (.int x.toInt32 :: r) (M)) : px_G p l e R s m args below meth c cells slots Qm g k D cA ar fv ro A (pc) (ls) (.long x :: r) (M) := fun H locs jls hP hD hS hR hl hw => lv_l2i C.1 C.2.1 hd rfl (h H locs jls hP hD hS hR hl hw)
theorem px_x_i2b {x : Int32} (C : px_Cx p R s m args c cells slots g k D cA ar fv ro A Lx) (hd : decode (px_by k) pc = .ok (.i2b, 1)) (h : px_G p l e R s m args below meth c cells slots Qm g k D cA ar fv ro A (pc + 1) (ls) (.int x.toInt8.toInt32 :: r) (M)) : px_G p l e R s m args below meth c cells slots Qm g k D cA ar fv ro A (pc) (ls) (.int x :: r) (M) := fun H locs jls hP hD hS hR hl hw => lv_i2b C.1 C.2.1 hd rfl (h H locs jls hP hD hS hR hl hw)
theorem px_x_i2s {x : Int32} (C : px_Cx p R s m args c cells slots g k D cA ar fv ro A Lx) (hd : decode (px_by k) pc = .ok (.i2s, 1)) (h : px_G p l e R s m args below meth c cells slots Qm g k D cA ar fv ro A (pc + 1) (ls) (.int x.toInt16.toInt32 :: r) (M)) : px_G p l e R s m args below meth c cells slots Qm g k D cA ar fv ro A (pc) (ls) (.int x :: r) (M) := fun H locs jls hP hD hS hR hl hw => lv_i2s C.1 C.2.1 hd rfl (h H locs jls hP hD hS hR hl hw)
theorem px_x_i2c {x : Int32} (C : px_Cx p R s m args c cells slots g k D cA ar fv ro A Lx) (hd : decode (px_by k) pc = .ok (.i2c, 1)) (h : px_G p l e R s m args below meth c cells slots Qm g k D cA ar fv ro A (pc + 1) (ls) (.int (x.toUInt32 % 65536).toInt32 :: r) (M)) : px_G p l e R s m args below meth c cells slots Qm g k D cA ar fv ro A (pc) (ls) (.int x :: r) (M) := fun H locs jls hP hD hS hR hl hw => lv_i2c C.1 C.2.1 hd rfl (h H locs jls hP hD hS hR hl hw)
theorem px_x_lcmp {x y : Int64} (C : px_Cx p R s m args c cells slots g k D cA ar fv ro A Lx) (hd : decode (px_by k) pc = .ok (.lcmp, 1)) (h : px_G p l e R s m args below meth c cells slots Qm g k D cA ar fv ro A (pc + 1) (ls) (.int (lg_cmp x y) :: r) (M)) : px_G p l e R s m args below meth c cells slots Qm g k D cA ar fv ro A (pc) (ls) (.long y :: .long x :: r) (M) := fun H locs jls hP hD hS hR hl hw => W.lcmp C.1 C.2.1 hd (h H locs jls hP hD hS hR hl hw)
theorem px_x_iconst {n : Int} (C : px_Cx p R s m args c cells slots g k D cA ar fv ro A Lx) (hd : decode (px_by k) pc = .ok (.iconst n, 1)) (h : px_G p l e R s m args below meth c cells slots Qm g k D cA ar fv ro A (pc + 1) (ls) (.int (Int32.ofInt n) :: r) (M)) : px_G p l e R s m args below meth c cells slots Qm g k D cA ar fv ro A (pc) (ls) (r) (M) := fun H locs jls hP hD hS hR hl hw => lv_iconst C.1 C.2.1 hd rfl (h H locs jls hP hD hS hR hl hw)
theorem px_x_bipush {n : Int} (C : px_Cx p R s m args c cells slots g k D cA ar fv ro A Lx) (hd : decode (px_by k) pc = .ok (.bipush n, 2)) (h : px_G p l e R s m args below meth c cells slots Qm g k D cA ar fv ro A (pc + 2) (ls) (.int ((Int8.ofInt n).toInt32) :: r) (M)) : px_G p l e R s m args below meth c cells slots Qm g k D cA ar fv ro A (pc) (ls) (r) (M) := fun H locs jls hP hD hS hR hl hw => lv_bipush C.1 C.2.1 hd rfl (h H locs jls hP hD hS hR hl hw)
theorem px_x_sipush {n : Int} (C : px_Cx p R s m args c cells slots g k D cA ar fv ro A Lx) (hd : decode (px_by k) pc = .ok (.sipush n, 3)) (h : px_G p l e R s m args below meth c cells slots Qm g k D cA ar fv ro A (pc + 3) (ls) (.int ((Int16.ofInt n).toInt32) :: r) (M)) : px_G p l e R s m args below meth c cells slots Qm g k D cA ar fv ro A (pc) (ls) (r) (M) := fun H locs jls hP hD hS hR hl hw => lv_sipush C.1 C.2.1 hd rfl (h H locs jls hP hD hS hR hl hw)
theorem px_x_lconst {n : Fin 2} (C : px_Cx p R s m args c cells slots g k D cA ar fv ro A Lx) (hd : decode (px_by k) pc = .ok (.lconst n, 1)) (h : px_G p l e R s m args below meth c cells slots Qm g k D cA ar fv ro A (pc + 1) (ls) (.long (Int64.ofNat (n : Nat)) :: r) (M)) : px_G p l e R s m args below meth c cells slots Qm g k D cA ar fv ro A (pc) (ls) (r) (M) := fun H locs jls hP hD hS hR hl hw => lv_lconst C.1 C.2.1 hd rfl (h H locs jls hP hD hS hR hl hw)
theorem px_x_iload_n {j : Fin 4} {x : Int32} (C : px_Cx p R s m args c cells slots g k D cA ar fv ro A Lx) (hd : decode (px_by k) pc = .ok (.iload_n j, 1)) (hj : px_ld ls j = some (.int x)) (h : px_G p l e R s m args below meth c cells slots Qm g k D cA ar fv ro A (pc + 1) (ls) (.int x :: r) (M)) : px_G p l e R s m args below meth c cells slots Qm g k D cA ar fv ro A (pc) (ls) (r) (M) := fun H locs jls hP hD hS hR hl hw => lv_iload_n C.1 C.2.1 hd rfl (px_lv_at hl hj) (h H locs jls hP hD hS hR hl hw)
theorem px_x_iload {j : Nat} {x : Int32} (C : px_Cx p R s m args c cells slots g k D cA ar fv ro A Lx) (hd : decode (px_by k) pc = .ok (.iload j, 2)) (hj : px_ld ls j = some (.int x)) (h : px_G p l e R s m args below meth c cells slots Qm g k D cA ar fv ro A (pc + 2) (ls) (.int x :: r) (M)) : px_G p l e R s m args below meth c cells slots Qm g k D cA ar fv ro A (pc) (ls) (r) (M) := fun H locs jls hP hD hS hR hl hw => lv_iload C.1 C.2.1 hd (px_lv_at hl hj) (h H locs jls hP hD hS hR hl hw)
theorem px_x_lload_n {j : Fin 4} {x : Int64} (C : px_Cx p R s m args c cells slots g k D cA ar fv ro A Lx) (hd : decode (px_by k) pc = .ok (.lload_n j, 1)) (hj : px_ld ls j = some (.long x)) (h : px_G p l e R s m args below meth c cells slots Qm g k D cA ar fv ro A (pc + 1) (ls) (.long x :: r) (M)) : px_G p l e R s m args below meth c cells slots Qm g k D cA ar fv ro A (pc) (ls) (r) (M) := fun H locs jls hP hD hS hR hl hw => lv_lload_n C.1 C.2.1 hd rfl (px_lv_at hl hj) (h H locs jls hP hD hS hR hl hw)
theorem px_x_lload {j : Nat} {x : Int64} (C : px_Cx p R s m args c cells slots g k D cA ar fv ro A Lx) (hd : decode (px_by k) pc = .ok (.lload j, 2)) (hj : px_ld ls j = some (.long x)) (h : px_G p l e R s m args below meth c cells slots Qm g k D cA ar fv ro A (pc + 2) (ls) (.long x :: r) (M)) : px_G p l e R s m args below meth c cells slots Qm g k D cA ar fv ro A (pc) (ls) (r) (M) := fun H locs jls hP hD hS hR hl hw => lv_lload C.1 C.2.1 hd (px_lv_at hl hj) (h H locs jls hP hD hS hR hl hw)
theorem px_x_aload_n {j : Fin 4} {a : Nat} (C : px_Cx p R s m args c cells slots g k D cA ar fv ro A Lx) (hd : decode (px_by k) pc = .ok (.aload_n j, 1)) (hj : px_ld ls j = some (.ref a)) (h : px_G p l e R s m args below meth c cells slots Qm g k D cA ar fv ro A (pc + 1) (ls) (.ref a :: r) (M)) : px_G p l e R s m args below meth c cells slots Qm g k D cA ar fv ro A (pc) (ls) (r) (M) := by
  intro H locs jls hP hD hS hR hl hw
  have h1 := h H locs jls hP hD hS hR hl hw
  have h2 := px_lv_at hl hj
  change W p l e R s m args below meth c H locs cells slots Qm (F0 m (pc + 1) jls (px_cv fv ar (.ref a) :: r.map (px_cv fv ar))) at h1
  by_cases ha : a = 1003
  · subst ha
    change jls[(j : Nat)]? = some (.val fv) at h2
    change W p l e R s m args below meth c H locs cells slots Qm (F0 m (pc + 1) jls (fv :: r.map (px_cv fv ar))) at h1
    rcases C.2.2.2.2.2.2.2.2.2 with rfl | ⟨t, rfl⟩
    · exact lv_aload_nN C.1 C.2.1 hd rfl h2 h1
    · exact lv_aload_n C.1 C.2.1 hd rfl h2 h1
  · rw [px_cv_r ha] at h1 h2
    exact lv_aload_n C.1 C.2.1 hd rfl h2 h1
theorem px_x_aload {j : Nat} {a : Nat} (C : px_Cx p R s m args c cells slots g k D cA ar fv ro A Lx) (hd : decode (px_by k) pc = .ok (.aload j, 2)) (hj : px_ld ls j = some (.ref a)) (h : px_G p l e R s m args below meth c cells slots Qm g k D cA ar fv ro A (pc + 2) (ls) (.ref a :: r) (M)) : px_G p l e R s m args below meth c cells slots Qm g k D cA ar fv ro A (pc) (ls) (r) (M) := by
  intro H locs jls hP hD hS hR hl hw
  have h1 := h H locs jls hP hD hS hR hl hw
  have h2 := px_lv_at hl hj
  change W p l e R s m args below meth c H locs cells slots Qm (F0 m (pc + 2) jls (px_cv fv ar (.ref a) :: r.map (px_cv fv ar))) at h1
  by_cases ha : a = 1003
  · subst ha
    change jls[(j : Nat)]? = some (.val fv) at h2
    change W p l e R s m args below meth c H locs cells slots Qm (F0 m (pc + 2) jls (fv :: r.map (px_cv fv ar))) at h1
    rcases C.2.2.2.2.2.2.2.2.2 with rfl | ⟨t, rfl⟩
    · exact lv_aloadN C.1 C.2.1 hd h2 h1
    · exact lv_aload C.1 C.2.1 hd h2 h1
  · rw [px_cv_r ha] at h1 h2
    exact lv_aload C.1 C.2.1 hd h2 h1
theorem px_x_istore_n {j : Fin 4} {x : Int32} (C : px_Cx p R s m args c cells slots g k D cA ar fv ro A Lx) (hd : decode (px_by k) pc = .ok (.istore_n j, 1)) (hj : (j : Nat) < px_ml k) (h : px_G p l e R s m args below meth c cells slots Qm g k D cA ar fv ro A (pc + 1) (px_s1 k ls j (.int x)) (r) (M)) : px_G p l e R s m args below meth c cells slots Qm g k D cA ar fv ro A (pc) (ls) (.int x :: r) (M) := fun H locs jls hP hD hS hR hl hw => lv_istore_n C.1 C.2.1 hd rfl hl hj rfl (fun jls hl2 => h H locs jls hP hD hS hR (px_lv_mono hl2 (px_s1_sub (px_fcat C.2.2.2.2.2.2.2.2.2) hw)) (px_s1_wf hw rfl))
theorem px_x_istore {j : Nat} {x : Int32} (C : px_Cx p R s m args c cells slots g k D cA ar fv ro A Lx) (hd : decode (px_by k) pc = .ok (.istore j, 2)) (hj : (j : Nat) < px_ml k) (h : px_G p l e R s m args below meth c cells slots Qm g k D cA ar fv ro A (pc + 2) (px_s1 k ls j (.int x)) (r) (M)) : px_G p l e R s m args below meth c cells slots Qm g k D cA ar fv ro A (pc) (ls) (.int x :: r) (M) := fun H locs jls hP hD hS hR hl hw => lv_istore C.1 C.2.1 hd hl hj rfl (fun jls hl2 => h H locs jls hP hD hS hR (px_lv_mono hl2 (px_s1_sub (px_fcat C.2.2.2.2.2.2.2.2.2) hw)) (px_s1_wf hw rfl))
theorem px_x_lstore_n {j : Fin 4} {x : Int64} (C : px_Cx p R s m args c cells slots g k D cA ar fv ro A Lx) (hd : decode (px_by k) pc = .ok (.lstore_n j, 1)) (hj : (j : Nat) + 1 < px_ml k) (hj2 : (px_ls k).contains (j : Nat) = true) (h : px_G p l e R s m args below meth c cells slots Qm g k D cA ar fv ro A (pc + 1) (px_s2 k ls j (.long x)) (r) (M)) : px_G p l e R s m args below meth c cells slots Qm g k D cA ar fv ro A (pc) (ls) (.long x :: r) (M) := fun H locs jls hP hD hS hR hl hw => lv_lstore_n C.1 C.2.1 hd rfl hl hj rfl (fun jls hl2 => h H locs jls hP hD hS hR (px_lv_mono hl2 (px_s2_sub (px_fcat C.2.2.2.2.2.2.2.2.2) hw)) (px_s2_wf hw hj2))
theorem px_x_lstore {j : Nat} {x : Int64} (C : px_Cx p R s m args c cells slots g k D cA ar fv ro A Lx) (hd : decode (px_by k) pc = .ok (.lstore j, 2)) (hj : (j : Nat) + 1 < px_ml k) (hj2 : (px_ls k).contains (j : Nat) = true) (h : px_G p l e R s m args below meth c cells slots Qm g k D cA ar fv ro A (pc + 2) (px_s2 k ls j (.long x)) (r) (M)) : px_G p l e R s m args below meth c cells slots Qm g k D cA ar fv ro A (pc) (ls) (.long x :: r) (M) := fun H locs jls hP hD hS hR hl hw => lv_lstore C.1 C.2.1 hd hl hj rfl (fun jls hl2 => h H locs jls hP hD hS hR (px_lv_mono hl2 (px_s2_sub (px_fcat C.2.2.2.2.2.2.2.2.2) hw)) (px_s2_wf hw hj2))
theorem px_x_astore_n {j : Fin 4} {a : Nat} (C : px_Cx p R s m args c cells slots g k D cA ar fv ro A Lx) (hd : decode (px_by k) pc = .ok (.astore_n j, 1)) (hj : (j : Nat) < px_ml k) (h : px_G p l e R s m args below meth c cells slots Qm g k D cA ar fv ro A (pc + 1) (px_s1 k ls j (.ref a)) (r) (M)) : px_G p l e R s m args below meth c cells slots Qm g k D cA ar fv ro A (pc) (ls) (.ref a :: r) (M) := by
  intro H locs jls hP hD hS hR hl hw
  have hc := px_fcat C.2.2.2.2.2.2.2.2.2
  have hk : ∀ (v : Value), px_cv fv ar (.ref a) = v → ∀ jls2 : Array Slot, lv_has jls2 (px_ml k) (((j : Nat), v) :: (px_lvs fv ar ls).filter (fun q => !(q.1 == (j : Nat)) && !(q.1 + 1 == (j : Nat) && q.2.category == 2))) → W p l e R s m args below meth c H locs cells slots Qm (F0 m (pc + 1) jls2 (r.map (px_cv fv ar))) := by
    intro v hv jls2 hl2
    subst hv
    exact h H locs jls2 hP hD hS hR (px_lv_mono hl2 (px_s1_sub hc hw)) (px_s1_wf hw rfl)
  show W p l e R s m args below meth c H locs cells slots Qm (F0 m pc jls (px_cv fv ar (.ref a) :: r.map (px_cv fv ar)))
  by_cases ha : a = 1003
  · subst ha
    rcases C.2.2.2.2.2.2.2.2.2 with rfl | ⟨t, rfl⟩
    · exact lv_astore_nN C.1 C.2.1 hd rfl hl hj rfl (hk _ rfl)
    · exact lv_astore_n C.1 C.2.1 hd rfl hl hj rfl (hk _ rfl)
  · rw [px_cv_r ha]
    exact lv_astore_n C.1 C.2.1 hd rfl hl hj rfl (hk _ (px_cv_r ha))
theorem px_x_astore {j : Nat} {a : Nat} (C : px_Cx p R s m args c cells slots g k D cA ar fv ro A Lx) (hd : decode (px_by k) pc = .ok (.astore j, 2)) (hj : (j : Nat) < px_ml k) (h : px_G p l e R s m args below meth c cells slots Qm g k D cA ar fv ro A (pc + 2) (px_s1 k ls j (.ref a)) (r) (M)) : px_G p l e R s m args below meth c cells slots Qm g k D cA ar fv ro A (pc) (ls) (.ref a :: r) (M) := by
  intro H locs jls hP hD hS hR hl hw
  have hc := px_fcat C.2.2.2.2.2.2.2.2.2
  have hk : ∀ (v : Value), px_cv fv ar (.ref a) = v → ∀ jls2 : Array Slot, lv_has jls2 (px_ml k) (((j : Nat), v) :: (px_lvs fv ar ls).filter (fun q => !(q.1 == (j : Nat)) && !(q.1 + 1 == (j : Nat) && q.2.category == 2))) → W p l e R s m args below meth c H locs cells slots Qm (F0 m (pc + 2) jls2 (r.map (px_cv fv ar))) := by
    intro v hv jls2 hl2
    subst hv
    exact h H locs jls2 hP hD hS hR (px_lv_mono hl2 (px_s1_sub hc hw)) (px_s1_wf hw rfl)
  show W p l e R s m args below meth c H locs cells slots Qm (F0 m pc jls (px_cv fv ar (.ref a) :: r.map (px_cv fv ar)))
  by_cases ha : a = 1003
  · subst ha
    rcases C.2.2.2.2.2.2.2.2.2 with rfl | ⟨t, rfl⟩
    · exact lv_astoreN C.1 C.2.1 hd hl hj rfl (hk _ rfl)
    · exact lv_astore C.1 C.2.1 hd hl hj rfl (hk _ rfl)
  · rw [px_cv_r ha]
    exact lv_astore C.1 C.2.1 hd hl hj rfl (hk _ (px_cv_r ha))
theorem px_x_iinc {j : Nat} {n : Int} {x : Int32} (C : px_Cx p R s m args c cells slots g k D cA ar fv ro A Lx) (hd : decode (px_by k) pc = .ok (.iinc j n, 3)) (hj : j < px_ml k) (hx : px_ld ls j = some (.int x)) (h : px_G p l e R s m args below meth c cells slots Qm g k D cA ar fv ro A (pc + 3) (px_s1 k ls j (.int (x + Int32.ofInt n))) (r) (M)) : px_G p l e R s m args below meth c cells slots Qm g k D cA ar fv ro A (pc) (ls) (r) (M) := by
  intro H locs jls hP hD hS hR hl hw
  obtain ⟨q, hq⟩ := List.getElem?_of_mem (px_lvs_in (fv := fv) (ar := ar) (q := (j, .int x)) |>.mpr ⟨_, hx, rfl⟩)
  exact lv_iinc C.1 C.2.1 hd hl hq rfl hj rfl (fun jls hl2 => h H locs jls hP hD hS hR (px_lv_mono hl2 (px_s1_sub (px_fcat C.2.2.2.2.2.2.2.2.2) hw)) (px_s1_wf hw rfl))
theorem px_cv_c {fv : Value} {ar : Nat → Nat} {v : Value} (hf : fv = .null ∨ ∃ t, fv = .ref t) (h : v.category = 1) : (px_cv fv ar v).category = 1 := by
  rw [px_cv_cat (px_fcat hf)]
  exact h
theorem px_x_dup {v : Value} (C : px_Cx p R s m args c cells slots g k D cA ar fv ro A Lx) (hd : decode (px_by k) pc = .ok (.dup, 1)) (hv : v.category = 1) (h : px_G p l e R s m args below meth c cells slots Qm g k D cA ar fv ro A (pc + 1) (ls) (v :: v :: r) (M)) : px_G p l e R s m args below meth c cells slots Qm g k D cA ar fv ro A (pc) (ls) (v :: r) (M) := fun H locs jls hP hD hS hR hl hw => lv_dup C.1 C.2.1 hd (px_cv_c C.2.2.2.2.2.2.2.2.2 hv) (h H locs jls hP hD hS hR hl hw)
theorem px_x_pop {v : Value} (C : px_Cx p R s m args c cells slots g k D cA ar fv ro A Lx) (hd : decode (px_by k) pc = .ok (.pop, 1)) (hv : v.category = 1) (h : px_G p l e R s m args below meth c cells slots Qm g k D cA ar fv ro A (pc + 1) (ls) (r) (M)) : px_G p l e R s m args below meth c cells slots Qm g k D cA ar fv ro A (pc) (ls) (v :: r) (M) := fun H locs jls hP hD hS hR hl hw => lv_pop C.1 C.2.1 hd (px_cv_c C.2.2.2.2.2.2.2.2.2 hv) (h H locs jls hP hD hS hR hl hw)
theorem px_x_dup2l {x : Int64} (C : px_Cx p R s m args c cells slots g k D cA ar fv ro A Lx) (hd : decode (px_by k) pc = .ok (.dup2, 1)) (h : px_G p l e R s m args below meth c cells slots Qm g k D cA ar fv ro A (pc + 1) (ls) (.long x :: .long x :: r) (M)) : px_G p l e R s m args below meth c cells slots Qm g k D cA ar fv ro A (pc) (ls) (.long x :: r) (M) := fun H locs jls hP hD hS hR hl hw => lv_dup2_2 C.1 C.2.1 hd rfl (h H locs jls hP hD hS hR hl hw)
theorem px_x_dup2 {v w : Value} (C : px_Cx p R s m args c cells slots g k D cA ar fv ro A Lx) (hd : decode (px_by k) pc = .ok (.dup2, 1)) (hv : v.category = 1) (hw2 : w.category = 1) (h : px_G p l e R s m args below meth c cells slots Qm g k D cA ar fv ro A (pc + 1) (ls) (v :: w :: v :: w :: r) (M)) : px_G p l e R s m args below meth c cells slots Qm g k D cA ar fv ro A (pc) (ls) (v :: w :: r) (M) := fun H locs jls hP hD hS hR hl hw => lv_dup2_11 C.1 C.2.1 hd (px_cv_c C.2.2.2.2.2.2.2.2.2 hv) (px_cv_c C.2.2.2.2.2.2.2.2.2 hw2) (h H locs jls hP hD hS hR hl hw)
theorem px_x_ldc {i pl : Nat} {v : Int32} (C : px_Cx p R s m args c cells slots g k D cA ar fv ro A Lx) (hd : decode (px_by k) pc = .ok (.ldc i, 2)) (hf : px_kck (px_ow k) i = some (v, pl)) (h : px_G p l e R s m args below meth c cells slots Qm g k D cA ar fv ro A (pc + 2) (ls) (.int v :: r) (M)) : px_G p l e R s m args below meth c cells slots Qm g k D cA ar fv ro A (pc) (ls) (r) (M) := by
  have hk := List.all_eq_true.mp (px_qi_all (px_ow k)) _ (px_lk_in hf)
  exact fun H locs jls hP hD hS hR hl hw => lv_ldc C.1 C.2.1 C.2.2.2.1 (C.2.2.2.2.1 _ (px_w_in hk)) hd (h H locs jls hP hD hS hR hl hw)
theorem px_x_ldcw {i pl : Nat} {v : Int32} (C : px_Cx p R s m args c cells slots g k D cA ar fv ro A Lx) (hd : decode (px_by k) pc = .ok (.ldc_w i, 3)) (hf : px_kck (px_ow k) i = some (v, pl)) (h : px_G p l e R s m args below meth c cells slots Qm g k D cA ar fv ro A (pc + 3) (ls) (.int v :: r) (M)) : px_G p l e R s m args below meth c cells slots Qm g k D cA ar fv ro A (pc) (ls) (r) (M) := by
  have hk := List.all_eq_true.mp (px_qi_all (px_ow k)) _ (px_lk_in hf)
  exact fun H locs jls hP hD hS hR hl hw => lv_ldcw C.1 C.2.1 C.2.2.2.1 (C.2.2.2.2.1 _ (px_w_in hk)) hd (h H locs jls hP hD hS hR hl hw)
theorem px_x_ldc2 {i pl : Nat} {v : Int64} (C : px_Cx p R s m args c cells slots g k D cA ar fv ro A Lx) (hd : decode (px_by k) pc = .ok (.ldc2_w i, 3)) (hf : px_kjk (px_ow k) i = some (v, pl)) (h : px_G p l e R s m args below meth c cells slots Qm g k D cA ar fv ro A (pc + 3) (ls) (.long v :: r) (M)) : px_G p l e R s m args below meth c cells slots Qm g k D cA ar fv ro A (pc) (ls) (r) (M) := by
  have hk := List.all_eq_true.mp (px_ql_all (px_ow k)) _ (px_lk_in hf)
  exact fun H locs jls hP hD hS hR hl hw => lv_ldc2 C.1 C.2.1 C.2.2.2.1 (C.2.2.2.2.1 _ (px_w_in hk)) hd (h H locs jls hP hD hS hR hl hw)
theorem px_x_ldcs {i t pl : Nat} (C : px_Cx p R s m args c cells slots g k D cA ar fv ro A Lx) (hd : decode (px_by k) pc = .ok (.ldc i, 2)) (hf : px_ksk (px_ow k) i = some (t, pl)) (hg : g = 0) (h : px_G p l e R s m args below meth c cells slots Qm g k D cA ar fv ro A (pc + 2) (ls) (.ref (1100 + t) :: r) (M)) : px_G p l e R s m args below meth c cells slots Qm g k D cA ar fv ro A (pc) (ls) (r) (M) := by
  intro H locs jls hP hD hS hR hl hw
  have h1 := h H locs jls hP hD hS hR hl hw
  change W p l e R s m args below meth c H locs cells slots Qm (F0 m (pc + 2) jls (px_cv fv ar (.ref (1100 + t)) :: r.map (px_cv fv ar))) at h1
  rw [px_cv_r (by omega)] at h1
  exact va_ldcS C.1 C.2.1 C.2.2.2.1 ((C.2.2.2.2.2.2.2.2.1 hg).2.2.2.2.1 _ _ _ _ hf) hd h1
theorem px_x_icmp {cd : ClassFile.Cond} {x y : Int32} {off : Int} (C : px_Cx p R s m args c cells slots g k D cA ar fv ro A Lx) (hd : decode (px_by k) pc = .ok (.if_icmp cd off, 3)) (ho : 0 ≤ (pc : Int) + off) (h : px_br cd x y (px_G p l e R s m args below meth c cells slots Qm g k D cA ar fv ro A (px_jt pc off) (ls) (r) (M)) (px_G p l e R s m args below meth c cells slots Qm g k D cA ar fv ro A (pc + 3) (ls) (r) (M))) : px_G p l e R s m args below meth c cells slots Qm g k D cA ar fv ro A (pc) (ls) (.int y :: .int x :: r) (M) := by
  intro H locs jls hP hD hS hR hl hw
  have ht := px_jt_ok ho
  cases cd
  · exact lv_icmp_eq C.1 C.2.1 hd ht (fun q => h.1 q H locs jls hP hD hS hR hl hw) (fun q => h.2 q H locs jls hP hD hS hR hl hw)
  · exact lv_icmp_ne C.1 C.2.1 hd ht (fun q => h.1 q H locs jls hP hD hS hR hl hw) (fun q => h.2 q H locs jls hP hD hS hR hl hw)
  · exact lv_icmp_lt C.1 C.2.1 hd ht (fun q => h.1 q H locs jls hP hD hS hR hl hw) (fun q => h.2 q H locs jls hP hD hS hR hl hw)
  · exact lv_icmp_ge C.1 C.2.1 hd ht (fun q => h.1 q H locs jls hP hD hS hR hl hw) (fun q => h.2 q H locs jls hP hD hS hR hl hw)
  · exact lv_icmp_gt C.1 C.2.1 hd ht (fun q => h.1 q H locs jls hP hD hS hR hl hw) (fun q => h.2 q H locs jls hP hD hS hR hl hw)
  · exact lv_icmp_le C.1 C.2.1 hd ht (fun q => h.1 q H locs jls hP hD hS hR hl hw) (fun q => h.2 q H locs jls hP hD hS hR hl hw)
theorem px_x_if {cd : ClassFile.Cond} {x : Int32} {off : Int} (C : px_Cx p R s m args c cells slots g k D cA ar fv ro A Lx) (hd : decode (px_by k) pc = .ok (.ifCond cd off, 3)) (ho : 0 ≤ (pc : Int) + off) (h : px_br cd x 0 (px_G p l e R s m args below meth c cells slots Qm g k D cA ar fv ro A (px_jt pc off) (ls) (r) (M)) (px_G p l e R s m args below meth c cells slots Qm g k D cA ar fv ro A (pc + 3) (ls) (r) (M))) : px_G p l e R s m args below meth c cells slots Qm g k D cA ar fv ro A (pc) (ls) (.int x :: r) (M) := by
  intro H locs jls hP hD hS hR hl hw
  have ht := px_jt_ok ho
  cases cd
  · exact lv_if_eq C.1 C.2.1 hd ht (fun q => h.1 q H locs jls hP hD hS hR hl hw) (fun q => h.2 q H locs jls hP hD hS hR hl hw)
  · exact lv_if_ne C.1 C.2.1 hd ht (fun q => h.1 q H locs jls hP hD hS hR hl hw) (fun q => h.2 q H locs jls hP hD hS hR hl hw)
  · exact lv_if_lt C.1 C.2.1 hd ht (fun q => h.1 q H locs jls hP hD hS hR hl hw) (fun q => h.2 q H locs jls hP hD hS hR hl hw)
  · exact lv_if_ge C.1 C.2.1 hd ht (fun q => h.1 q H locs jls hP hD hS hR hl hw) (fun q => h.2 q H locs jls hP hD hS hR hl hw)
  · exact lv_if_gt C.1 C.2.1 hd ht (fun q => h.1 q H locs jls hP hD hS hR hl hw) (fun q => h.2 q H locs jls hP hD hS hR hl hw)
  · exact lv_if_le C.1 C.2.1 hd ht (fun q => h.1 q H locs jls hP hD hS hR hl hw) (fun q => h.2 q H locs jls hP hD hS hR hl hw)
theorem px_x_goto {off : Int} (C : px_Cx p R s m args c cells slots g k D cA ar fv ro A Lx) (hd : decode (px_by k) pc = .ok (.goto off, 3)) (ho : 0 ≤ (pc : Int) + off) (h : px_G p l e R s m args below meth c cells slots Qm g k D cA ar fv ro A (px_jt pc off) (ls) (r) (M)) : px_G p l e R s m args below meth c cells slots Qm g k D cA ar fv ro A (pc) (ls) (r) (M) := fun H locs jls hP hD hS hR hl hw => lv_goto C.1 C.2.1 hd (px_jt_ok ho) (h H locs jls hP hD hS hR hl hw)
theorem px_x_switch {d lo hi : Int} {offs : Array Int} {len : Nat} {x : Int32} (C : px_Cx p R s m args c cells slots g k D cA ar fv ro A Lx) (hd : decode (px_by k) pc = .ok (.tableswitch d lo hi offs, len)) (ho : 0 ≤ (pc : Int) + d) (ho2 : ∀ o ∈ offs.toList, 0 ≤ (pc : Int) + o) (hsz : hi - lo < offs.size) (h : px_G p l e R s m args below meth c cells slots Qm g k D cA ar fv ro A (px_sw pc d lo hi offs x) (ls) (r) (M)) : px_G p l e R s m args below meth c cells slots Qm g k D cA ar fv ro A (pc) (ls) (.int x :: r) (M) := by
  intro H locs jls hP hD hS hR hl hw
  have h1 := h H locs jls hP hD hS hR hl hw
  unfold px_sw at h1
  by_cases hx : x.toInt < lo ∨ hi < x.toInt
  · rw [if_pos hx] at h1
    exact lv_tableOut C.1 C.2.1 hd hx (px_jt_ok ho) h1
  · rw [if_neg hx] at h1
    have hn : (x.toInt - lo).toNat < offs.size := by omega
    have he : offs[(x.toInt - lo).toNat]? = some (offs.getD (x.toInt - lo).toNat 0) := by
      rw [Array.getD_eq_getD_getElem?, Array.getElem?_eq_getElem hn]
      rfl
    refine lv_tableIn C.1 C.2.1 hd (fun q => hx (Or.inl q)) (fun q => hx (Or.inr q)) he (px_jt_ok (ho2 _ ?_)) h1
    have := Array.mem_of_getElem? he
    exact Array.mem_toList_iff.mpr this
end PXS
