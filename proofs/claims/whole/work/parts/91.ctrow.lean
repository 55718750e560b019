/-! the walk of a constructor over a growing list of cells -/
def ct_A (h0 sz : Nat) : Nat → Prop := fun q => q = h0 ∨ sz ≤ q
def ct_nest : List (Nat × MethodName) := [(9, ⟨"FrozenTrees$Tape", "<init>", "()V"⟩), (27, ⟨"FrozenTrees$Story", "<init>", "()V"⟩), (45, ⟨"FrozenTrees$Row", "<init>", "()V"⟩), (48, ⟨"FrozenTrees$Seen", "<init>", "()V"⟩), (73, ⟨"FrozenTrees$Plan", "<init>", "()V"⟩)]
def ct_K (D : va_G) (cA : Nat → ClassId) (U : State) : Prop := va_K D px_cls (px_tys 0 cA) U ∧ va_AO "FrozenTrees$Story" U ∧ va_AO "FrozenTrees$Row" U ∧ mq_AO U ∧ ∀ q ∈ ct_nest, va_Nw (.methodLinkNest "FrozenTrees" q.1 q.2 "FrozenTrees") U
theorem ct_K.warm {D : va_G} {cA : Nat → ClassId} {s U : State} (hW : s.WarmedH U.vm) (h : ct_K D cA s) : ct_K D cA U := ⟨va_K.moved hW.alike h.1, va_AO.moved hW.alike h.2.1, va_AO.moved hW.alike h.2.2.1, mq_AO.moved hW.alike h.2.2.2.1, fun q hq => va_Nw.warmM hW (h.2.2.2.2 q hq)⟩
theorem ct_K.same {D : va_G} {cA : Nat → ClassId} {u U : State} (hv : U.vm = u.vm) (h : ct_K D cA u) : ct_K D cA U := by
  have ha : u.vm.Alike U.vm := by rw [hv]; exact Vm.Alike.refl u.vm
  exact ⟨va_K.moved ha h.1, va_AO.moved ha h.2.1, va_AO.moved ha h.2.2.1, mq_AO.moved ha h.2.2.2.1, fun q hq => va_Nw.same rfl hv.symm (h.2.2.2.2 q hq)⟩
def ct_w (y : MethodName) (b : ByteArray) (ml : Nat) : List Cond := .code y b ml none :: px_gw
theorem ct_good {y : MethodName} {b : ByteArray} {ml : Nat} (h : Cond.code y b ml none ∈ px_gw) : GoodIn px_gw (ct_w y b ml) := by
  intro w hw
  have hm : w ∈ px_gw := by
    rcases List.mem_cons.mp hw with rfl | h1
    · exact h
    · exact h1
  exact ⟨hm, px_gw_good hm⟩
/-- the same array class -/
theorem ct_same {U : State} {a b : ClassId} {ty : FieldType} (h1 : va_RA U a ty) (h2 : va_RA U b ty) : a = b := by
  cases ty with
  | object C =>
    obtain ⟨_, _, _, _, _, h⟩ := h1
    obtain ⟨_, _, _, _, _, h'⟩ := h2
    exact Option.some.inj (h.symm.trans h')
  | _ =>
    first
      | exact Option.some.inj (Eq.trans (Eq.symm (show U.vm.findClass _ = some a from h1)) (show U.vm.findClass _ = some b from h2))
theorem ct_join {A0 : Nat → Prop} {D : va_G} {ws w1 : va_W} {q : Nat} {e : va_E} {H H1 : Heap} (hP : va_P D px_cls (ws ++ [(q, e)]) H) (hD : va_D A0 (ws ++ [(q, e)])) (hk : ∀ x : Nat, x < H.size → ¬ ct_A q H.size x → H1[x]? = H[x]?) (hF : ∀ x, ct_A q H.size x → A0 x) (hP1 : va_P D px_cls w1 H1) (hD1 : va_D (ct_A q H.size) w1) : va_P D px_cls (ws ++ w1) H1 ∧ va_D A0 (ws ++ w1) := by
  have up : ∀ (k : Nat) (x : Nat × va_E), ws[k]? = some x → (ws ++ [(q, e)])[k]? = some x := fun k x hx => by
    rw [List.getElem?_append_left (List.getElem?_eq_some_iff.mp hx).1]
    exact hx
  have hq : (ws ++ [(q, e)])[ws.length]? = some (q, e) := by
    rw [List.getElem?_append_right (Nat.le_refl _), Nat.sub_self]
    rfl
  have apart : ∀ (k : Nat) (x : Nat × va_E), ws[k]? = some x → x.1 < H.size ∧ ¬ ct_A q H.size x.1 := by
    intro k x hx
    have hl := (hP k x (up k x hx)).lt
    refine ⟨hl, fun h => ?_⟩
    rcases h with h | h
    · have := hD.1 k ws.length x (q, e) (up k x hx) hq h
      have := (List.getElem?_eq_some_iff.mp hx).1
      omega
    · omega
  refine ⟨va_P.app (fun k x hx => ?_) hP1, va_D.app ⟨fun i j x y hx hy hxy => hD.1 i j x y (up i x hx) (up j y hy) hxy, fun k x hx => hD.2 k x (up k x hx)⟩ (hD1.weaken (fun k x _ h => hF x.1 h)) (fun i j x y hx hy hxy => ?_)⟩
  · obtain ⟨g1, g2⟩ := apart k x hx
    exact (hP k x (up k x hx)).kept (hk x.1 g1 g2)
  · exact (apart i x hx).2 (by rw [hxy]; exact hD1.2 j y hy)
/-- what stands at every place of the walk -/
def ct_C (p : Program) (s : State) (m : MethodId) (args : Array Value) (c : Code) (cc : ByteArray) (own : String) (nL : Nat) (D : va_G) (cA : Nat → ClassId) (A : Nat → Prop) : Prop := p.tables.exec = Jvm.exec ∧ c.code = cc ∧ c.maxLocals = nL ∧ s.vm.findClass own = some m.cls ∧ (∀ w ∈ px_gw, w.before args s = true) ∧ ct_K D cA s ∧ ∀ q, s.heap.size ≤ q → A q
def ct_G (p : Program) (l : Launch) (e : Env) (R : Room) (s : State) (m : MethodId) (args : Array Value) (below : List Frame) (meth : Method) (c : Code) (Q : State → Prop) (D : va_G) (A : Nat → Prop) (nL cells slots pc : Nat) (lv : List (Nat × Value)) (st : List Value) (ws : va_W) : Prop := ∀ (H : Heap) (locs : List Loc) (ls : Array Slot), va_P D px_cls ws H → va_D A ws → va_S A s.heap H locs → lv_has ls nL lv → W p l e R s m args below meth c H locs cells slots Q (F0 m pc ls st)
section CTG
variable {p : Program} {l : Launch} {e : Env} {R : Room} {s : State} {m : MethodId} {args : Array Value} {below : List Frame} {meth : Method} {c : Code} {Q : State → Prop} {D : va_G} {cA : Nat → ClassId} {A : Nat → Prop} {nL cells slots pc : Nat} {lv : List (Nat × Value)} {st : List Value} {ws : va_W} {cc : ByteArray} {own : String}
theorem ct_aload {j : Fin 4} {a : Nat} (k : Nat) (C : ct_C p s m args c cc own nL D cA A) (hd : decode cc pc = .ok (.aload_n j, 1)) (hj : lv[k]? = some ((j : Nat), .ref a)) (h : ct_G p l e R s m args below meth c Q D A nL cells slots (pc + 1) lv (.ref a :: st) ws) : ct_G p l e R s m args below meth c Q D A nL cells slots pc lv st ws := fun H locs ls hP hD hS hl => lv_aload_n C.1 C.2.1 hd rfl (lv_at hl k hj) (h H locs ls hP hD hS hl)
theorem ct_iload {j : Fin 4} {x : Int32} (k : Nat) (C : ct_C p s m args c cc own nL D cA A) (hd : decode cc pc = .ok (.iload_n j, 1)) (hj : lv[k]? = some ((j : Nat), .int x)) (h : ct_G p l e R s m args below meth c Q D A nL cells slots (pc + 1) lv (.int x :: st) ws) : ct_G p l e R s m args below meth c Q D A nL cells slots pc lv st ws := fun H locs ls hP hD hS hl => lv_iload_n C.1 C.2.1 hd rfl (lv_at hl k hj) (h H locs ls hP hD hS hl)
theorem ct_iconst {n : Int} {x : Int32} (C : ct_C p s m args c cc own nL D cA A) (hd : decode cc pc = .ok (.iconst n, 1)) (hx : Int32.ofInt n = x) (h : ct_G p l e R s m args below meth c Q D A nL cells slots (pc + 1) lv (.int x :: st) ws) : ct_G p l e R s m args below meth c Q D A nL cells slots pc lv st ws := fun H locs ls hP hD hS hl => lv_iconst C.1 C.2.1 hd hx (h H locs ls hP hD hS hl)
theorem ct_bipush {n : Int} {x : Int32} (C : ct_C p s m args c cc own nL D cA A) (hd : decode cc pc = .ok (.bipush n, 2)) (hx : (Int8.ofInt n).toInt32 = x) (h : ct_G p l e R s m args below meth c Q D A nL cells slots (pc + 2) lv (.int x :: st) ws) : ct_G p l e R s m args below meth c Q D A nL cells slots pc lv st ws := fun H locs ls hP hD hS hl => lv_bipush C.1 C.2.1 hd hx (h H locs ls hP hD hS hl)
theorem ct_sipush {n : Int} {x : Int32} (C : ct_C p s m args c cc own nL D cA A) (hd : decode cc pc = .ok (.sipush n, 3)) (hx : (Int16.ofInt n).toInt32 = x) (h : ct_G p l e R s m args below meth c Q D A nL cells slots (pc + 3) lv (.int x :: st) ws) : ct_G p l e R s m args below meth c Q D A nL cells slots pc lv st ws := fun H locs ls hP hD hS hl => lv_sipush C.1 C.2.1 hd hx (h H locs ls hP hD hS hl)
theorem ct_ldc {i : Nat} {x : Int32} (C : ct_C p s m args c cc own nL D cA A) (hd : decode cc pc = .ok (.ldc i, 2)) (hx : Cond.constant own i x ∈ px_gw) (h : ct_G p l e R s m args below meth c Q D A nL cells slots (pc + 2) lv (.int x :: st) ws) : ct_G p l e R s m args below meth c Q D A nL cells slots pc lv st ws := fun H locs ls hP hD hS hl => lv_ldc C.1 C.2.1 C.2.2.2.1 (C.2.2.2.2.1 _ hx) hd (h H locs ls hP hD hS hl)
theorem ct_dup {a : Nat} (C : ct_C p s m args c cc own nL D cA A) (hd : decode cc pc = .ok (.dup, 1)) (h : ct_G p l e R s m args below meth c Q D A nL cells slots (pc + 1) lv (.ref a :: .ref a :: st) ws) : ct_G p l e R s m args below meth c Q D A nL cells slots pc lv (.ref a :: st) ws := fun H locs ls hP hD hS hl => lv_dup C.1 C.2.1 hd rfl (h H locs ls hP hD hS hl)
theorem ct_istore {j : Fin 4} {x : Int32} {lv' : List (Nat × Value)} (C : ct_C p s m args c cc own nL D cA A) (hd : decode cc pc = .ok (.istore_n j, 1)) (hj : (j : Nat) < nL) (hl' : ((j : Nat), Value.int x) :: lv.filter (fun q => !(q.1 == (j : Nat)) && !(q.1 + 1 == (j : Nat) && q.2.category == 2)) = lv') (h : ct_G p l e R s m args below meth c Q D A nL cells slots (pc + 1) lv' st ws) : ct_G p l e R s m args below meth c Q D A nL cells slots pc lv (.int x :: st) ws := fun H locs ls hP hD hS hl => lv_istore_n C.1 C.2.1 hd rfl hl hj hl' (fun ls hl2 => h H locs ls hP hD hS hl2)
theorem ct_astore {j : Fin 4} {x : Nat} {lv' : List (Nat × Value)} (C : ct_C p s m args c cc own nL D cA A) (hd : decode cc pc = .ok (.astore_n j, 1)) (hj : (j : Nat) < nL) (hl' : ((j : Nat), Value.ref x) :: lv.filter (fun q => !(q.1 == (j : Nat)) && !(q.1 + 1 == (j : Nat) && q.2.category == 2)) = lv') (h : ct_G p l e R s m args below meth c Q D A nL cells slots (pc + 1) lv' st ws) : ct_G p l e R s m args below meth c Q D A nL cells slots pc lv (.ref x :: st) ws := fun H locs ls hP hD hS hl => lv_astore_n C.1 C.2.1 hd rfl hl hj hl' (fun ls hl2 => h H locs ls hP hD hS hl2)
theorem ct_iinc {i : Nat} {n : Int} {x v : Int32} {lv' : List (Nat × Value)} (k : Nat) (C : ct_C p s m args c cc own nL D cA A) (hd : decode cc pc = .ok (.iinc i n, 3)) (hk : lv[k]? = some (i, .int x)) (hv : x + Int32.ofInt n = v) (hj : i < nL) (hl' : (i, Value.int v) :: lv.filter (fun q => !(q.1 == i) && !(q.1 + 1 == i && q.2.category == 2)) = lv') (h : ct_G p l e R s m args below meth c Q D A nL cells slots (pc + 3) lv' st ws) : ct_G p l e R s m args below meth c Q D A nL cells slots pc lv st ws := fun H locs ls hP hD hS hl => lv_iinc C.1 C.2.1 hd hl hk hv hj hl' (fun ls hl2 => h H locs ls hP hD hS hl2)
theorem ct_goto {off : Int} {t : Nat} (C : ct_C p s m args c cc own nL D cA A) (hd : decode cc pc = .ok (.goto off, 3)) (ht : (pc : Int) + off = (t : Int)) (h : ct_G p l e R s m args below meth c Q D A nL cells slots t lv st ws) : ct_G p l e R s m args below meth c Q D A nL cells slots pc lv st ws := fun H locs ls hP hD hS hl => lv_goto C.1 C.2.1 hd ht (h H locs ls hP hD hS hl)
theorem ct_ge_t {off : Int} {t : Nat} {x y : Int32} (C : ct_C p s m args c cc own nL D cA A) (hd : decode cc pc = .ok (.if_icmp .ge off, 3)) (ht : (pc : Int) + off = (t : Int)) (hxy : y ≤ x) (h : ct_G p l e R s m args below meth c Q D A nL cells slots t lv st ws) : ct_G p l e R s m args below meth c Q D A nL cells slots pc lv (.int y :: .int x :: st) ws := fun H locs ls hP hD hS hl => lv_icmp_ge C.1 C.2.1 hd ht (fun _ => h H locs ls hP hD hS hl) (fun q => absurd hxy q)
theorem ct_ge_f {off : Int} {t : Nat} {x y : Int32} (C : ct_C p s m args c cc own nL D cA A) (hd : decode cc pc = .ok (.if_icmp .ge off, 3)) (ht : (pc : Int) + off = (t : Int)) (hxy : ¬ y ≤ x) (h : ct_G p l e R s m args below meth c Q D A nL cells slots (pc + 3) lv st ws) : ct_G p l e R s m args below meth c Q D A nL cells slots pc lv (.int y :: .int x :: st) ws := fun H locs ls hP hD hS hl => lv_icmp_ge C.1 C.2.1 hd ht (fun q => absurd q hxy) (fun _ => h H locs ls hP hD hS hl)
theorem ct_obj {a idx : Nat} (C : ct_C p s m args c cc own nL D cA A) (hd : decode cc pc = .ok (.invokespecial idx, 3)) (hlink : Cond.methodLink own idx Lib.objectInit ∈ px_gw) (hf : 1 ≤ R.frames) (hlo : 12 ≤ R.locals) (h : ct_G p l e R s m args below meth c Q D A nL cells slots (pc + 3) lv [] ws) : ct_G p l e R s m args below meth c Q D A nL cells slots pc lv [.ref a] ws := fun H locs ls hP hD hS hl => W.objInit C.1 C.2.1 C.2.2.2.1 (C.2.2.2.2.1 _ hlink) (C.2.2.2.2.1 _ (px_w_in (i := 153) (by decide +kernel))) (C.2.2.2.2.1 _ (px_w_in (i := 154) (by decide +kernel))) rfl (by rw [C.2.2.1]; exact hl.1) rfl hd hf (by show 2 * 0 + 0 + 12 ≤ R.locals; omega) (W.eq (g2 := F0 m (pc + 3) ls []) rfl (h H locs ls hP hD hS hl))
theorem ct_new {ci N idx : Nat} {Cn : String} {T : u_T} {fs : List Value} (C : ct_C p s m args c cc own nL D cA A) (hd : decode cc pc = .ok (.new idx, 3)) (hc : px_cls[ci]? = some (Cn, T, N)) (hcl : Cond.classLink own idx Cn ∈ px_gw) (hinst : Cond.instantiable Cn N ∈ px_gw) (hini : Cond.initialized Cn ∈ px_gw) (hfs : ∀ j, j < N → defaultValue ((parseFieldDescriptor (T j).2.2.1).getD .int) = vp_V fs j) (hcells : cells + 1 ≤ R.cells) (hslots : slots + N ≤ R.slots) (h : ∀ q, ct_G p l e R s m args below meth c Q D A nL (cells + 1) (slots + N) (pc + 3) lv (.ref q :: st) (ws ++ [(q, .inr (ci, fs))])) : ct_G p l e R s m args below meth c Q D A nL cells slots pc lv st ws := fun H locs ls hP hD hS hl =>
  va_new C.1 C.2.1 C.2.2.2.2.1 (px_cls_ok hc).1 (fun j => (parseFieldDescriptor (T j).2.2.1).getD .int) (fun k hk => px_tyk_some ((px_cls_ok hc).2.1 k hk)) C.2.2.2.1 (C.2.2.2.2.1 _ hcl) (C.2.2.2.2.1 _ hinst) (C.2.2.2.2.1 _ hini) C.2.2.2.2.2.1.1 hP hD hS C.2.2.2.2.2.2 hc hfs hcells hslots hd (fun q H hP hD hS => h q H locs ls hP hD hS hl)
theorem ct_newa {t N : Nat} {atype : ArrayType} {n : Int32} {a0 : vp_A} (C : ct_C p s m args c cc own nL D cA A) (hd : decode cc pc = .ok (.newarray atype, 2)) (harr : Cond.arrayClass (newarray.typeOf atype) ∈ px_gw) (hty : newarray.typeOf atype = px_aty t) (ht : (px_tys 0 cA)[t]? = some (cA t, px_aty t)) (ha : ∀ c : ClassId, vp_cell c a0 = arrV c N (fun _ => defaultValue (px_aty t))) (hn : ¬ n < 0) (hN : n.toNatClampNeg = N) (hby : N * componentBytes (px_aty t) ≤ 536870912) (hcells : cells + 1 ≤ R.cells) (hslots : slots + N ≤ R.slots) (h : ∀ q, ct_G p l e R s m args below meth c Q D A nL (cells + 1) (slots + N) (pc + 2) lv (.ref q :: st) (ws ++ [(q, .inl (cA t, a0))])) : ct_G p l e R s m args below meth c Q D A nL cells slots pc lv (.int n :: st) ws := fun H locs ls hP hD hS hl => by
  have hK := C.2.2.2.2.2.1.1
  refine va_newa C.1 C.2.1 (C.2.2.2.2.1 _ harr) hty hK hP hD hS C.2.2.2.2.2.2 ha hn hN hby hcells hslots hd (fun q c1 H1 hK1 hP hD hS => ?_)
  have e1 := (hK1.2 7 (c1, px_aty t) rfl).2
  have e2 := (hK.2 t _ ht).2
  have e3 : c1 = cA t := ct_same e1 e2
  subst e3
  exact h q H1 locs ls hP hD hS hl
theorem ct_anew {t N idx : Nat} {n : Int32} {E : String} (C : ct_C p s m args c cc own nL D cA A) (hd : decode cc pc = .ok (.anewarray idx, 3)) (hcl : Cond.classLink own idx E ∈ px_gw) (hao : va_AO E s) (ht : (px_tys 0 cA)[t]? = some (cA t, .object E)) (hn : ¬ n < 0) (hN : n.toNatClampNeg = N) (hby : N * 4 ≤ 536870912) (hcells : cells + 1 ≤ R.cells) (hslots : slots + N ≤ R.slots) (h : ∀ q, ct_G p l e R s m args below meth c Q D A nL (cells + 1) (slots + N) (pc + 3) lv (.ref q :: st) (ws ++ [(q, .inl (cA t, N, .inr (.inr (.inr (.inr (fun _ => none))))))])) : ct_G p l e R s m args below meth c Q D A nL cells slots pc lv (.int n :: st) ws := fun H locs ls hP hD hS hl => by
  have hK := C.2.2.2.2.2.1.1
  refine va_newq C.1 C.2.1 C.2.2.2.1 (C.2.2.2.2.1 _ hcl) hao hK hP hD hS C.2.2.2.2.2.2 hn hN hby hcells hslots hd (fun q c1 H1 hK1 hP hD hS => ?_)
  have e1 := (hK1.2 7 (c1, .object E) rfl).2
  have e2 := (hK.2 t _ ht).2
  have e3 : c1 = cA t := ct_same e1 e2
  subst e3
  exact h q H1 locs ls hP hD hS hl
theorem ct_putF {ci N k idx a : Nat} (q0 : Nat) {Cn : String} {T : u_T} {fs : List Value} {v : Value} {ty : FieldType} {ws' : va_W} (C : ct_C p s m args c cc own nL D cA A) (hin : meth.name = "<init>") (hd : decode cc pc = .ok (.putfield idx, 3)) (he : ws[q0]? = some (a, .inr (ci, fs))) (hc : px_cls[ci]? = some (Cn, T, N)) (hk : k < N) (hl0 : Cond.fieldLink own idx Cn (T k).2.1 (T k).2.2.1 ∈ px_gw) (hself : (T k).1 = Cn) (hfin : (T k).2.2.2 = true) (hdecl : (T k).1 = own) (hty : parseFieldDescriptor (T k).2.2.1 = some ty) (hn : narrow ty v = v) (hfit : fits ty v = true) (hkl : k < fs.length) (hw : ws.set q0 (a, .inr (ci, fs.set k v)) = ws') (h : ct_G p l e R s m args below meth c Q D A nL cells slots (pc + 3) lv st ws') : ct_G p l e R s m args below meth c Q D A nL cells slots pc lv (v :: .ref a :: st) ws := fun H locs ls hP hD hS hl => by
  subst hw
  exact va_putF C.1 C.2.1 C.2.2.2.2.1 (px_cls_ok hc).1 (fun j => (parseFieldDescriptor (T j).2.2.1).getD .int) (fun k hk => px_tyk_some ((px_cls_ok hc).2.1 k hk)) (px_cls_ok hc).2.2.1 C.2.2.2.1 C.2.2.2.2.2.1.1 hP hD hS q0 he hc k hk (C.2.2.2.2.1 _ hl0) (fun x hx => by rw [← hself]; exact hx) hfin hin hdecl hty hn hfit hkl hd (fun H locs hP hD hS => h H locs ls hP hD hS hl)
theorem ct_put {ci N k idx a : Nat} (q0 : Nat) {Cn : String} {T : u_T} {fs : List Value} {v : Value} {ty : FieldType} {ws' : va_W} (C : ct_C p s m args c cc own nL D cA A) (hd : decode cc pc = .ok (.putfield idx, 3)) (he : ws[q0]? = some (a, .inr (ci, fs))) (hc : px_cls[ci]? = some (Cn, T, N)) (hk : k < N) (hl0 : Cond.fieldLink own idx Cn (T k).2.1 (T k).2.2.1 ∈ px_gw) (hself : (T k).1 = Cn) (hfin : (T k).2.2.2 = false) (hty : parseFieldDescriptor (T k).2.2.1 = some ty) (hn : narrow ty v = v) (hfit : fits ty v = true) (hkl : k < fs.length) (hw : ws.set q0 (a, .inr (ci, fs.set k v)) = ws') (h : ct_G p l e R s m args below meth c Q D A nL cells slots (pc + 3) lv st ws') : ct_G p l e R s m args below meth c Q D A nL cells slots pc lv (v :: .ref a :: st) ws := fun H locs ls hP hD hS hl => by
  subst hw
  exact va_put C.1 C.2.1 C.2.2.2.2.1 (px_cls_ok hc).1 (fun j => (parseFieldDescriptor (T j).2.2.1).getD .int) (fun k hk => px_tyk_some ((px_cls_ok hc).2.1 k hk)) (px_cls_ok hc).2.2.1 C.2.2.2.1 C.2.2.2.2.2.1.1 hP hD hS q0 he hc k hk (C.2.2.2.2.1 _ hl0) (fun x hx => by rw [← hself]; exact hx) hfin hty hn hfit hkl hd (fun H locs hP hD hS => h H locs ls hP hD hS hl)
theorem ct_get {ci N k idx a : Nat} (q0 : Nat) {Cn : String} {T : u_T} {fs : List Value} {v : Value} (C : ct_C p s m args c cc own nL D cA A) (hd : decode cc pc = .ok (.getfield idx, 3)) (he : ws[q0]? = some (a, .inr (ci, fs))) (hc : px_cls[ci]? = some (Cn, T, N)) (hk : k < N) (hl0 : Cond.fieldLink own idx Cn (T k).2.1 (T k).2.2.1 ∈ px_gw) (hself : (T k).1 = Cn) (hv : fs[k]? = some v) (h : ct_G p l e R s m args below meth c Q D A nL cells slots (pc + 3) lv (v :: st) ws) : ct_G p l e R s m args below meth c Q D A nL cells slots pc lv (.ref a :: st) ws := fun H locs ls hP hD hS hl =>
  va_get C.1 C.2.1 C.2.2.2.2.1 (px_cls_ok hc).1 C.2.2.2.1 C.2.2.2.2.2.1.1 hP q0 he hc k hk (C.2.2.2.2.1 _ hl0) (fun x hx => by rw [← hself]; exact hx) hv hd (h H locs ls hP hD hS hl)
theorem ct_iast {a n k : Nat} (q0 : Nat) {i x : Int32} {f : Nat → Int32} {ws' : va_W} (C : ct_C p s m args c cc own nL D cA A) (hd : decode cc pc = .ok (.iastore, 1)) (he : ws[q0]? = some (a, .inl (cA 0, n, .inl f))) (hin : vp_in i n) (hk : i.toNatClampNeg = k) (hw : ws.set q0 (a, .inl (cA 0, n, .inl (upd f k x))) = ws') (h : ct_G p l e R s m args below meth c Q D A nL cells slots (pc + 1) lv st ws') : ct_G p l e R s m args below meth c Q D A nL cells slots pc lv (.int x :: .int i :: .ref a :: st) ws := fun H locs ls hP hD hS hl => by
  subst hw; subst hk
  exact va_iast C.1 C.2.1 C.2.2.2.2.2.1.1 hP hD hS q0 0 he rfl hin hd (fun H locs hP hD hS => h H locs ls hP hD hS hl)
theorem ct_aast {a n v ci t k : Nat} (q0 qk : Nat) {i : Int32} {r : vw_C} {vs : List Value} {f : Nat → Option Nat} {ws' : va_W} (C : ct_C p s m args c cc own nL D cA A) (hd : decode cc pc = .ok (.aastore, 1)) (he : ws[q0]? = some (a, .inl (cA t, n, .inr (.inr (.inr (.inr f)))))) (ht : (px_tys 0 cA)[t]? = some (cA t, .object r.1)) (hv : ws[qk]? = some (v, .inr (ci, vs))) (hc : px_cls[ci]? = some r) (hin : vp_in i n) (hk : i.toNatClampNeg = k) (hw : ws.set q0 (a, .inl (cA t, n, .inr (.inr (.inr (.inr (va_up f k (some v))))))) = ws') (h : ct_G p l e R s m args below meth c Q D A nL cells slots (pc + 1) lv st ws') : ct_G p l e R s m args below meth c Q D A nL cells slots pc lv (.ref v :: .int i :: .ref a :: st) ws := fun H locs ls hP hD hS hl => by
  subst hw; subst hk
  exact va_astq C.1 C.2.1 C.2.2.2.2.2.1.1 hP hD hS q0 t qk ci he ht hv hc hin hd (fun H locs hP hD hS => h H locs ls hP hD hS hl)
theorem ct_ws {ws' : va_W} (hw : ws = ws') (h : ct_G p l e R s m args below meth c Q D A nL cells slots pc lv st ws') : ct_G p l e R s m args below meth c Q D A nL cells slots pc lv st ws := by
  subst hw
  exact h
/-- another name of the same cell -/
theorem ct_cell {a : Nat} {c1 : ClassId} {a0 a1 : vp_A} {ws' : va_W} (q0 : Nat) (he : ws[q0]? = some (a, .inl (c1, a0))) (hc : vp_cell c1 a0 = vp_cell c1 a1) (hw : ws.set q0 (a, .inl (c1, a1)) = ws') (h : ct_G p l e R s m args below meth c Q D A nL cells slots pc lv st ws') : ct_G p l e R s m args below meth c Q D A nL cells slots pc lv st ws := fun H locs ls hP hD hS hl => by
  subst hw
  refine h H locs ls (hP.set hD he ?_ (fun _ _ => rfl)) (hD.set he) hS hl
  have h1 : H[a]? = some (vp_cell c1 a0) := hP q0 _ he
  show H[a]? = some (vp_cell c1 a1)
  rw [← hc]
  exact h1
/-- the rows at the end -/
theorem ct_swap {X Y Z : va_W} (h : ct_G p l e R s m args below meth c Q D A nL cells slots pc lv st ((X ++ Z) ++ Y)) : ct_G p l e R s m args below meth c Q D A nL cells slots pc lv st ((X ++ Y) ++ Z) := fun H locs ls hP hD hS hl => h H locs ls hP.swap hD.swap hS hl
/-- the contract of a constructor -/
def ct_M (l : Launch) (y : MethodName) (b : ByteArray) (ml : Nat) (rm : Room) (av : List Value) (h0 sz ci : Nat) (fs : List Value) (D : va_G) (cA : Nat → ClassId) {S : Type} (post : S → Prop) (wsf : S → va_W) (mc ms : Nat) : Prop := Met l y (ct_w y b ml) rm (va_Pc av (fun U => U.heap.size = sz ∧ va_P D px_cls [(h0, .inr (ci, fs))] U.heap ∧ ct_K D cA U)) (va_Qv post (fun u t => va_P D px_cls (wsf u) t.heap ∧ va_D (ct_A h0 sz) (wsf u)) (ct_A h0 sz)) mc ms (ct_A h0 sz)
theorem ct_blind {av : List Value} {sz h0 ci : Nat} {fs : List Value} : FrameBlind (va_Pc av (fun U => U.heap.size = sz ∧ va_P D px_cls [(h0, .inr (ci, fs))] U.heap ∧ ct_K D cA U)) := fun a U g mk q => by
  obtain ⟨q0, q1, qP, qK⟩ := q
  exact ⟨q0, q1, qP, ct_K.same (u := U) (U := U.calling g mk a) rfl qK⟩
theorem ct_of {y : MethodName} {b : ByteArray} {ml : Nat} {rm : Room} {av : List Value} {h0 sz ci : Nat} {fs : List Value} {S : Type} {post : S → Prop} {wsf : S → va_W} {mc ms : Nat} (hy : plainName y.cls = true) (hn : y.name = "<init>") (hle : (lg_sl av).length ≤ ml) (K : ∀ (p : Program) (e : Env) (s : State) (m : MethodId) (below : List Frame) (meth : Method) (c : Code), ct_C p s m av.toArray c b y.cls ml D cA (ct_A h0 sz) → meth.name = "<init>" → meth.sig.returnType = none → meth.locks = false → ct_G p l e rm s m av.toArray below meth c (MQ below (va_Qv post (fun u t => va_P D px_cls (wsf u) t.heap ∧ va_D (ct_A h0 sz) (wsf u)) (ct_A h0 sz)) av.toArray s mc ms (ct_A h0 sz)) D (ct_A h0 sz) ml 0 0 0 (lv_args 0 av) [] [(h0, .inr (ci, fs))]) : ct_M l y b ml rm av h0 sz ci fs D cA post wsf mc ms := by
  refine Met.ofW (cc := b) (maxL := ml) (ret := none) (ws' := px_gw) hy rfl ?_
  intro p e s m args below meth c s₁ B hml hv
  obtain ⟨rfl, hsz, hP, hK⟩ := hv
  have hts := atoms_spec (ws := ct_w y b ml) B.pre
  have hown : s.vm.findClass y.cls = some m.cls := findClass_of_methodNamed B.named
  have hin : meth.name = "<init>" := (name_of_methodNamed B.named B.method).1.trans hn
  subst hsz
  have C : ct_C p s m av.toArray c b y.cls ml D cA (ct_A h0 s.heap.size) := ⟨B.exec, B.bytes, hml, hown, fun w hw => hts w (List.mem_cons_of_mem _ hw), hK, fun q h => Or.inr h⟩
  have hl0 := lv_entry av (n := ml) hle
  rw [lg_entry_eq]
  refine K p e s m below meth c C hin B.returns B.notSynchronized s.heap [] _ hP ⟨fun i j x y hx hy _ => ?_, fun k x hx => ?_⟩ va_S.rf hl0
  · have h1 := (List.getElem?_eq_some_iff.mp hx).1
    have h2 := (List.getElem?_eq_some_iff.mp hy).1
    have h1 : i < 1 := h1
    have h2 : j < 1 := h2
    omega
  · have h1 := (List.getElem?_eq_some_iff.mp hx).1
    have h1 : k < 1 := h1
    have h2 : k = 0 := by omega
    subst h2
    cases hx
    exact Or.inl rfl
theorem ct_ret {S : Type} {post : S → Prop} {wsf : S → va_W} (u : S) (C : ct_C p s m args c cc own nL D cA A) (hr : meth.sig.returnType = none) (hlocks : meth.locks = false) (hu : post u) (hd : decode cc pc = .ok (.return_, 1)) (hw : ws = wsf u) : ct_G p l e R s m args below meth c (MQ below (va_Qv post (fun u t => va_P D px_cls (wsf u) t.heap ∧ va_D A (wsf u)) A) args s cells slots A) D A nL cells slots pc lv [] ws := fun H locs ls hP hD hS hl => by
  subst hw
  exact W.vret C.1 C.2.1 hr (fun t ht hW => ⟨⟨u, rfl, hu, by rw [ht]; exact hP, hD⟩, hS.F ht⟩) hS.2.2 hd
theorem ct_after {S : Type} {post : S → Prop} {wsf : S → va_W} {H : Heap} {locs : List Loc} {ls : Array Slot} {q : Nat} {ee : va_E} {mc ms : Nat} {st0 : List Value} {a : Array Value} (C : ct_C p s m args c cc own nL D cA A) (hP : va_P D px_cls (ws ++ [(q, ee)]) H) (hD : va_D A (ws ++ [(q, ee)])) (hS : va_S A s.heap H locs) (hl : lv_has ls nL lv) (hr : va_Run p l e R s m args below meth c H locs cells slots mc ms (F0 m pc ls st0) st (va_Qv post (fun u t => va_P D px_cls (wsf u) t.heap ∧ va_D (ct_A q H.size) (wsf u)) (ct_A q H.size) a) (ct_A q H.size)) (h : ∀ u, post u → ct_G p l e R s m args below meth c Q D A nL (cells + mc) (slots + ms) (pc + 3) lv st (ws ++ wsf u)) : W p l e R s m args below meth c H locs cells slots Q (F0 m pc ls st0) := by
  have hF : ∀ x, ct_A q H.size x → A x := by
    intro x hx
    rcases hx with rfl | hx
    · refine hD.2 ws.length (x, ee) ?_
      rw [List.getElem?_append_right (Nat.le_refl _), Nat.sub_self]
      rfl
    · exact C.2.2.2.2.2.2 x (Nat.le_trans hS.1 hx)
  refine va_callv hr hS (fun x _ hx => hF x hx) hF (fun u t H1 locs1 ht hvm hp hB hz hk hS1 => ?_)
  obtain ⟨hP1, hD1⟩ := hB
  rw [ht] at hP1
  obtain ⟨j1, j2⟩ := ct_join hP hD hk hF hP1 hD1
  exact h u hp H1 locs1 ls j1 j2 hS1 hl
theorem ct_last {q : Nat} {ee : va_E} {H : Heap} (hP : va_P D px_cls (ws ++ [(q, ee)]) H) : va_P D px_cls [(q, ee)] H := by
  intro k x hx
  have h1 : k < 1 := (List.getElem?_eq_some_iff.mp hx).1
  have h2 : k = 0 := by omega
  subst h2
  refine hP ws.length x ?_
  rw [List.getElem?_append_right (Nat.le_refl _), Nat.sub_self]
  exact hx
theorem ct_call {y : MethodName} {b2 : ByteArray} {ml2 idx n : Nat} {rm2 : Room} {q ci : Nat} {fs As : List Value} {S : Type} {post : S → Prop} {wsf : S → va_W} {mc ms : Nat} {st0 : List Value} (C : ct_C p s m args c cc own nL D cA A) (hM : ∀ sz, ct_M l y b2 ml2 rm2 (.ref q :: As) q sz ci fs D cA post wsf mc ms) (hd : decode cc pc = .ok (.invokespecial idx, 3)) (hy1 : y.name = "<init>") (hy2 : y.cls ≠ "java/lang/invoke/MethodHandle" ∧ y.cls ≠ "java/lang/invoke/VarHandle" ∧ (parseMethodDescriptor y.desc).map (fun d => d.parameters.length) = some n) (hcode : Cond.code y b2 ml2 none ∈ px_gw) (hini : Cond.initialized y.cls ∈ px_gw) (hlink : Cond.methodLink own idx y ∈ px_gw) (hinst : Cond.instanceMethod y ∈ px_gw) (hrc : rm2.cells = mc) (hrs : rm2.slots = ms) (hroom : rm2.frames + 1 ≤ R.frames ∧ 8 + (ml2 + 11) + rm2.locals ≤ R.locals) (hcs : cells + mc ≤ R.cells ∧ slots + ms ≤ R.slots) (hn : As.length = n) (hst : st0 = As.reverse ++ .ref q :: st) (hsum : (st.map fun v => v.category).sum ≤ 8) (h : ∀ u, post u → ct_G p l e R s m args below meth c Q D A nL (cells + mc) (slots + ms) (pc + 3) lv st (ws ++ wsf u)) : ct_G p l e R s m args below meth c Q D A nL cells slots pc lv st0 (ws ++ [(q, .inr (ci, fs))]) := fun H locs ls hP hD hS hl =>
  ct_after C hP hD hS hl (va_runI (g := F0 m pc ls st0) (As := As) (rest := st) ⟨C.1, C.2.1, C.2.2.1, C.2.2.2.1, C.2.2.2.2.1⟩ (hM H.size) (cwI n C.2.2.2.2.1 (ct_good hcode) rfl hrc hrs (C.2.2.2.2.1 _ hini) (C.2.2.2.2.1 _ hlink) (C.2.2.2.2.1 _ hinst) hy1 hy2 hroom) ⟨ct_blind, fun U hU hW => ⟨rfl, by rw [hU], by rw [hU]; exact ct_last hP, C.2.2.2.2.2.1.warm hW⟩⟩ rfl hn hl.1 hst (lv_room hsum) hd hcs) h
theorem ct_callN {y : MethodName} {b2 : ByteArray} {ml2 idx n : Nat} {rm2 : Room} {q ci : Nat} {fs As : List Value} {S : Type} {post : S → Prop} {wsf : S → va_W} {mc ms : Nat} {st0 : List Value} (C : ct_C p s m args c cc own nL D cA A) (hM : ∀ sz, ct_M l y b2 ml2 rm2 (.ref q :: As) q sz ci fs D cA post wsf mc ms) (hd : decode cc pc = .ok (.invokespecial idx, 3)) (hy1 : y.name = "<init>") (hy2 : y.cls ≠ "java/lang/invoke/MethodHandle" ∧ y.cls ≠ "java/lang/invoke/VarHandle" ∧ (parseMethodDescriptor y.desc).map (fun d => d.parameters.length) = some n) (hcode : Cond.code y b2 ml2 none ∈ px_gw) (hini : Cond.initialized y.cls ∈ px_gw) (hlink : va_Nw (.methodLinkNest own idx y "FrozenTrees") s) (hinst : Cond.instanceMethod y ∈ px_gw) (hrc : rm2.cells = mc) (hrs : rm2.slots = ms) (hroom : rm2.frames + 1 ≤ R.frames ∧ 8 + (ml2 + 11) + rm2.locals ≤ R.locals) (hcs : cells + mc ≤ R.cells ∧ slots + ms ≤ R.slots) (hn : As.length = n) (hst : st0 = As.reverse ++ .ref q :: st) (hsum : (st.map fun v => v.category).sum ≤ 8) (h : ∀ u, post u → ct_G p l e R s m args below meth c Q D A nL (cells + mc) (slots + ms) (pc + 3) lv st (ws ++ wsf u)) : ct_G p l e R s m args below meth c Q D A nL cells slots pc lv st0 (ws ++ [(q, .inr (ci, fs))]) := fun H locs ls hP hD hS hl =>
  ct_after C hP hD hS hl (va_runIN (g := F0 m pc ls st0) (As := As) (rest := st) ⟨C.1, C.2.1, C.2.2.1, C.2.2.2.1, C.2.2.2.2.1⟩ (hM H.size) ⟨va_cnB n C.2.2.2.2.1 (ct_good hcode) rfl hrc hrs hlink (C.2.2.2.2.1 _ hini) hy2 hroom, hy1, C.2.2.2.2.1 _ hinst⟩ ⟨ct_blind, fun U hU hW => ⟨rfl, by rw [hU], by rw [hU]; exact ct_last hP, C.2.2.2.2.2.1.warm hW⟩⟩ rfl hn hl.1 hst (lv_room hsum) hd hcs) h
/-- the rows of pictures -/
def ct_pics (cA : Nat → ClassId) (q : Nat) : va_W := (List.range 71).map fun i => (q + 1 + i, .inl (cA 1, 45, .inr (.inl (fun _ => 0))))
theorem ct_multi {idx : Nat} (C : ct_C p s m args c cc own nL D cA A) (hd : decode cc pc = .ok (.multianewarray idx 2, 4)) (hcl : Cond.classLink own idx ("[" ++ (FieldType.array .long).toString) ∈ px_gw) (hcells : cells + (1 + 71) ≤ R.cells) (hslots : slots + (71 + 71 * 45) ≤ R.slots) (h : ∀ q, ct_G p l e R s m args below meth c Q D A nL (cells + 1 + 71) (slots + 71 + 71 * 45) (pc + 4) lv (.ref q :: st) ((ws ++ [(q, .inl (cA 6, 71, .inr (.inr (.inr (.inr (fun j => some (q + 1 + j)))))))]) ++ ct_pics cA q)) : ct_G p l e R s m args below meth c Q D A nL cells slots pc lv (.int 45 :: .int 71 :: st) ws := fun H locs ls hP hD hS hl => by
  have hK := C.2.2.2.2.2.1.1
  refine mq_W (N := 71) (M := 45) C.1 C.2.1 C.2.2.2.1 (C.2.2.2.2.1 _ hcl) C.2.2.2.2.2.1.2.2.2.1 hd (by decide) (by decide) (by decide) (by decide) (by decide) (by decide) hcells hslots (fun c6 c1 H1 L g1 g2 hL hz hh ho hr => ?_)
  have h := h H.size
  rw [Nat.add_assoc cells 1 71, Nat.add_assoc slots 71 (71 * 45)] at h
  have e6 : c6 = cA 6 := Option.some.inj (g1.symm.trans (hK.2 6 _ rfl).2)
  have e1 : c1 = cA 1 := Option.some.inj (g2.symm.trans (hK.2 1 _ rfl).2)
  subst e6; subst e1
  have hlt : ∀ (k : Nat) (x : Nat × va_E), ws[k]? = some x → x.1 < H.size := fun k x hx => (hP k x hx).lt
  have hpic : ∀ (k : Nat) (x : Nat × va_E), (ct_pics cA H.size)[k]? = some x → k < 71 ∧ x = (H.size + 1 + k, .inl (cA 1, 45, .inr (.inl (fun _ => 0)))) := by
    intro k x hx
    unfold ct_pics at hx
    rw [List.getElem?_map] at hx
    by_cases hk : k < 71
    · rw [List.getElem?_range hk] at hx
      cases hx
      exact ⟨hk, rfl⟩
    · rw [List.getElem?_eq_none (by rw [List.length_range]; omega)] at hx
      cases hx
  refine h H1 _ ls (va_P.app (va_P.app (fun k x hx => (hP k x hx).kept (ho x.1 (hlt k x hx))) (fun k x hx => ?_)) (fun k x hx => ?_)) ?_ ⟨by have := hS.1; omega, fun x h1 h2 => (ho x (Nat.lt_of_lt_of_le h1 hS.1)).trans (hS.2.1 x h1 h2), fun q hq => ?_⟩ hl
  · have h1 : k < 1 := (List.getElem?_eq_some_iff.mp hx).1
    have h2 : k = 0 := by omega
    subst h2
    cases hx
    show H1[H.size]? = some (vp_cell _ _)
    rw [hh, vp_cell_q] <;> rfl
  · obtain ⟨h1, rfl⟩ := hpic k x hx
    exact hr k h1
  · refine va_D.app (hD.push hP rfl (C.2.2.2.2.2.2 _ hS.1)) ⟨fun i j x y hx hy hxy => ?_, fun k x hx => ?_⟩ (fun i j x y hx hy hxy => ?_)
    · obtain ⟨h1, rfl⟩ := hpic i x hx
      obtain ⟨h2, rfl⟩ := hpic j y hy
      have hxy : H.size + 1 + i = H.size + 1 + j := hxy
      omega
    · obtain ⟨h1, rfl⟩ := hpic k x hx
      exact C.2.2.2.2.2.2 _ (by have := hS.1; show s.heap.size ≤ H.size + 1 + k; omega)
    · obtain ⟨h2, rfl⟩ := hpic j y hy
      have hxy : x.1 = H.size + 1 + j := hxy
      by_cases hi : i < ws.length
      · rw [List.getElem?_append_left hi] at hx
        have := hlt i x hx
        omega
      · rw [List.getElem?_append_right (by omega)] at hx
        have h1 : i - ws.length < 1 := (List.getElem?_eq_some_iff.mp hx).1
        rw [show i - ws.length = 0 by omega] at hx
        cases hx
        have hxy : H.size = H.size + 1 + j := hxy
        omega
  · rcases List.mem_append.mp hq with h1 | h1
    · exact hS.2.2 q h1
    · rw [hL q h1]
      exact C.2.2.2.2.2.2 _ hS.1
/-- World.begin, on a World alone -/
theorem ct_begin {ar : Nat → Nat} {M0 : px_Mem} (C : ct_C p s m args c cc "FrozenTrees$World" nL D cA A) (hd : decode cc pc = .ok (.invokevirtual 33, 3)) (hroom : px_nf 60 + 1 ≤ R.frames ∧ 8 + (px_ml 60 + 11) + px_nl 60 ≤ R.locals) (hcs : cells ≤ R.cells ∧ slots ≤ R.slots) (h : ∀ M', ws_C ws_0 47 M' → ct_G p l e R s m args below meth c Q D A nL cells slots (pc + 3) lv [] (px_ws 1 ar cA M')) : ct_G p l e R s m args below meth c Q D A nL cells slots pc lv [.ref (ar 47)] (px_ws 1 ar cA M0) := fun H locs ls hP hD hS hl => by
  have hfv : (Value.null = .null ∨ ∃ t, Value.null = .ref t) := Or.inl rfl
  have hK1 : va_K D px_cls (px_tys 1 cA) s := C.2.2.2.2.2.1.1.sub [0] rfl
  have hts := C.2.2.2.2.1
  have hy : 60 < px_LAW := by decide
  obtain ⟨w1, w2, w3, w4, w5, w6⟩ := px_Wm_of hy
  obtain ⟨n, hwp⟩ := sp_60 (g := 1) (o := 47) (M := M0) (Q := fun r M' => r = none ∧ ws_C ws_0 47 M') (Or.inr ⟨rfl, rfl⟩) (fun M' _ h2 _ => ⟨rfl, h2⟩)
  have hM : px_Mt l 1 D cA ar .null M0.1 A 0 60 [.ref 47] M0 (fun r M' => r = none ∧ ws_C ws_0 47 M') := px_met (px_sound hfv n) hfv hwp hy (by decide +kernel) (by decide +kernel)
  have hcv : px_cv .null ar (.ref 47) = .ref (ar 47) := px_cv_r (by decide)
  have hpc : ∀ U : State, U.heap = H → s.WarmedH U.vm → va_Pc ([Value.ref 47].map (px_cv .null ar)) (px_Iv 1 D cA ar .null M0.1 A 0 M0) (Value.ref (ar 47) :: ([] : List Value)).toArray U := by
    intro U hU hW
    rw [List.map_cons, hcv]
    exact ⟨rfl, by rw [hU]; exact hP, va_K.moved hW.alike hK1, hD, fun _ _ => rfl, fun h9 => absurd h9 (by decide)⟩
  have hrun := va_runV (e := e) (below := below) (meth := meth) (locs := locs) (cells := cells) (slots := slots) (g := F0 m pc ls [.ref (ar 47)]) (b := ar 47) (As := []) (rest := []) (C := "FrozenTrees$World") (n := 0) ⟨C.1, C.2.1, C.2.2.1, C.2.2.2.1, hts⟩ hM ⟨⟨rfl, rfl, hroom.1, hroom.2, fun w hw a' U hW => word_at hW (px_gw_good (px_wsy_gw hy w hw)) (hts w (px_wsy_gw hy w hw)), List.mem_cons_self, hts _ w1, hts _ w2, ⟨w5, w6⟩, px_np_p (by decide +kernel), hts _ (px_w_in (i := 299) (by decide +kernel))⟩, hts _ (px_w_in (i := 300) (by decide +kernel)), hts _ (px_w_in (i := 301) (by decide +kernel))⟩ ⟨px_blind, va_recv hK1 hP (ci := 9) (q0 := 0) (q := ("FrozenTrees$World", px_T9, 10)) rfl rfl, hpc⟩ rfl rfl hl.1 rfl (lv_room (by decide)) hd hcs
  refine px_callW hrun hS (fun r M' H1 locs1 hq hP1 hD1 hS1 hR1 => ?_)
  obtain ⟨rfl, h2⟩ := hq
  exact h M' h2 H1 locs1 ls hP1 hD1 hS1 hl
end CTG
