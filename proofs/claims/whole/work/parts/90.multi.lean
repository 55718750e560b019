/-! an array of arrays of longs, made by one instruction -/
def ml_o (cA : ClassId) (h N i : Nat) : Cell := arrV cA N (fun j => if j < i then .ref (h + 1 + j) else .null)
def ml_r (comp : ClassId) (M : Nat) : Cell := arrV comp M (fun _ => .long 0)
theorem ml_os (cA : ClassId) (h N i : Nat) : (ml_o cA h N i).setSlot i (.ref (h + 1 + i)) = ml_o cA h N (i + 1) := by
  unfold ml_o
  rw [arrV_store]
  congr 1
  funext j
  unfold updV
  by_cases e : j = i
  · rw [if_pos e, if_pos (by omega), e]
  · rw [if_neg e]
    show (if j < i then Value.ref (h + 1 + j) else Value.null) = _
    by_cases q : j < i
    · rw [if_pos q, if_pos (by omega)]
    · rw [if_neg q, if_neg (by omega)]
def ml_st (T : State) (cA comp : ClassId) (N M : Nat) : Nat → State
  | 0 => T.pushCell (ml_o cA T.heap.size N 0)
  | i + 1 => ((ml_st T cA comp N M i).pushCell (ml_r comp M)).setCell T.heap.size (ml_o cA T.heap.size N (i + 1))
theorem ml_facts (T : State) (cA comp : ClassId) (N M i : Nat) : (ml_st T cA comp N M i).heap.size = T.heap.size + 1 + i ∧ (ml_st T cA comp N M i).heap[T.heap.size]? = some (ml_o cA T.heap.size N i) ∧ (ml_st T cA comp N M i).vm = T.vm ∧ (ml_st T cA comp N M i).slotsUsed = T.slotsUsed + N + i * M ∧ (∀ a : Nat, a < T.heap.size → (ml_st T cA comp N M i).heap[a]? = T.heap[a]?) ∧ ∀ j : Nat, j < i → (ml_st T cA comp N M i).heap[T.heap.size + 1 + j]? = some (ml_r comp M) := by
  induction i with
  | zero =>
    refine ⟨?_, State.heap_pushCell_size _ _, rfl, ?_, fun a ha => State.heap_pushCell_of_lt _ _ ha, fun j hj => absurd hj (Nat.not_lt_zero _)⟩
    · show (T.heap.push _).size = _
      rw [Array.size_push]
    · show T.slotsUsed + (ml_o cA T.heap.size N 0).slots.size = _
      unfold ml_o
      rw [arrV_size]
      omega
  | succ i ih =>
    obtain ⟨f1, f2, f3, f4, f5, f6⟩ := ih
    have hs : ml_st T cA comp N M (i + 1) = ((ml_st T cA comp N M i).pushCell (ml_r comp M)).setCell T.heap.size (ml_o cA T.heap.size N (i + 1)) := rfl
    rw [hs]
    generalize ml_st T cA comp N M i = U at f1 f2 f3 f4 f5 f6 ⊢
    have hlt : T.heap.size < U.heap.size := by omega
    have hc : (U.pushCell (ml_r comp M)).heap[T.heap.size]? = some (ml_o cA T.heap.size N i) := by
      rw [State.heap_pushCell_of_lt _ _ hlt]
      exact f2
    refine ⟨?_, State.heap_setCell_self hc, f3, ?_, fun a ha => ?_, fun j hj => ?_⟩
    · simp [State.setCell, f1]
      omega
    · show U.slotsUsed + (ml_r comp M).slots.size = _
      unfold ml_r
      rw [arrV_size, f4, Nat.succ_mul]
      omega
    · have n1 : T.heap.size ≠ a := by omega
      have n2 : a < U.heap.size := by omega
      rw [State.heap_setCell_other n1, State.heap_pushCell_of_lt _ _ n2]
      exact f5 a ha
    · have n1 : T.heap.size ≠ T.heap.size + 1 + j := by omega
      rw [State.heap_setCell_other n1]
      by_cases e : j = i
      · subst e
        have := State.heap_pushCell_size U (ml_r comp M)
        rw [f1] at this
        exact this
      · have n2 : T.heap.size + 1 + j < U.heap.size := by omega
        rw [State.heap_pushCell_of_lt _ _ n2]
        exact f6 j (by omega)
theorem ml_top (T : State) (f : JFrame) (cA comp : ClassId) (N M : Nat) : ∀ i, ml_st (T.setTop f) cA comp N M i = (ml_st T cA comp N M i).setTop f
  | 0 => rfl
  | i + 1 => by
    show ((ml_st (T.setTop f) cA comp N M i).pushCell _).setCell _ _ = _
    rw [ml_top T f cA comp N M i]
    rfl
theorem ml_stand {p : Program} {l : Launch} {e : Env} {R : Room} {s : State} {m : MethodId} {args : Array Value} {below : List Frame} {meth : Method} {c : Code} {T : State} {locs : List Loc} {cells slots : Nat} (X : Stand p l e R s m args below meth c T locs cells slots) (cA comp : ClassId) (N M : Nat) : ∀ i, Stand p l e R s m args below meth c (ml_st T cA comp N M i) (locs ++ (List.range i).map fun j => ⟨T.heap.size, j⟩) (cells + 1 + i) (slots + N + i * M)
  | 0 => by
    have h := X.pushed (ml_o cA T.heap.size N 0)
    rw [show (ml_o cA T.heap.size N 0).slots.size = N from arrV_size _ _ _] at h
    rw [List.range_zero, List.map_nil, List.append_nil, Nat.zero_mul]
    exact h
  | i + 1 => by
    have Xi := ml_stand X cA comp N M i
    obtain ⟨f1, f2, -⟩ := ml_facts T cA comp N M i
    have hc : ((ml_st T cA comp N M i).pushCell (ml_r comp M)).heap[T.heap.size]? = some (ml_o cA T.heap.size N i) := by
      have n2 : T.heap.size < (ml_st T cA comp N M i).heap.size := by omega
      rw [State.heap_pushCell_of_lt _ _ n2]
      exact f2
    have h := (Xi.pushed (ml_r comp M)).stored hc i (.ref (T.heap.size + 1 + i))
    rw [show (ml_r comp M).slots.size = M from arrV_size _ _ _, ml_os] at h
    have e3 : slots + N + (i + 1) * M = slots + N + i * M + M := by
      rw [Nat.succ_mul]
      omega
    rw [List.range_succ, List.map_append, ← List.append_assoc, e3]
    exact h
section MLW
variable {E : CtlPost} {e : Env} {d : Bool} {acts : List Action} {s : State}
theorem ml_new {c comp : ClassId} {k : Class} {type : FieldType} {len : Nat} {init : Value} (hk : s.vm.classes[c]? = some k) (hkind : k.kind = .array comp type) (hl : len ≤ 1000) (hpl : e.platform.arrayLengthLimit = 2147483645) (hph : e.platform.maxHeapBytes = 536870912) (hby : componentBytes type ≤ 8) (hfit : fits type init = true) (hdef : init.isDefault = true) {Q : Addr → Pre} (h1 : s.heap.size < e.platform.maxCells) (h2 : s.slotsUsed + len ≤ e.platform.maxSlots) (hq : Q s.heap.size d acts (s.pushCell (arrV c len (fun _ => init)))) : wp (Jvm.newArray c len init) Q E e d acts s := by
  have a1 : ¬ len > e.platform.arrayLengthLimit := by omega
  have a2 : ¬ len * componentBytes type > e.platform.maxHeapBytes := by
    have := Nat.mul_le_mul hl hby
    omega
  have hall : allocActs (Array.replicate len init) s.heap.size acts = acts := by
    have h9 : ((Array.replicate len init).all (·.isDefault)) = true := by
      rw [Array.all_replicate]
      split <;> simp [hdef]
    unfold allocActs
    rw [if_pos h9]
  have hf : ∀ i v, (Array.replicate len init)[i]? = some v → s.fitsSlot c .none i v = true := by
    intro i v hv
    rw [Array.getElem?_replicate] at hv
    split at hv
    · cases hv
      simp [State.fitsSlot, State.slotType?, hk, hkind, hfit]
    · cases hv
  rw [← arrV_new] at hq
  simp only [Jvm.newArray, Jvm.arrayFits, wp_bind', W.ask, W.ite, a1, if_false, wp_pure', W.theClass, hk, hkind, W.alloc, W.stop, Option.some.injEq, exists_eq_left', Array.size_replicate, hall]
  rw [if_neg a2]
  rw [if_neg (show ¬ len > e.platform.maxSlots by omega)]
  exact ⟨h1, h2, hf, hq⟩
/-- one row -/
theorem ml_make1 {comp cc : ClassId} {kc : Class} {m : Int32} {M : Nat} (hkc : s.vm.classes[comp]? = some kc) (hkindc : kc.kind = .array cc .long) (hm : ¬ m < 0) (hM : m.toNatClampNeg = M) (hM1 : M ≤ 1000) (hpl : e.platform.arrayLengthLimit = 2147483645) (hph : e.platform.maxHeapBytes = 536870912) (h1 : s.heap.size < e.platform.maxCells) (h2 : s.slotsUsed + M ≤ e.platform.maxSlots) {Q : Addr → Pre} (hq : Q s.heap.size d acts (s.pushCell (ml_r comp M))) : wp (multianewarray.make comp [m]) Q E e d acts s := by
  subst hM
  rw [multianewarray.make]
  simp only [wp_bind', W.ite, hm, if_false, wp_pure', W.theClass, hkc, hkindc, Option.some.injEq, exists_eq_left']
  exact ml_new hkc hkindc hM1 hpl hph (by decide) rfl rfl h1 h2 hq
/-- all of it -/
theorem ml_make2 {c comp cc : ClassId} {k kc : Class} {n m : Int32} {N M : Nat} (hk : s.vm.classes[c]? = some k) (hkind : k.kind = .array comp (.array .long)) (hkc : s.vm.classes[comp]? = some kc) (hkindc : kc.kind = .array cc .long) (hn : ¬ n < 0) (hm : ¬ m < 0) (hN : n.toNatClampNeg = N) (hM : m.toNatClampNeg = M) (hN1 : N ≤ 1000) (hM1 : M ≤ 1000) (hpl : e.platform.arrayLengthLimit = 2147483645) (hph : e.platform.maxHeapBytes = 536870912) (hc : s.heap.size + (1 + N) ≤ e.platform.maxCells) (hs : s.slotsUsed + (N + N * M) ≤ e.platform.maxSlots) {Q : Addr → Pre} (hq : ∀ d' acts', Q s.heap.size d' acts' (ml_st s c comp N M N)) : wp (multianewarray.make c [n, m]) Q E e d acts s := by
  have hfind : ([m].find? (· < 0)) = none := by simp [hm]
  rw [multianewarray.make]
  simp only [wp_bind', W.ite, hn, if_false, wp_pure', W.theClass, hk, hkind, Option.some.injEq, exists_eq_left']
  rw [hN]
  refine ml_new hk hkind hN1 hpl hph (by decide) rfl rfl (by omega) (by have := Nat.zero_le (N * M); omega) ?_
  simp only [hfind]
  rw [ite_self, wp_bind', Std.Legacy.Range.forIn_eq_forIn_range']
  have hsz : ([:N] : Std.Legacy.Range).size = N := by simp [Std.Legacy.Range.size]
  rw [hsz]
  show wp (forIn (List.range' 0 N 1) PUnit.unit _) _ E e d acts _
  refine wp_forIn_inv (fun rest s' => ∃ i, i ≤ N ∧ rest = List.range' i (N - i) ∧ s' = ml_st s c comp N M i) _ _ ⟨0, Nat.zero_le _, rfl, ?_⟩ ?_ ?_
  · show s.pushCell (arrV c N (fun _ => .null)) = s.pushCell (ml_o c s.heap.size N 0)
    unfold ml_o
    congr 2
  · rintro x rest s' d' acts' Q' ⟨i, hi, hl, rfl⟩ hnext
    have hlt : i < N := by
      rcases Nat.lt_or_ge i N with h | h
      · exact h
      · rw [show N - i = 0 by omega] at hl
        cases hl
    rw [show N - i = (N - (i + 1)) + 1 by omega, List.range'_succ] at hl
    obtain ⟨rfl, hrest⟩ := List.cons.inj hl
    obtain ⟨f1, f2, f3, f4, -, -⟩ := ml_facts s c comp N M x
    have hmul : x * M + M ≤ N * M := by
      have := Nat.mul_le_mul_right M (show x + 1 ≤ N from hlt)
      rw [Nat.succ_mul] at this
      exact this
    simp only [wp_bind']
    refine ml_make1 (M := M) (by rw [f3]; exact hkc) hkindc hm hM hM1 hpl hph (by rw [f1]; omega) (by rw [f4]; omega) ?_
    simp only [wp_bind', W.writeLoc, wp_pure']
    refine ⟨ml_o c s.heap.size N x, ?_, ?_, ?_, ?_, hnext _ _ _ ⟨x + 1, hlt, hrest, ?_⟩⟩
    · have n2 : s.heap.size < (ml_st s c comp N M x).heap.size := by omega
      rw [State.heap_pushCell_of_lt _ _ n2]
      exact f2
    · intro h
      cases h
    · show x < (arrV _ _ _).slots.size
      rw [arrV_size]
      exact hlt
    · show State.fitsSlot _ c .none x _ = true
      simp [State.fitsSlot, State.slotType?, f3, hk, hkind] <;> rfl
    · rw [f1, ml_os]
      rfl
  · rintro s' d' acts' ⟨i, hi, hl, rfl⟩
    have hiN : i = N := by
      rcases Nat.lt_or_ge i N with h | h
      · rw [show N - i = (N - (i + 1)) + 1 by omega, List.range'_succ] at hl
        cases hl
      · omega
    subst hiN
    simp only [wp_pure']
    exact hq _ _
end MLW
/-- the class of the array of arrays, and its rows' -/
def ml_AO (U : State) : Prop := ∃ (comp cA : ClassId) (k kc : Class) (cc : ClassId), U.vm.findClass (FieldType.array .long).toString = some comp ∧ U.vm.classes[cA]? = some k ∧ k.kind = .array comp (.array .long) ∧ U.vm.findClass ("[" ++ (FieldType.array .long).toString) = some cA ∧ U.vm.classes[comp]? = some kc ∧ kc.kind = .array cc .long
theorem ml_AO.of {args : Array Value} {s : State} (hover : (Cond.arrayOver (.array .long)).before args s = true) (harr : (Cond.arrayClass .long).before args s = true) : ml_AO s := by
  obtain ⟨comp, cA, k, h1, -, h2, h3, h4⟩ := arrayOverA_spec hover
  obtain ⟨comp', kc, cc, g1, g2, g3⟩ := Cond.arrayClass_spec harr
  have e : comp' = comp := Option.some.inj (g1.symm.trans h1)
  subst e
  exact ⟨comp', cA, k, kc, cc, h1, h2, h3, h4, g2, g3⟩
theorem ml_AO.moved {u U : State} (hvm : u.vm.Alike U.vm) (h : ml_AO u) : ml_AO U := by
  obtain ⟨comp, cA, k, kc, cc, h1, h2, h3, h4, h5, h6⟩ := h
  obtain ⟨k', hk', he⟩ := hvm.2.2 _ _ h2
  obtain ⟨kc', hkc', hec⟩ := hvm.2.2 _ _ h5
  exact ⟨comp, cA, k', kc', cc, by rw [hvm.findClass]; exact h1, hk', by rw [he]; exact h3, by rw [hvm.findClass]; exact h4, hkc', by rw [hec]; exact h6⟩
theorem ml_W {p : Program} {l : Launch} {e : Env} {R : Room} {s : State} {m : MethodId} {args : Array Value} {below : List Frame} {meth : Method} {c : Code} {H : Heap} {locs : List Loc} {cells slots : Nat} {Q : State → Prop} {cc : ByteArray} {pc : Nat} {ls : Array Slot} {rest : List Value} (hexec : p.tables.exec = Jvm.exec) (hb : c.code = cc) {own : String} {index : Nat} (hown : s.vm.findClass own = some m.cls) (hclink : (Cond.classLink own index ("[" ++ (FieldType.array .long).toString)).before args s = true) (hAO : ml_AO s) {n k : Int32} {N M : Nat} (hn : ¬ n < 0) (hk : ¬ k < 0) (hN : n.toNatClampNeg = N) (hM : k.toNatClampNeg = M) (hN1 : N ≤ 1000) (hM1 : M ≤ 1000) (hcells : cells + (1 + N) ≤ R.cells) (hslots : slots + (N + N * M) ≤ R.slots) (hdg : decode cc pc = .ok (.multianewarray index 2, 4))
    (kk : ∀ (cA comp : ClassId) (H1 : Heap), s.vm.findClass ("[" ++ (FieldType.array .long).toString) = some cA → s.vm.findClass (FieldType.array .long).toString = some comp → H1.size = H.size + 1 + N → (∀ a : Nat, a < H.size → H1[a]? = H[a]?) → H1[H.size]? = some (ml_o cA H.size N N) → (∀ j : Nat, j < N → H1[H.size + 1 + j]? = some (ml_r comp M)) → W p l e R s m args below meth c H1 (locs ++ (List.range N).map fun j => ⟨H.size, j⟩) (cells + 1 + N) (slots + N + N * M) Q (F0 m (pc + 4) ls (.ref H.size :: rest))) : W p l e R s m args below meth c H locs cells slots Q (F0 m pc ls (.int k :: .int n :: rest)) := by
  intro T hT X
  subst hT; subst hb
  have hpl : e.platform.magicAccessors = ({} : Platform).magicAccessors := by rw [X.admits.platform]
  obtain ⟨comp, cA, kA, kC, cc, g1, g2, g3, g4, g5, g6⟩ := hAO
  obtain ⟨c0, hfc0, hcl⟩ := Cond.classLink_spec hown hclink e.platform hpl
  cases g4.symm.trans hfc0
  obtain ⟨hg₁, hwarm₁, hready₁⟩ := State.classEntry (e := e) X.warmed hcl
  generalize T.vm.noted m.cls index (.cls cA) = vm₁ at hg₁ hwarm₁ hready₁
  have hal : s.vm.Alike vm₁ := hwarm₁.alike
  obtain ⟨kA₁, hkA₁, heA⟩ := hal.2.2 _ _ g2
  obtain ⟨kC₁, hkC₁, heC⟩ := hal.2.2 _ _ g5
  have hkindA₁ : kA₁.kind = .array comp (.array .long) := by rw [heA]; exact g3
  have hkindC₁ : kC₁.kind = .array cc .long := by rw [heC]; exact g6
  have X₁ := X.noted hwarm₁
  obtain ⟨hr1, hr2⟩ := X.roomAbove hcells hslots
  have XF := ml_stand X₁ cA comp N M N
  obtain ⟨f1, f2, f3, f4, f5, f6⟩ := ml_facts (T.setVm vm₁) cA comp N M N
  obtain ⟨t, a1, b1⟩ := kk cA comp (ml_st (T.setVm vm₁) cA comp N M N).heap g4 g1 f1 f5 f2 f6 _ rfl XF
  have hl1 := Launch.admits_arrayLengthLimit X.admits
  have hh1 := Launch.admits_maxHeapBytes X.admits
  have step : ∀ g : JFrame, g.method = m → decode c.code g.pc = .ok (.multianewarray index 2, 4) → g.stack = .int k :: .int n :: rest → Steps p.tables e below ((ml_st (T.setVm vm₁) cA comp N M N).setTop { g with pc := g.pc + 4, stack := .ref T.heap.size :: rest }) t → Steps p.tables e below (T.setTop g) t := by
    intro g hg hdg hstack hrest
    subst hg
    jvm_step X.here [hexec, hdg]
    simp only [multianewarray.sem, wp_bind', W.resolveClassAt_links (State.method?_setTop g X.here.top) hg₁]
    rw [W.popN, if_neg (by decide)]
    refine ⟨g, State.topJava?_setTop' (s := T.setVm vm₁) g X.here.top, [.int n, .int k], rest, rfl, hstack, ?_⟩
    simp only [List.mapM_cons, List.mapM_nil, wp_bind', wp_pure']
    refine ml_make2 (k := kA₁) (kc := kC₁) (comp := comp) (cc := cc) (N := N) (M := M) hkA₁ hkindA₁ hkC₁ hkindC₁ hn hk hN hM hN1 hM1 hl1 hh1 (by show T.heap.size + _ ≤ _; exact hr1) (by show T.slotsUsed + _ ≤ _; exact hr2) (fun d' acts' => ?_)
    have eS : ((T.setTop g).setVm vm₁).setTop { g with stack := rest } = (T.setVm vm₁).setTop { g with stack := rest } := by
      show ((T.setVm vm₁).setTop g).setTop _ = _
      rw [State.setTop_setTop]
    rw [eS, ml_top]
    simp only [wp_bind', W.mark, W.pushRef, State.topJava?_setTop' _ XF.here.top, Option.some.injEq, exists_eq_left', State.setTop_setTop, State.heap_setTop]
    intro acts
    simp [jvm, XF.here.top]
    exact hrest
  exact ⟨t, step (F0 m pc ls (.int k :: .int n :: rest)) rfl hdg rfl a1, b1⟩
