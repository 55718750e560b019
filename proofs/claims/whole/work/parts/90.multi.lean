/-! an array of arrays of longs, made by one instruction: what holds while its rows come, one behind the other.
P tells of a state what the walk knows of it (places written, cells and slots spent); it is kept by a new cell and by a store. -/
def mq_row (cB : ClassId) (M : Nat) : Cell := arrV cB M (fun _ => .long 0)
theorem mq_arr {cA : ClassId} {N : Nat} {F G : Nat → Value} (h : ∀ j, j < N → F j = G j) : arrV cA N F = arrV cA N G := by
  have q : (fun j : Fin N => F j.val) = fun j : Fin N => G j.val := funext fun j => h j.val j.isLt
  unfold arrV
  rw [q]
def mq_ok (P : State → List Loc → Nat → Nat → Prop) : Prop := (∀ V L a b (x : Cell), P V L a b → P (V.pushCell x) L (a + 1) (b + x.slots.size)) ∧ ∀ (V : State) L a b (y : Addr) (x : Cell) i v, V.heap[y]? = some x → P V L a b → P (V.setCell y (x.setSlot i v)) (L ++ [⟨y, i⟩]) a b
/-- i rows are there, behind the array itself, which has their references -/
def mq_I (P : State → List Loc → Nat → Nat → Prop) (H : Heap) (w : Vm) (cA cB : ClassId) (N M i : Nat) (V : State) : Prop :=
  V.vm = w ∧ V.heap.size = H.size + 1 + i ∧ (∃ L, P V L (1 + i) (N + i * M) ∧ ∀ q ∈ L, q.base = H.size) ∧ (∃ F, V.heap[H.size]? = some (arrV cA N F) ∧ ∀ j, j < i → F j = .ref (H.size + 1 + j)) ∧ (∀ a : Nat, a < H.size → V.heap[a]? = H[a]?) ∧ ∀ j : Nat, j < i → V.heap[H.size + 1 + j]? = some (mq_row cB M)
theorem mq_first {P : State → List Loc → Nat → Nat → Prop} {cA cB : ClassId} {N M : Nat} {V : State} (hP : mq_ok P) (h : P V [] 0 0) : mq_I P V.heap V.vm cA cB N M 0 (V.pushCell (arrV cA N fun _ => .null)) := by
  have h1 := hP.1 V [] 0 0 (arrV cA N fun _ => .null) h
  rw [arrV_size] at h1
  have no : ∀ {X : Prop} (j : Nat), j < 0 → X := fun j hj => absurd hj (Nat.not_lt_zero j)
  exact ⟨rfl, Array.size_push _, ⟨[], by simpa using h1, fun q hq => nomatch hq⟩, ⟨_, State.heap_pushCell_size _ _, fun j hj => no j hj⟩, fun a ha => State.heap_pushCell_of_lt _ _ ha, fun j hj => no j hj⟩
theorem mq_next {P : State → List Loc → Nat → Nat → Prop} {H : Heap} {w : Vm} {cA cB : ClassId} {N M i : Nat} {V : State} {x : Cell} (hP : mq_ok P) (h : mq_I P H w cA cB N M i V) (hx : V.heap[H.size]? = some x) : mq_I P H w cA cB N M (i + 1) ((V.pushCell (mq_row cB M)).setCell H.size (x.setSlot i (.ref V.heap.size))) := by
  obtain ⟨hw, hz, ⟨L, hL, hb⟩, ⟨F, hF, hr⟩, ho, hn⟩ := h
  have ex : x = arrV cA N F := Option.some.inj (hx.symm.trans hF)
  subst ex
  have old : ∀ a : Nat, a < V.heap.size → (V.pushCell (mq_row cB M)).heap[a]? = V.heap[a]? := fun a ha => State.heap_pushCell_of_lt _ _ ha
  have out : ∀ a : Nat, a ≠ H.size → ((V.pushCell (mq_row cB M)).setCell H.size ((arrV cA N F).setSlot i (.ref V.heap.size))).heap[a]? = (V.pushCell (mq_row cB M)).heap[a]? := fun a ha => State.heap_setCell_other (Ne.symm ha)
  have own := (old H.size (by omega)).trans hF
  have hp := hP.2 _ _ _ _ _ _ i (.ref V.heap.size) own (hP.1 V L _ _ (mq_row cB M) hL)
  have hsz : (mq_row cB M).slots.size = M := arrV_size _ _ _
  rw [hsz, show N + i * M + M = N + (i + 1) * M by rw [Nat.succ_mul, Nat.add_assoc]] at hp
  refine ⟨hw, ?_, ⟨_, hp, fun q hq => ?_⟩, ⟨updV F i (.ref V.heap.size), ?_, fun j hj => ?_⟩, fun a ha => ?_, fun j hj => ?_⟩
  · have h1 : (V.pushCell (mq_row cB M)).heap.size = V.heap.size + 1 := Array.size_push _
    have h2 : ∀ y : Cell, ((V.pushCell (mq_row cB M)).setCell H.size y).heap.size = (V.pushCell (mq_row cB M)).heap.size := fun y => Array.size_setIfInBounds
    rw [h2, h1, hz, Nat.add_assoc]
  · rcases List.mem_append.mp hq with h1 | h1
    · exact hb q h1
    · rw [List.mem_singleton.mp h1]
  · rw [← arrV_store]
    exact State.heap_setCell_self own
  · unfold updV
    split
    · next q => rw [q, hz]
    · exact hr j (by omega)
  · rw [out a (by omega), old a (by omega)]
    exact ho a ha
  · rw [out _ (by omega)]
    rcases Nat.lt_or_eq_of_le (Nat.le_of_lt_succ hj) with h1 | h1
    · rw [old _ (by omega)]
      exact hn j h1
    · rw [h1, ← hz]
      exact State.heap_pushCell_size _ _
/-- a loop over i, i + 1, .. N - 1 that keeps J comes to ONE state, whatever is asked behind it -/
theorem mq_loop {e : Env} {f : JFrame} {N : Nat} {J : Nat → State → Prop} {g : Nat → PUnit → Sem (ForInStep PUnit)} (hg : ∀ i V, i < N → J i V → ∃ V', J (i + 1) V' ∧ ∀ (E : CtlPost) d acts (K : ForInStep PUnit → Pre), (∀ d' acts', K (.yield .unit) d' acts' (V'.setTop f)) → wp (g i .unit) K E e d acts (V.setTop f)) : ∀ r i V, i + r = N → J i V → ∃ V', J N V' ∧ ∀ (E : CtlPost) d acts (Q : PUnit → Pre), (∀ d' acts', Q .unit d' acts' (V'.setTop f)) → wp (forIn (List.range' i r) PUnit.unit g) Q E e d acts (V.setTop f)
  | 0, i, V, hi, h => by
    rw [Nat.add_zero] at hi
    subst hi
    refine ⟨V, h, fun E d acts Q hQ => ?_⟩
    simp only [List.range'_zero, List.forIn_nil, wp_pure']
    exact hQ d acts
  | r + 1, i, V, hi, h => by
    obtain ⟨V1, h1, w1⟩ := hg i V (by omega) h
    obtain ⟨V2, h2, w2⟩ := mq_loop hg r (i + 1) V1 (by omega) h1
    refine ⟨V2, h2, fun E d acts Q hQ => ?_⟩
    simp only [List.range'_succ, List.forIn_cons, wp_bind']
    exact w1 E d acts _ fun d' acts' => w2 E d' acts' Q hQ
section MQW
variable {E : CtlPost} {e : Env} {d : Bool} {acts : List Action}
theorem mq_lens (hl : e.platform.arrayLengthLimit = 2147483645) (hm : e.platform.maxHeapBytes = 536870912) {t : FieldType} {N : Nat} (hN : N ≤ 1000) (ht : componentBytes t ≤ 8) : ¬ N > e.platform.arrayLengthLimit ∧ ¬ N * componentBytes t > e.platform.maxHeapBytes := by
  have := Nat.mul_le_mul hN ht
  omega
theorem mq_one {U : State} {cB cc : ClassId} {kB : Class} {k : Int32} {M : Nat} {Q : Addr → Pre} (hl : e.platform.arrayLengthLimit = 2147483645) (hm : e.platform.maxHeapBytes = 536870912) (hB : U.vm.classes[cB]? = some kB) (tB : kB.kind = .array cc .long) (hk : ¬ k < 0) (hM : k.toNatClampNeg = M) (lM : M ≤ 1000) (hr : U.heap.size < e.platform.maxCells ∧ U.slotsUsed + M ≤ e.platform.maxSlots) (hQ : ∀ acts', Q U.heap.size d acts' (U.pushCell (mq_row cB M))) : wp (multianewarray.make cB [k]) Q E e d acts U := by
  obtain ⟨l1, l2⟩ := mq_lens (t := .long) hl hm lM (by decide)
  unfold multianewarray.make
  simp only [wp_bind', W.ite, if_neg hk, wp_pure', W.theClass, hB, tB, Option.some.injEq, exists_eq_left', hM]
  refine W.newArray_of hB tB l1 l2 hr.1 hr.2 rfl fun acts' => ?_
  have h := hQ acts'
  unfold mq_row at h
  rw [← arrV_new] at h
  exact h
theorem mq_make {P : State → List Loc → Nat → Nat → Prop} {cA cB cc : ClassId} {N M : Nat} {V : State} {f : JFrame} {kA kB : Class} {n k : Int32} (hP : mq_ok P) (hr : ∀ V L i, i < N → P V L (1 + i) (N + i * M) → V.heap.size < e.platform.maxCells ∧ V.slotsUsed + M ≤ e.platform.maxSlots) (h0 : P V [] 0 0) (hr0 : V.heap.size < e.platform.maxCells ∧ V.slotsUsed + N ≤ e.platform.maxSlots) (hl : e.platform.arrayLengthLimit = 2147483645) (hm : e.platform.maxHeapBytes = 536870912) (hA : V.vm.classes[cA]? = some kA) (tA : kA.kind = .array cB (.array .long)) (hB : V.vm.classes[cB]? = some kB) (tB : kB.kind = .array cc .long) (hn : ¬ n < 0) (hk : ¬ k < 0) (hN : n.toNatClampNeg = N) (hM : k.toNatClampNeg = M) (lN : N ≤ 1000) (lM : M ≤ 1000) : ∃ G, mq_I P V.heap V.vm cA cB N M N G ∧ ∀ (E : CtlPost) d acts (Q : Addr → Pre), (∀ d' acts', Q V.heap.size d' acts' (G.setTop f)) → wp (multianewarray.make cA [n, k]) Q E e d acts (V.setTop f) := by
  obtain ⟨l1, l2⟩ := mq_lens (t := .array .long) hl hm lN (by decide)
  have hf : List.find? (fun x => decide (x < 0)) [k] = none := List.find?_eq_none.mpr fun x hx => by
    rw [List.mem_singleton.mp hx]
    simpa using hk
  have hz : Std.Legacy.Range.size [:N] = N := by simp [Std.Legacy.Range.size]
  obtain ⟨G, hG, wG⟩ := mq_loop (e := e) (f := f) (N := N) (J := mq_I P V.heap V.vm cA cB N M) (g := fun i _ => do
      let r ← multianewarray.make cB [k]
      writeLoc V.heap.size i (.ref r)
      Pure.pure (ForInStep.yield PUnit.unit)) (fun i G hi hI => by
    obtain ⟨hw, hs, ⟨L, hL, -⟩, ⟨F, hF, -⟩, -⟩ := id hI
    refine ⟨_, mq_next hP hI hF, fun E d acts K hK => ?_⟩
    simp only [wp_bind']
    refine mq_one (kB := kB) hl hm (by rw [State.vm_setTop, hw]; exact hB) tB hk hM lM (hr G L i hi hL) fun acts' => ?_
    rw [wp_bind', W.writeLoc]
    refine ⟨arrV cA N F, (State.heap_pushCell_of_lt _ _ (by show V.heap.size < G.heap.size; omega)).trans hF, nofun, ?_, ?_, ?_⟩
    · rw [arrV_size]
      exact hi
    · have fit : ((G.setTop f).pushCell (mq_row cB M)).fitsSlot cA .none i (.ref G.heap.size) = fits (.array .long) (.ref G.heap.size) := by
        simp [State.fitsSlot, State.slotType?, hw, hA, tA]
      exact fit
    · rw [wp_pure']
      exact hK _ _) N 0 _ (Nat.zero_add N) (mq_first hP h0)
  refine ⟨G, hG, fun E d acts Q hQ => ?_⟩
  unfold multianewarray.make
  simp only [wp_bind', W.ite, if_neg hn, wp_pure', W.theClass, State.vm_setTop, hA, tA, Option.some.injEq, exists_eq_left', hN]
  refine W.newArray_of (s := V.setTop f) hA tA l1 l2 hr0.1 hr0.2 rfl fun acts1 => ?_
  simp only [hf, ite_self, wp_bind', Std.Legacy.Range.forIn_eq_forIn_range', hz]
  rw [arrV_new]
  refine wG E d acts1 _ fun d' acts' => ?_
  rw [wp_pure']
  exact hQ d' acts'
end MQW
/-- a class of arrays -/
def mq_is (U : State) (a b : ClassId) (t : FieldType) : Prop := ∃ k, U.vm.classes[a]? = some k ∧ k.kind = .array b t
theorem mq_is.moved {u U : State} {a b : ClassId} {t : FieldType} (h : u.vm.Alike U.vm) : mq_is u a b t → mq_is U a b t
  | ⟨_, hk, ht⟩ => match h.2.2 _ _ hk with
    | ⟨z, hz, q⟩ => ⟨z, hz, by rw [q]; exact ht⟩
/-- the class of the array of arrays, and its rows' -/
def mq_AO (U : State) : Prop := ∃ cA cB cC, (U.vm.findClass ("[" ++ (FieldType.array .long).toString) = some cA ∧ U.vm.findClass (FieldType.array .long).toString = some cB) ∧ mq_is U cA cB (.array .long) ∧ mq_is U cB cC .long
theorem mq_AO.moved {u U : State} (h : u.vm.Alike U.vm) : mq_AO u → mq_AO U
  | ⟨cA, cB, cC, n, iA, iB⟩ => ⟨cA, cB, cC, by rw [h.findClass, h.findClass]; exact n, iA.moved h, iB.moved h⟩
theorem mq_AO.of {args : Array Value} {s : State} (h1 : (Cond.arrayOver (.array .long)).before args s = true) (h2 : (Cond.arrayClass .long).before args s = true) : mq_AO s := by
  obtain ⟨cB, cA, kA, nB, -, hA, tA, nA⟩ := arrayOverA_spec h1
  obtain ⟨cX, kB, cC, nX, hB, tB⟩ := Cond.arrayClass_spec h2
  cases nX.symm.trans nB
  exact ⟨cA, _, cC, ⟨nA, nB⟩, ⟨kA, hA, tA⟩, kB, hB, tB⟩
section MQS
variable {p : Program} {l : Launch} {e : Env} {R : Room} {s : State} {m : MethodId} {args : Array Value} {below : List Frame} {meth : Method} {c : Code} {H : Heap} {locs : List Loc} {cells slots : Nat} {Q : State → Prop}
def mq_P (p : Program) (l : Launch) (e : Env) (R : Room) (s : State) (m : MethodId) (args : Array Value) (below : List Frame) (meth : Method) (c : Code) (locs : List Loc) (cells slots : Nat) (V : State) (L : List Loc) (a b : Nat) : Prop := Stand p l e R s m args below meth c V (locs ++ L) (cells + a) (slots + b)
theorem mq_P.ok : mq_ok (mq_P p l e R s m args below meth c locs cells slots) :=
  ⟨fun V L a b x h => by
    have q := Stand.pushed h x
    rw [Nat.add_assoc, Nat.add_assoc] at q
    exact q, fun V L a b y x i v hx h => by
    have q := Stand.stored h hx i v
    rw [List.append_assoc] at q
    exact q⟩
theorem mq_W {cd : ByteArray} {pc idx : Nat} {ls : Array Slot} {rest : List Value} {own : String} {n k : Int32} {N M : Nat} (hexec : p.tables.exec = Jvm.exec) (hb : c.code = cd) (hown : s.vm.findClass own = some m.cls) (hcl : (Cond.classLink own idx ("[" ++ (FieldType.array .long).toString)).before args s = true) (hAO : mq_AO s) (hd : decode cd pc = .ok (.multianewarray idx 2, 4)) (hn : ¬ n < 0) (hk : ¬ k < 0) (hN : n.toNatClampNeg = N) (hM : k.toNatClampNeg = M) (lN : N ≤ 1000) (lM : M ≤ 1000) (hc : cells + (1 + N) ≤ R.cells) (hs : slots + (N + N * M) ≤ R.slots)
    (h : ∀ (cA cB : ClassId) (G : Heap) (L : List Loc), s.vm.findClass ("[" ++ (FieldType.array .long).toString) = some cA → s.vm.findClass (FieldType.array .long).toString = some cB → (∀ q ∈ L, q.base = H.size) → G.size = H.size + 1 + N → G[H.size]? = some (arrV cA N fun j => .ref (H.size + 1 + j)) → (∀ a : Nat, a < H.size → G[a]? = H[a]?) → (∀ j : Nat, j < N → G[H.size + 1 + j]? = some (mq_row cB M)) → W p l e R s m args below meth c G (locs ++ L) (cells + (1 + N)) (slots + (N + N * M)) Q (F0 m (pc + 4) ls (.ref H.size :: rest))) : W p l e R s m args below meth c H locs cells slots Q (F0 m pc ls (.int k :: .int n :: rest)) := by
  rintro T rfl X
  subst hb
  obtain ⟨cA, cB, cC, ⟨nA, nB⟩, iA, iB⟩ := hAO
  obtain ⟨cX, nX, lk⟩ := Cond.classLink_spec hown hcl e.platform (by rw [X.admits.platform])
  cases nX.symm.trans nA
  obtain ⟨gv, wm, -⟩ := State.classEntry (e := e) X.warmed lk
  obtain ⟨w, hw⟩ : ∃ w, w = T.vm.noted m.cls idx (.cls cA) := ⟨_, rfl⟩
  rw [← hw] at gv wm
  have Y := X.noted wm
  obtain ⟨kA, hA, tA⟩ := iA.moved (U := T.setVm w) wm.alike
  obtain ⟨kB, hB, tB⟩ := iB.moved (U := T.setVm w) wm.alike
  have le : ∀ i, i < N → i * M + M ≤ N * M := fun i hi => by
    have q := Nat.mul_le_mul_right M hi
    rwa [Nat.succ_mul] at q
  obtain ⟨G, ⟨-, hz, ⟨L, hL, hq⟩, ⟨F, hF, hr⟩, ho, hrow⟩, wG⟩ := mq_make (e := e) (f := F0 m pc ls rest) (V := T.setVm w) (P := mq_P p l e R s m args below meth c locs cells slots) mq_P.ok (fun V L i hi hV => by
    have q := le i hi
    exact Stand.roomAbove hV (a := 1) (b := M) (by omega) (by omega)) (by
    have q := Y
    rw [← List.append_nil locs] at q
    exact q) (X.roomAbove (a := 1) (b := N) (by omega) (by omega)) (Launch.admits_arrayLengthLimit X.admits) (Launch.admits_maxHeapBytes X.admits) hA tA hB tB hn hk hN hM lN lM
  rw [mq_arr hr] at hF
  obtain ⟨t, st, hQ⟩ := h cA cB G.heap L nA nB hq hz hF ho hrow G rfl hL
  refine ⟨t, ?_, hQ⟩
  jvm_step X.here [hexec, hd]
  unfold multianewarray.sem
  rw [wp_bind', W.resolveClassAt_links (State.method?_setTop _ X.here.top) gv]
  show wp _ _ _ e _ _ ((T.setVm w).setTop (F0 m pc ls (.int k :: .int n :: rest)))
  rw [wp_bind']
  refine (popN_top (args := [.int n, .int k]) (rest := rest) Y.here.top rfl).mpr ?_
  simp only [List.mapM_cons, List.mapM_nil, wp_bind', wp_pure']
  refine wG _ _ _ _ fun d' acts' => ?_
  have top : G.topJava?.isSome := (show Stand p l e R s m args below meth c G _ _ _ from hL).here.top
  simp [jvm, top]
  exact st
end MQS
