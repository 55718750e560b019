def px_end (k pc : Nat) (r : Option Value) : Prop :=
  (∃ v, r = some (.int v) ∧ decode (px_by k) pc = .ok (.ireturn, 1) ∧ px_rk (px_rt k) v) ∨ (∃ v, r = some (.long v) ∧ decode (px_by k) pc = .ok (.lreturn, 1) ∧ px_rt k = 3) ∨ (∃ a, r = some (.ref a) ∧ decode (px_by k) pc = .ok (.areturn, 1) ∧ (px_rt k = 4 ∨ px_rt k = 7) ∧ a ≠ 1003) ∨ (r = none ∧ decode (px_by k) pc = .ok (.return_, 1) ∧ px_rt k = 0)
def px_Rt (p : Program) (l : Launch) (e : Env) (R : Room) (s : State) (m : MethodId) (args : Array Value) (below : List Frame) (meth : Method) (c : Code) (cells slots : Nat) (Qm : State → Prop) (g k : Nat) (D : va_G) (cA : Nat → ClassId) (ar : Nat → Nat) (fv : Value) (ro : Nat → Nat → Int32) (A : Nat → Prop) (Q : px_Po) : Prop :=
  ∀ (r : Option Value) (M : px_Mem) (pc : Nat) (jls : Array Slot) (H : Heap) (locs : List Loc), Q r M → va_P D px_cls (px_ws g ar cA M) H → va_D A (px_ws g ar cA M) → va_S A s.heap H locs → px_ro ro M → px_end k pc r → W p l e R s m args below meth c H locs cells slots Qm (F0 m pc jls (r.toList.map (px_cv fv ar)))
theorem px_blind {g : Nat} {D : va_G} {cA : Nat → ClassId} {ar : Nat → Nat} {fv : Value} {ro : Nat → Nat → Int32} {A : Nat → Prop} {Lx : Nat} {M : px_Mem} {av : List Value} : FrameBlind (va_Pc av (px_Iv g D cA ar fv ro A Lx M)) := fun a U g' mk q => by
  obtain ⟨q0, qP, qK, qD, qR, qS⟩ := q
  exact ⟨q0, qP, va_K.moved (u := U) (U := U.calling g' mk a) (Vm.Alike.refl U.vm) qK, qD, qR, px_ST_same (u := U) (U := U.calling g' mk a) rfl qS⟩
theorem px_sum_cv {fv : Value} {ar : Nat → Nat} (hfv : fv = .null ∨ ∃ t, fv = .ref t) {r : List Value} : ((r.map (px_cv fv ar)).map fun v => v.category).sum = (r.map fun v => v.category).sum := by
  rw [List.map_map]
  rw [show ((fun v : Value => v.category) ∘ px_cv fv ar) = fun v => v.category from funext fun v => px_cv_cat (px_fcat hfv)]
def px_Wm (y : Nat) : Prop := Cond.code (px_yn y) (px_by y) (px_ml y) (px_rty (px_rt y)) ∈ px_gw ∧ Cond.initialized (px_yn y).cls ∈ px_gw ∧ (px_yn y).cls = px_cn (px_ow y) ∧ plainName (px_yn y).cls = true ∧ (px_yn y).cls ≠ "java/lang/invoke/MethodHandle" ∧ (px_yn y).cls ≠ "java/lang/invoke/VarHandle"
theorem px_Wm_of {y : Nat} (hy : y < px_LAW) : px_Wm y := by
  have h := px_wm_all y hy
  unfold px_wm at h
  simp only [Bool.and_eq_true, decide_eq_true_eq] at h
  obtain ⟨⟨⟨⟨⟨h1, h2⟩, h3⟩, h4⟩, h5⟩, h6⟩ := h
  exact ⟨px_w_in h1, px_w_in h2, h3, h4, h5, h6⟩
theorem px_wsy_gw {y : Nat} (hy : y < px_LAW) : ∀ w ∈ px_wsy y, w ∈ px_gw := by
  intro w hw
  rcases List.mem_cons.mp hw with rfl | h
  · exact (px_Wm_of hy).1
  · exact h
def px_cokp (k y : Nat) (st : List Value) : Prop := px_na y ≤ st.length ∧ ((st.drop (px_na y)).map fun v => v.category).sum ≤ 8 ∧ px_nf y + 1 ≤ px_nf k ∧ 19 + px_ml y + px_nl y ≤ px_nl k ∧ (px_en (st.take (px_na y)).reverse).length ≤ px_ml y ∧ px_wf y 0 (px_en (st.take (px_na y)).reverse) = true
theorem px_cok_p {k y : Nat} {st : List Value} (h : px_cok k y st = true) : px_cokp k y st := by
  unfold px_cok at h
  simp only [Bool.and_eq_true, decide_eq_true_eq] at h
  obtain ⟨⟨⟨⟨⟨h1, h2⟩, h3⟩, h4⟩, h5⟩, h6⟩ := h
  exact ⟨h1, h2, h3, h4, h5, h6⟩
theorem px_np_p {y n : Nat} (h : px_np y n = true) : ∀ sig, parseMethodDescriptor (px_yn y).desc = some sig → n = sig.parameters.length := by
  intro sig hs
  have h2 := of_decide_eq_true h
  rw [hs] at h2
  exact (Option.some.inj h2).symm
section PXU
variable {p : Program} {l : Launch} {e : Env} {R : Room} {s : State} {m : MethodId} {args : Array Value} {below : List Frame} {meth : Method} {c : Code} {cells slots : Nat} {Qm : State → Prop} {g k : Nat} {D : va_G} {cA : Nat → ClassId} {ar : Nat → Nat} {fv : Value} {ro : Nat → Nat → Int32} {A : Nat → Prop} {Lx : Nat} {pc : Nat} {ls : px_Lo} {M : px_Mem} {r : List Value}
theorem px_callW {rest st0 : List Value} {H : Heap} {locs : List Loc} {jls : Array Slot} {Q' : px_Po} {a : Array Value} (hr : va_Run p l e R s m args below meth c H locs cells slots 0 0 (F0 m pc jls st0) rest (px_Qc g D cA ar fv ro A Lx Q' a) A) (hS : va_S A s.heap H locs) (kk : ∀ (r : Option Value) (M' : px_Mem) (H1 : Heap) (locs1 : List Loc), Q' r M' → va_P D px_cls (px_ws g ar cA M') H1 → va_D A (px_ws g ar cA M') → va_S A s.heap H1 locs1 → px_ro ro M' → W p l e R s m args below meth c H1 locs1 cells slots Qm (F0 m (pc + 3) jls ((r.map (px_cv fv ar)).toList ++ rest))) : W p l e R s m args below meth c H locs cells slots Qm (F0 m pc jls st0) := by
  intro T hT X
  obtain ⟨v, st₀, t, T', L, h0, X', hL, e1, e2, ⟨⟨r, M', hv, hp, hb⟩, hz, hk⟩, st⟩ := hr T hT X
  cases hv
  rw [h0] at hz hk
  obtain ⟨t2, a1, b1⟩ := kk r M' T'.heap (locs ++ L) hp (by rw [e1]; exact hb.1) hb.2.2.1
    ⟨Nat.le_trans hS.1 (by rw [e1]; exact hz), fun q h1 h2 => by rw [e1, hk q (Nat.lt_of_lt_of_le h1 hS.1) h2]; exact hS.2.1 q h1 h2, fun q hq => by
      rcases List.mem_append.mp hq with h | h
      · exact hS.2.2 q h
      · exact hL q h⟩ hb.2.2.2.1 T' rfl X'
  exact ⟨t2, st t2 a1, b1⟩
theorem px_pre {y : Nat} {vs : List Value} {H : Heap} {locs : List Loc} (C : px_Cx p R s m args c cells slots g k D cA ar fv ro A Lx) (hP : va_P D px_cls (px_ws g ar cA M) H) (hD : va_D A (px_ws g ar cA M)) (hS : va_S A s.heap H locs) (hR : px_ro ro M) (U : State) (hU : U.heap = H) (hW : s.WarmedH U.vm) : va_Pc (vs.map (px_cv fv ar)) (px_Iv g D cA ar fv ro A Lx M) (vs.map (px_cv fv ar)).toArray U :=
  ⟨rfl, by rw [hU]; exact hP, va_K.moved hW.alike C.2.2.2.2.2.2.2.1, hD, hR, px_ST_warm hW (by rw [hU]; exact hS.1) (fun a h1 h2 => by rw [hU]; exact hS.2.1 a h1 h2) C.2.2.2.2.2.2.2.2.1⟩
theorem px_words {y : Nat} {st : List Value} (C : px_Cx p R s m args c cells slots g k D cA ar fv ro A Lx) (hy : y < px_LAW) (ho : px_cokp k y st) : ((px_rm y).cells = 0 ∧ (px_rm y).slots = 0 ∧ (px_rm y).frames + 1 ≤ R.frames ∧ 8 + (px_ml y + 11) + (px_rm y).locals ≤ R.locals ∧ (∀ w ∈ px_wsy y, ∀ (a' : Array Value) (U : State), s.WarmedH U.vm → w.before a' U = true) ∧ Cond.code (px_yn y) (px_by y) (px_ml y) (px_rty (px_rt y)) ∈ px_wsy y) ∧ (Cond.code (px_yn y) (px_by y) (px_ml y) (px_rty (px_rt y))).before args s = true ∧ (Cond.initialized (px_yn y).cls).before args s = true ∧ ((px_yn y).cls ≠ "java/lang/invoke/MethodHandle" ∧ (px_yn y).cls ≠ "java/lang/invoke/VarHandle") := by
  obtain ⟨hx, hb, hml, hown, hts, hrm, hcs, hK, hST, hfv⟩ := C
  obtain ⟨w1, w2, w3, w4, w5, w6⟩ := px_Wm_of hy
  obtain ⟨o1, o2, o3, o4, o5, o6⟩ := ho
  refine ⟨⟨rfl, rfl, Nat.le_trans o3 hrm.1, ?_, fun w hw a' U hW => word_at hW (px_gw_good (px_wsy_gw hy w hw)) (hts w (px_wsy_gw hy w hw)), List.mem_cons_self⟩, hts _ w1, hts _ w2, w5, w6⟩
  have h1 := hrm.2
  show 8 + (px_ml y + 11) + px_nl y ≤ R.locals
  omega
theorem px_x_callV {i y pl : Nat} {st : List Value} {Q' : px_Po} (C : px_Cx p R s m args c cells slots g k D cA ar fv ro A Lx) (hd : decode (px_by k) pc = .ok (.invokevirtual i, 3)) (hf : px_clk (px_ow k) i = some (y, 0, pl)) (hrv : px_recv g y st) (hok : px_cok k y st = true) (hM : px_Mt l g D cA ar fv ro A Lx y (st.take (px_na y)).reverse M Q') (h : ∀ (r : Option Value) (M' : px_Mem), Q' r M' → px_G p l e R s m args below meth c cells slots Qm g k D cA ar fv ro A (pc + 3) (ls) (r.toList ++ st.drop (px_na y)) (M')) : px_G p l e R s m args below meth c cells slots Qm g k D cA ar fv ro A (pc) (ls) (st) (M) := by
  intro H locs jls hP hD hS hR hl hw
  have hC := C
  obtain ⟨hx, hb, hml, hown, hts, hrm, hcs, hK, hST, hfv⟩ := hC
  have hk := List.all_eq_true.mp (px_qm_all (px_ow k)) _ (px_lk_in hf)
  have hk : (px_w pl (.methodLink (px_cn (px_ow k)) i (px_yn y)) && px_wi y && decide (y < px_LAW)) = true := hk
  unfold px_wi at hk
  simp only [Bool.and_eq_true, decide_eq_true_eq] at hk
  obtain ⟨⟨k1, ⟨⟨⟨w1, w2⟩, w3⟩, w4⟩⟩, hy⟩ := hk
  have ho := px_cok_p hok
  have hwd := px_words C hy ho
  obtain ⟨o1, o2, o3, o4, o5, o6⟩ := ho
  obtain ⟨v1, v2, v3, v4, v5, v6⟩ := px_Wm_of hy
  have hlen : (st.take (px_na y)).reverse.length = px_na y := by rw [List.length_reverse, List.length_take]; omega
  have hsplit : st = (st.take (px_na y)).reverse.reverse ++ st.drop (px_na y) := by rw [List.reverse_reverse, List.take_append_drop]
  unfold px_recv at hrv
  generalize hvs : (st.take (px_na y)).reverse = vs at hrv hM hlen hsplit
  match vs, hrv, hM, hlen, hsplit with
  | .ref a :: As, ha, hM, hlen, hsplit =>
    have hca : px_cv fv ar (.ref a) = .ref (ar a) := px_cv_r (px_sh_ne ha)
    have hst : st.map (px_cv fv ar) = (As.map (px_cv fv ar)).reverse ++ .ref (ar a) :: (st.drop (px_na y)).map (px_cv fv ar) := by
      conv => lhs; rw [hsplit]
      rw [List.reverse_cons, List.map_append, List.map_append, List.map_reverse, List.map_cons, hca]
      simp
    have hn : (As.map (px_cv fv ar)).length = px_na y - 1 := by
      rw [List.length_map]
      have : As.length + 1 = px_na y := hlen
      omega
    have hcell : ∃ cellB : Cell, H[ar a]? = some cellB ∧ cellB.vm.isStatics = false ∧ s.vm.findClass (px_yn y).cls = some cellB.cls := by
      rw [v3]
      have h0 := px_sh_0 ha
      by_cases hw2 : a < 1000
      · obtain ⟨q, hq, hwq⟩ := px_ws_get (ar := ar) (cA := cA) (M := M) (px_sh_L ha hw2)
        rw [px_e_o h0] at hwq
        have hci := px_sh0_c hw2 h0
        have hlt : px_ow y < px_cls.length := hci
        have hr := px_cn_cls _ (px_sh0_c1 hw2 h0) hci _ (List.getElem?_eq_getElem hlt)
        rw [← hr]
        exact va_recv hK hP (List.getElem?_eq_getElem hlt) hwq
      · obtain ⟨i', hi', rfl, hci⟩ := px_ro_o hw2 h0
        rw [hci]
        obtain ⟨cell, c1, c2, c3, c4⟩ := ((hST (px_sh_g ha hw2)).2.2.2.1 i' hi').1
        exact ⟨cell, by rw [hS.2.1 _ (Array.getElem?_eq_some_iff.mp c1).1 c4]; exact c1, c2, c3⟩
    have hpc : ∀ U : State, U.heap = H → s.WarmedH U.vm → va_Pc ((.ref a :: As).map (px_cv fv ar)) (px_Iv g D cA ar fv ro A Lx M) (Value.ref (ar a) :: As.map (px_cv fv ar)).toArray U := by
      intro U hU hW
      have := px_pre (y := y) (vs := .ref a :: As) C hP hD hS hR U hU hW
      rw [List.map_cons, hca] at this ⊢
      exact this
    have hrun := va_runV (e := e) (below := below) (meth := meth) (locs := locs) (cells := cells) (slots := slots) (g := F0 m pc jls (st.map (px_cv fv ar))) (b := ar a) (As := As.map (px_cv fv ar)) (rest := (st.drop (px_na y)).map (px_cv fv ar)) (C := (px_yn y).cls) ⟨hx, hb, hml, hown, hts⟩ hM ⟨⟨hwd.1.1, hwd.1.2.1, hwd.1.2.2.1, hwd.1.2.2.2.1, hwd.1.2.2.2.2.1, hwd.1.2.2.2.2.2, hwd.2.1, hwd.2.2.1, hwd.2.2.2, px_np_p w3, hts _ (px_w_in k1)⟩, hts _ (px_w_in w1), hts _ (px_w_in w2)⟩ ⟨px_blind, hcell, hpc⟩ rfl hn hl.1 hst (lv_room (by rw [px_sum_cv hfv]; exact o2)) hd ⟨hcs.1, hcs.2⟩
    refine px_callW hrun hS (fun r M' H1 locs1 hq hP1 hD1 hS1 hR1 => ?_)
    have h1 := h r M' hq H1 locs1 jls hP1 hD1 hS1 hR1 hl hw
    rw [List.map_append] at h1
    cases r <;> exact h1
theorem px_x_callS {i y pl : Nat} {st : List Value} {Q' : px_Po} (C : px_Cx p R s m args c cells slots g k D cA ar fv ro A Lx) (hd : decode (px_by k) pc = .ok (.invokestatic i, 3)) (hf : px_clk (px_ow k) i = some (y, 1, pl)) (hok : px_cok k y st = true) (hM : px_Mt l g D cA ar fv ro A Lx y (st.take (px_na y)).reverse M Q') (h : ∀ (r : Option Value) (M' : px_Mem), Q' r M' → px_G p l e R s m args below meth c cells slots Qm g k D cA ar fv ro A (pc + 3) (ls) (r.toList ++ st.drop (px_na y)) (M')) : px_G p l e R s m args below meth c cells slots Qm g k D cA ar fv ro A (pc) (ls) (st) (M) := by
  intro H locs jls hP hD hS hR hl hw
  have hC := C
  obtain ⟨hx, hb, hml, hown, hts, hrm, hcs, hK, hST, hfv⟩ := hC
  have hk := List.all_eq_true.mp (px_qm_all (px_ow k)) _ (px_lk_in hf)
  have hk : (px_w pl (.methodLink (px_cn (px_ow k)) i (px_yn y)) && px_wz y && decide (y < px_LAW)) = true := hk
  unfold px_wz at hk
  simp only [Bool.and_eq_true, decide_eq_true_eq] at hk
  obtain ⟨⟨k1, ⟨w1, w3⟩⟩, hy⟩ := hk
  have ho := px_cok_p hok
  have hwd := px_words C hy ho
  obtain ⟨o1, o2, o3, o4, o5, o6⟩ := ho
  have hlen : (st.take (px_na y)).reverse.length = px_na y := by rw [List.length_reverse, List.length_take]; omega
  have hsplit : st = (st.take (px_na y)).reverse.reverse ++ st.drop (px_na y) := by rw [List.reverse_reverse, List.take_append_drop]
  generalize hvs : (st.take (px_na y)).reverse = vs at hM hlen hsplit
  have hst : st.map (px_cv fv ar) = (vs.map (px_cv fv ar)).reverse ++ (st.drop (px_na y)).map (px_cv fv ar) := by
    conv => lhs; rw [hsplit]
    rw [List.map_append, List.map_reverse]
  have hn : (vs.map (px_cv fv ar)).length = px_na y := by rw [List.length_map]; exact hlen
  have hrun := va_runS (e := e) (below := below) (meth := meth) (locs := locs) (cells := cells) (slots := slots) (g := F0 m pc jls (st.map (px_cv fv ar))) (As := vs.map (px_cv fv ar)) (rest := (st.drop (px_na y)).map (px_cv fv ar)) ⟨hx, hb, hml, hown, hts⟩ hM ⟨⟨hwd.1.1, hwd.1.2.1, hwd.1.2.2.1, hwd.1.2.2.2.1, hwd.1.2.2.2.2.1, hwd.1.2.2.2.2.2, hwd.2.1, hwd.2.2.1, hwd.2.2.2, px_np_p w3, hts _ (px_w_in k1)⟩, hts _ (px_w_in w1)⟩ ⟨px_blind, fun U hU hW => px_pre (y := y) C hP hD hS hR U hU hW⟩ rfl hn hl.1 hst (lv_room (by rw [px_sum_cv hfv]; exact o2)) hd ⟨hcs.1, hcs.2⟩
  refine px_callW hrun hS (fun r M' H1 locs1 hq hP1 hD1 hS1 hR1 => ?_)
  have h1 := h r M' hq H1 locs1 jls hP1 hD1 hS1 hR1 hl hw
  rw [List.map_append] at h1
  cases r <;> exact h1
theorem px_x_callN {i y pl : Nat} {st : List Value} {Q' : px_Po} (C : px_Cx p R s m args c cells slots g k D cA ar fv ro A Lx) (hd : decode (px_by k) pc = .ok (.invokestatic i, 3)) (hf : px_clk (px_ow k) i = some (y, 2, pl)) (hg : g = 0) (hok : px_cok k y st = true) (hM : px_Mt l g D cA ar fv ro A Lx y (st.take (px_na y)).reverse M Q') (h : ∀ (r : Option Value) (M' : px_Mem), Q' r M' → px_G p l e R s m args below meth c cells slots Qm g k D cA ar fv ro A (pc + 3) (ls) (r.toList ++ st.drop (px_na y)) (M')) : px_G p l e R s m args below meth c cells slots Qm g k D cA ar fv ro A (pc) (ls) (st) (M) := by
  intro H locs jls hP hD hS hR hl hw
  have hC := C
  obtain ⟨hx, hb, hml, hown, hts, hrm, hcs, hK, hST, hfv⟩ := hC
  have hk := List.all_eq_true.mp (px_qm_all (px_ow k)) _ (px_lk_in hf)
  have hk : (decide ((px_ow k, i, y) ∈ px_nest) && px_wz y && decide (y < px_LAW)) = true := hk
  unfold px_wz at hk
  simp only [Bool.and_eq_true, decide_eq_true_eq] at hk
  obtain ⟨⟨k1, ⟨w1, w3⟩⟩, hy⟩ := hk
  have ho := px_cok_p hok
  have hwd := px_words C hy ho
  obtain ⟨o1, o2, o3, o4, o5, o6⟩ := ho
  have hlen : (st.take (px_na y)).reverse.length = px_na y := by rw [List.length_reverse, List.length_take]; omega
  have hsplit : st = (st.take (px_na y)).reverse.reverse ++ st.drop (px_na y) := by rw [List.reverse_reverse, List.take_append_drop]
  generalize hvs : (st.take (px_na y)).reverse = vs at hM hlen hsplit
  have hst : st.map (px_cv fv ar) = (vs.map (px_cv fv ar)).reverse ++ (st.drop (px_na y)).map (px_cv fv ar) := by
    conv => lhs; rw [hsplit]
    rw [List.map_append, List.map_reverse]
  have hn : (vs.map (px_cv fv ar)).length = px_na y := by rw [List.length_map]; exact hlen
  have hrun := va_runSN (host := "FrozenTrees") (e := e) (below := below) (meth := meth) (locs := locs) (cells := cells) (slots := slots) (g := F0 m pc jls (st.map (px_cv fv ar))) (As := vs.map (px_cv fv ar)) (rest := (st.drop (px_na y)).map (px_cv fv ar)) ⟨hx, hb, hml, hown, hts⟩ hM ⟨⟨hwd.1, hwd.2.1, hwd.2.2.1, hwd.2.2.2, px_np_p w3, va_Nw.use rfl (show va_Nw (.methodLinkNest (px_cn (px_ow k)) i (px_yn y) "FrozenTrees") s from (hST hg).2.2.2.2.2.1 (px_ow k, i, y) k1)⟩, hts _ (px_w_in w1), trivial⟩ ⟨px_blind, fun U hU hW => px_pre (y := y) C hP hD hS hR U hU hW⟩ rfl hn hl.1 hst (lv_room (by rw [px_sum_cv hfv]; exact o2)) hd ⟨hcs.1, hcs.2⟩
  refine px_callW hrun hS (fun r M' H1 locs1 hq hP1 hD1 hS1 hR1 => ?_)
  have h1 := h r M' hq H1 locs1 jls hP1 hD1 hS1 hR1 hl hw
  rw [List.map_append] at h1
  cases r <;> exact h1
end PXU
