theorem px_w_math : Cond.initialized "java/lang/Math" ∈ px_gw := px_w_in (i := 139) (by decide +kernel)
theorem px_w_ms_abs : Cond.static Lib.MathLoose.abs_long.x ∈ px_gw := px_w_in (i := 1153) (by decide +kernel)
theorem px_w_mc_abs : Cond.code Lib.MathLoose.abs_long.x Lib.MathLoose.abs_long.code 2 (some .long) ∈ px_gw := px_w_in (i := 1154) (by decide +kernel)
theorem px_w_ms_min : Cond.static Lib.Math.min.name ∈ px_gw := px_w_in (i := 524) (by decide +kernel)
theorem px_w_mc_min : Cond.code Lib.Math.min.name Lib.Math.min.code 2 (some .int) ∈ px_gw := px_w_in (i := 525) (by decide +kernel)
theorem px_w_ms_max : Cond.static Lib.Math.max.name ∈ px_gw := px_w_in (i := 699) (by decide +kernel)
theorem px_w_mc_max : Cond.code Lib.Math.max.name Lib.Math.max.code 2 (some .int) ∈ px_gw := px_w_in (i := 700) (by decide +kernel)
theorem px_w_native : Cond.native arraycopyName ∈ px_gw := px_w_in (i := 655) (by decide +kernel)
theorem px_w_static : Cond.static arraycopyName ∈ px_gw := px_w_in (i := 654) (by decide +kernel)
theorem px_w_system : Cond.initialized "java/lang/System" ∈ px_gw := px_w_in (i := 145) (by decide +kernel)
theorem px_mi_get {α β : Type} {l : List α} {f : Nat → α → β} {j : Nat} {x : α} (h : l[j]? = some x) : (l.mapIdx f)[j]? = some (f j x) := by
  rw [List.getElem?_mapIdx, h]
  rfl
theorem px_fc_at {ci j : Nat} (h : j < (px_fcl.getD ci []).length) : (px_fcl.getD ci [])[j]? = some (px_fc ci j) := by
  unfold px_fc
  rw [List.getD_eq_getElem?_getD (l := px_fcl.getD ci []), List.getElem?_eq_getElem h]
  rfl
theorem px_mi_set {ar : Nat → Nat} {M M' : px_Mem} {a j ci : Nat} {v : Value} (hj : j < (px_fcl.getD ci []).length) (hv : px_fw ar M' a j (px_fc ci j) = v) (h1 : ∀ t, t ≠ j → M'.1 a t = M.1 a t) (h2 : ∀ t, t ≠ j → M'.2 a t = M.2 a t) : (px_fcl.getD ci []).mapIdx (fun i c => px_fw ar M' a i c) = ((px_fcl.getD ci []).mapIdx (fun i c => px_fw ar M a i c)).set j v := by
  apply List.ext_getElem?
  intro t
  by_cases ht : t = j
  · subst ht
    rw [px_mi_get (px_fc_at hj), List.getElem?_set_self (by rw [List.length_mapIdx]; exact hj), hv]
  · rw [List.getElem?_set_ne (fun e => ht e.symm), List.getElem?_mapIdx, List.getElem?_mapIdx]
    cases (px_fcl.getD ci [])[t]? with
    | none => rfl
    | some x =>
      show some (px_fw ar M' a t x) = some (px_fw ar M a t x)
      unfold px_fw
      rw [h1 t ht, h2 t ht]
theorem px_ro_wI {ro : Nat → Nat → Int32} {M : px_Mem} {a i : Nat} {x : Int32} (h : px_ro ro M) (ha : a < 163) : px_ro ro (px_wI M a i x) := by
  intro b hb
  show va_up M.1 a _ b = _
  rw [va_up_ne _ _ (by omega)]
  exact h b hb
theorem px_ro_aI {ro : Nat → Nat → Int32} {M : px_Mem} {a : Nat} {f : Nat → Int32} (h : px_ro ro M) (ha : a < 163) : px_ro ro (px_aI M a f) := by
  intro b hb
  show va_up M.1 a _ b = _
  rw [va_up_ne _ _ (by omega)]
  exact h b hb
theorem px_upd_ne {f : Nat → Int32} {k j : Nat} {x : Int32} (h : j ≠ k) : upd f k x j = f j := if_neg h
theorem px_upd_self {f : Nat → Int32} {k : Nat} {x : Int32} : upd f k x k = x := if_pos rfl
theorem px_updL_ne {f : Nat → Int64} {k j : Nat} {x : Int64} (h : j ≠ k) : vp_updL f k x j = f j := if_neg h
theorem px_updL_self {f : Nat → Int64} {k : Nat} {x : Int64} : vp_updL f k x k = x := if_pos rfl
theorem px_shl_c0 : px_shl.all (fun x => match x with | .inl ci => decide (1 ≤ ci) | .inr _ => true) = true := by decide +kernel
theorem px_sh0_c1 {a ci : Nat} (ha : a < 1000) (h : px_sh0 a = some (.inl ci)) : 1 ≤ ci := by
  rw [px_sh0_w ha] at h
  exact of_decide_eq_true (List.all_eq_true.mp px_shl_c0 _ (List.mem_of_getElem? h))
theorem px_cn_cls : ∀ ci, 1 ≤ ci → ci < 12 → ∀ q, px_cls[ci]? = some q → q.1 = px_cn ci := by
  intro ci h0 h q hq
  have : ci = 1 ∨ ci = 2 ∨ ci = 3 ∨ ci = 4 ∨ ci = 5 ∨ ci = 6 ∨ ci = 7 ∨ ci = 8 ∨ ci = 9 ∨ ci = 10 ∨ ci = 11 := by omega
  rcases this with rfl | rfl | rfl | rfl | rfl | rfl | rfl | rfl | rfl | rfl | rfl <;> (cases hq; rfl)
section PXT
variable {p : Program} {l : Launch} {e : Env} {R : Room} {s : State} {m : MethodId} {args : Array Value} {below : List Frame} {meth : Method} {c : Code} {cells slots : Nat} {Qm : State → Prop} {g k : Nat} {D : va_G} {cA : Nat → ClassId} {ar : Nat → Nat} {fv : Value} {ro : Nat → Nat → Int32} {A : Nat → Prop} {Lx : Nat} {pc : Nat} {ls : px_Lo} {M : px_Mem} {r : List Value}
theorem px_x_getf {i ci j pl a : Nat} (C : px_Cx p R s m args c cells slots g k D cA ar fv ro A Lx) (hd : decode (px_by k) pc = .ok (.getfield i, 3)) (hf : px_flk (px_ow k) i = some (ci, j, pl)) (ha : px_sh g a = some (.inl ci)) (h : px_G p l e R s m args below meth c cells slots Qm g k D cA ar fv ro A (pc + 3) (ls) (px_fv M a j (px_fc ci j) :: r) (M)) : px_G p l e R s m args below meth c cells slots Qm g k D cA ar fv ro A (pc) (ls) (.ref a :: r) (M) := by
  intro H locs jls hP hD hS hR hl hw
  have h1 := h H locs jls hP hD hS hR hl hw
  obtain ⟨hx, hb, hml, hown, hts, hrm, hcs, hK, hST, hfv⟩ := C
  have hk := List.all_eq_true.mp (px_qf_all (px_ow k)) _ (px_lk_in hf)
  have h0 := px_sh_0 ha
  change W p l e R s m args below meth c H locs cells slots Qm (F0 m (pc + 3) jls (px_cv fv ar (px_fv M a j (px_fc ci j)) :: r.map (px_cv fv ar))) at h1
  show W p l e R s m args below meth c H locs cells slots Qm (F0 m pc jls (px_cv fv ar (.ref a) :: r.map (px_cv fv ar)))
  rw [px_cv_r (px_sh_ne ha)]
  rw [px_fv_cv] at h1
  unfold px_kf at hk
  by_cases hw2 : a < 1000
  · obtain ⟨q, hq, hwq⟩ := px_ws_get (ar := ar) (cA := cA) (M := M) (px_sh_L ha hw2)
    have hci : ci < 12 := px_sh0_c hw2 h0
    rw [if_neg (show ¬ ci = 12 by omega)] at hk
    cases hr : px_cls[ci]? with
    | none => simp only [hr] at hk; cases hk
    | some r' =>
      simp only [hr, Bool.and_eq_true, decide_eq_true_eq] at hk
      obtain ⟨⟨k1, k2⟩, k3⟩ := hk
      obtain ⟨C1, T, N⟩ := r'
      have hc4 := (px_cls_ok hr).2.2.2
      rw [px_e_o h0] at hwq
      refine va_get (ci := ci) (C := C1) (T := T) (N := N) hx hb hts (px_cls_ok hr).1 hown hK hP q hwq hr j k3 (hts _ (px_w_in k1)) (fun x hx9 => by rw [k2] at hx9; exact hx9) (px_mi_get (px_fc_at (by rw [hc4]; exact k3))) hd h1
  · obtain ⟨i', hi', rfl, rfl⟩ := px_ro_o hw2 h0
    have hs4 := (hST (px_sh_g ha hw2)).2.2.2.1 i' hi'
    rw [if_pos rfl] at hk
    match j, hk, h1 with
    | 0, hk, h1 =>
      have e1 : px_fw ar M (1100 + i') 0 (px_fc 12 0) = .ref (ar (1200 + i')) := by
        show Value.ref (ar (px_rf (1100 + i') 0)) = _
        unfold px_rf
        rw [if_neg hw2, show 1100 + i' + 100 = 1200 + i' by omega]
      rw [e1] at h1
      exact vk_getf hx hb hs4.2.2.1 hS hown (hts _ (px_w_in hk)) (fun _ h9 => h9) hd h1
    | 1, hk, h1 =>
      have e1 : px_fw ar M (1100 + i') 1 (px_fc 12 1) = .int (ro (1100 + i') 1) := by
        show Value.int (M.1 (1100 + i') 1) = _
        rw [hR _ (by omega)]
      rw [e1] at h1
      exact vk_getf hx hb hs4.2.1 hS hown (hts _ (px_w_in hk)) (fun _ h9 => h9) hd h1
theorem px_x_puti {i ci j pl a : Nat} {x : Int32} (C : px_Cx p R s m args c cells slots g k D cA ar fv ro A Lx) (hd : decode (px_by k) pc = .ok (.putfield i, 3)) (hf : px_flk (px_ow k) i = some (ci, j, pl)) (hfn : px_fin ci j = false) (hc : px_fc ci j = 0) (ha : px_sh g a = some (.inl ci)) (h : px_G p l e R s m args below meth c cells slots Qm g k D cA ar fv ro A (pc + 3) (ls) (r) (px_wI M a j x)) : px_G p l e R s m args below meth c cells slots Qm g k D cA ar fv ro A (pc) (ls) (.int x :: .ref a :: r) (M) := by
  intro H locs jls hP hD hS hR hl hw
  have hC := C
  obtain ⟨hx, hb, hml, hown, hts, hrm, hcs, hK, hST, hfv⟩ := hC
  have hk := List.all_eq_true.mp (px_qf_all (px_ow k)) _ (px_lk_in hf)
  have h0 := px_sh_0 ha
  show W p l e R s m args below meth c H locs cells slots Qm (F0 m pc jls (.int x :: px_cv fv ar (.ref a) :: r.map (px_cv fv ar)))
  rw [px_cv_r (px_sh_ne ha)]
  unfold px_kf at hk
  by_cases hw2 : a < 1000
  · have hL := px_sh_L ha hw2
    obtain ⟨q, hq, hwq⟩ := px_ws_get (ar := ar) (cA := cA) (M := M) hL
    have hci : ci < 12 := px_sh0_c hw2 h0
    rw [if_neg (show ¬ ci = 12 by omega)] at hk
    cases hr : px_cls[ci]? with
    | none => simp only [hr] at hk; cases hk
    | some r' =>
      simp only [hr, Bool.and_eq_true, decide_eq_true_eq] at hk
      obtain ⟨⟨k1, k2⟩, k3⟩ := hk
      obtain ⟨C1, T, N⟩ := r'
      obtain ⟨o1, o2, o3, o4⟩ := px_cls_ok hr
      have hjl : j < (px_fcl.getD ci []).length := by rw [o4]; exact k3
      have hty := o2 j k3
      unfold px_tyk at hty
      rw [hc] at hty
      have hpd : parseFieldDescriptor (T j).2.2.1 = some .int := of_decide_eq_true hty
      have hfin : (T j).2.2.2 = false := by
        unfold px_fin at hfn
        rw [hr] at hfn
        exact hfn
      rw [px_e_o h0] at hwq
      have hset : (px_ws g ar cA M).set q (ar a, .inr (ci, ((px_fcl.getD ci []).mapIdx (fun i c => px_fw ar M a i c)).set j (.int x))) = px_ws g ar cA (px_wI M a j x) := by
        refine px_ws_set hq ?_ (fun b hb => px_e_oth (by show va_up M.1 a _ b = _; rw [va_up_ne _ _ hb]) rfl)
        rw [px_e_o h0]
        rw [px_mi_set (M' := px_wI M a j x) hjl (v := .int x) ?_ (M := M) (fun t ht => by show va_up M.1 a _ a t = _; rw [va_up_self]; exact px_upd_ne ht) (fun t ht => rfl)]
        rw [hc]
        show Value.int _ = _
        simp [px_wI, va_up_self, px_upd_self, px_updL_self]
      refine va_put (ci := ci) (C := C1) (T := T) (N := N) (v := .int x) (ty := .int) hx hb hts o1 (fun k9 => (parseFieldDescriptor (T k9).2.2.1).getD .int) (fun k9 h9 => px_tyk_some (o2 k9 h9)) o3 hown hK hP hD hS q hwq hr j k3 (hts _ (px_w_in k1)) (fun x hx9 => by rw [k2] at hx9; exact hx9) hfin hpd rfl rfl (by rw [List.length_mapIdx]; exact hjl) hd (fun H1 locs1 hP1 hD1 hS1 => ?_)
      rw [hset] at hP1 hD1
      exact h H1 locs1 jls hP1 hD1 hS1 (px_ro_wI hR (px_L_lt hL)) hl hw
  · obtain ⟨i', hi', rfl, rfl⟩ := px_ro_o hw2 h0
    exfalso
    unfold px_fin at hfn
    have e1 : px_cls[12]? = none := rfl
    rw [e1] at hfn
    cases hfn
theorem px_x_putl {i ci j pl a : Nat} {x : Int64} (C : px_Cx p R s m args c cells slots g k D cA ar fv ro A Lx) (hd : decode (px_by k) pc = .ok (.putfield i, 3)) (hf : px_flk (px_ow k) i = some (ci, j, pl)) (hfn : px_fin ci j = false) (hc : px_fc ci j = 1) (ha : px_sh g a = some (.inl ci)) (h : px_G p l e R s m args below meth c cells slots Qm g k D cA ar fv ro A (pc + 3) (ls) (r) (px_wL M a j x)) : px_G p l e R s m args below meth c cells slots Qm g k D cA ar fv ro A (pc) (ls) (.long x :: .ref a :: r) (M) := by
  intro H locs jls hP hD hS hR hl hw
  have hC := C
  obtain ⟨hx, hb, hml, hown, hts, hrm, hcs, hK, hST, hfv⟩ := hC
  have hk := List.all_eq_true.mp (px_qf_all (px_ow k)) _ (px_lk_in hf)
  have h0 := px_sh_0 ha
  show W p l e R s m args below meth c H locs cells slots Qm (F0 m pc jls (.long x :: px_cv fv ar (.ref a) :: r.map (px_cv fv ar)))
  rw [px_cv_r (px_sh_ne ha)]
  unfold px_kf at hk
  by_cases hw2 : a < 1000
  · have hL := px_sh_L ha hw2
    obtain ⟨q, hq, hwq⟩ := px_ws_get (ar := ar) (cA := cA) (M := M) hL
    have hci : ci < 12 := px_sh0_c hw2 h0
    rw [if_neg (show ¬ ci = 12 by omega)] at hk
    cases hr : px_cls[ci]? with
    | none => simp only [hr] at hk; cases hk
    | some r' =>
      simp only [hr, Bool.and_eq_true, decide_eq_true_eq] at hk
      obtain ⟨⟨k1, k2⟩, k3⟩ := hk
      obtain ⟨C1, T, N⟩ := r'
      obtain ⟨o1, o2, o3, o4⟩ := px_cls_ok hr
      have hjl : j < (px_fcl.getD ci []).length := by rw [o4]; exact k3
      have hty := o2 j k3
      unfold px_tyk at hty
      rw [hc] at hty
      have hpd : parseFieldDescriptor (T j).2.2.1 = some .long := of_decide_eq_true hty
      have hfin : (T j).2.2.2 = false := by
        unfold px_fin at hfn
        rw [hr] at hfn
        exact hfn
      rw [px_e_o h0] at hwq
      have hset : (px_ws g ar cA M).set q (ar a, .inr (ci, ((px_fcl.getD ci []).mapIdx (fun i c => px_fw ar M a i c)).set j (.long x))) = px_ws g ar cA (px_wL M a j x) := by
        refine px_ws_set hq ?_ (fun b hb => px_e_oth rfl (by show va_up M.2 a _ b = _; rw [va_up_ne _ _ hb]))
        rw [px_e_o h0]
        rw [px_mi_set (M' := px_wL M a j x) hjl (v := .long x) ?_ (M := M) (fun t ht => rfl) (fun t ht => by show va_up M.2 a _ a t = _; rw [va_up_self]; exact px_updL_ne ht)]
        rw [hc]
        show Value.long _ = _
        simp [px_wL, va_up_self, px_upd_self, px_updL_self]
      refine va_put (ci := ci) (C := C1) (T := T) (N := N) (v := .long x) (ty := .long) hx hb hts o1 (fun k9 => (parseFieldDescriptor (T k9).2.2.1).getD .int) (fun k9 h9 => px_tyk_some (o2 k9 h9)) o3 hown hK hP hD hS q hwq hr j k3 (hts _ (px_w_in k1)) (fun x hx9 => by rw [k2] at hx9; exact hx9) hfin hpd rfl rfl (by rw [List.length_mapIdx]; exact hjl) hd (fun H1 locs1 hP1 hD1 hS1 => ?_)
      rw [hset] at hP1 hD1
      exact h H1 locs1 jls hP1 hD1 hS1 hR hl hw
  · obtain ⟨i', hi', rfl, rfl⟩ := px_ro_o hw2 h0
    exfalso
    unfold px_fin at hfn
    have e1 : px_cls[12]? = none := rfl
    rw [e1] at hfn
    cases hfn
theorem px_x_putz {i ci j pl a : Nat} {x : Int32} (C : px_Cx p R s m args c cells slots g k D cA ar fv ro A Lx) (hd : decode (px_by k) pc = .ok (.putfield i, 3)) (hf : px_flk (px_ow k) i = some (ci, j, pl)) (hfn : px_fin ci j = false) (hc : px_fc ci j = 2) (hz : x = 0 ∨ x = 1) (ha : px_sh g a = some (.inl ci)) (h : px_G p l e R s m args below meth c cells slots Qm g k D cA ar fv ro A (pc + 3) (ls) (r) (px_wI M a j x)) : px_G p l e R s m args below meth c cells slots Qm g k D cA ar fv ro A (pc) (ls) (.int x :: .ref a :: r) (M) := by
  intro H locs jls hP hD hS hR hl hw
  have hC := C
  obtain ⟨hx, hb, hml, hown, hts, hrm, hcs, hK, hST, hfv⟩ := hC
  have hk := List.all_eq_true.mp (px_qf_all (px_ow k)) _ (px_lk_in hf)
  have h0 := px_sh_0 ha
  show W p l e R s m args below meth c H locs cells slots Qm (F0 m pc jls (.int x :: px_cv fv ar (.ref a) :: r.map (px_cv fv ar)))
  rw [px_cv_r (px_sh_ne ha)]
  unfold px_kf at hk
  by_cases hw2 : a < 1000
  · have hL := px_sh_L ha hw2
    obtain ⟨q, hq, hwq⟩ := px_ws_get (ar := ar) (cA := cA) (M := M) hL
    have hci : ci < 12 := px_sh0_c hw2 h0
    rw [if_neg (show ¬ ci = 12 by omega)] at hk
    cases hr : px_cls[ci]? with
    | none => simp only [hr] at hk; cases hk
    | some r' =>
      simp only [hr, Bool.and_eq_true, decide_eq_true_eq] at hk
      obtain ⟨⟨k1, k2⟩, k3⟩ := hk
      obtain ⟨C1, T, N⟩ := r'
      obtain ⟨o1, o2, o3, o4⟩ := px_cls_ok hr
      have hjl : j < (px_fcl.getD ci []).length := by rw [o4]; exact k3
      have hty := o2 j k3
      unfold px_tyk at hty
      rw [hc] at hty
      have hpd : parseFieldDescriptor (T j).2.2.1 = some .boolean := of_decide_eq_true hty
      have hfin : (T j).2.2.2 = false := by
        unfold px_fin at hfn
        rw [hr] at hfn
        exact hfn
      rw [px_e_o h0] at hwq
      have hset : (px_ws g ar cA M).set q (ar a, .inr (ci, ((px_fcl.getD ci []).mapIdx (fun i c => px_fw ar M a i c)).set j (.int x))) = px_ws g ar cA (px_wI M a j x) := by
        refine px_ws_set hq ?_ (fun b hb => px_e_oth (by show va_up M.1 a _ b = _; rw [va_up_ne _ _ hb]) rfl)
        rw [px_e_o h0]
        rw [px_mi_set (M' := px_wI M a j x) hjl (v := .int x) ?_ (M := M) (fun t ht => by show va_up M.1 a _ a t = _; rw [va_up_self]; exact px_upd_ne ht) (fun t ht => rfl)]
        rw [hc]
        show Value.int _ = _
        simp [px_wI, va_up_self, px_upd_self, px_updL_self]
      refine va_put (ci := ci) (C := C1) (T := T) (N := N) (v := .int x) (ty := .boolean) hx hb hts o1 (fun k9 => (parseFieldDescriptor (T k9).2.2.1).getD .int) (fun k9 h9 => px_tyk_some (o2 k9 h9)) o3 hown hK hP hD hS q hwq hr j k3 (hts _ (px_w_in k1)) (fun x hx9 => by rw [k2] at hx9; exact hx9) hfin hpd (by rcases hz with rfl | rfl <;> rfl) (by rcases hz with rfl | rfl <;> rfl) (by rw [List.length_mapIdx]; exact hjl) hd (fun H1 locs1 hP1 hD1 hS1 => ?_)
      rw [hset] at hP1 hD1
      exact h H1 locs1 jls hP1 hD1 hS1 (px_ro_wI hR (px_L_lt hL)) hl hw
  · obtain ⟨i', hi', rfl, rfl⟩ := px_ro_o hw2 h0
    exfalso
    unfold px_fin at hfn
    have e1 : px_cls[12]? = none := rfl
    rw [e1] at hfn
    cases hfn
theorem px_x_gets {i t pl : Nat} {v : Value} (C : px_Cx p R s m args c cells slots g k D cA ar fv ro A Lx) (hd : decode (px_by k) pc = .ok (.getstatic i, 3)) (hf : px_gsk (px_ow k) i = some (t, pl)) (hg : g = 0) (hv : (t = 0 ∧ v = .ref 1001) ∨ (t = 1 ∧ v = .ref 1002) ∨ (t = 2 ∧ v = .int 1) ∨ (t = 3 ∧ v = .ref 1003)) (h : px_G p l e R s m args below meth c cells slots Qm g k D cA ar fv ro A (pc + 3) (ls) (v :: r) (M)) : px_G p l e R s m args below meth c cells slots Qm g k D cA ar fv ro A (pc) (ls) (r) (M) := by
  intro H locs jls hP hD hS hR hl hw
  have h1 := h H locs jls hP hD hS hR hl hw
  obtain ⟨hx, hb, hml, hown, hts, hrm, hcs, hK, hST, hfv⟩ := C
  have hk := List.all_eq_true.mp (px_qg_all (px_ow k)) _ (px_lk_in hf)
  obtain ⟨⟨a1, a2⟩, ⟨b1, b2⟩, ⟨c1, c2⟩, -⟩ := hST hg
  unfold px_kg at hk
  rcases hv with ⟨rfl, rfl⟩ | ⟨rfl, rfl⟩ | ⟨rfl, rfl⟩ | ⟨rfl, rfl⟩
  · exact va_gets hx hb a1 hS hown (hts _ (px_w_in hk)) (fun _ h9 => h9) hd h1
  · exact va_gets hx hb b1 hS hown (hts _ (px_w_in hk)) (fun _ h9 => h9) hd h1
  · exact va_gets hx hb c1 hS hown (hts _ (px_w_in hk)) (fun _ h9 => h9) hd h1
  · exact va_gets hx hb c2 hS hown (hts _ (px_w_in hk)) (fun _ h9 => h9) hd h1
theorem px_x_iald {a : Nat} {i : Int32} (C : px_Cx p R s m args c cells slots g k D cA ar fv ro A Lx) (hd : decode (px_by k) pc = .ok (.iaload, 1)) (hi : px_ia g M a i) (h : px_G p l e R s m args below meth c cells slots Qm g k D cA ar fv ro A (pc + 1) (ls) (.int (M.1 a i.toNatClampNeg) :: r) (M)) : px_G p l e R s m args below meth c cells slots Qm g k D cA ar fv ro A (pc) (ls) (.int i :: .ref a :: r) (M) := by
  intro H locs jls hP hD hS hR hl hw
  have h1 := h H locs jls hP hD hS hR hl hw
  obtain ⟨hx, hb, hml, hown, hts, hrm, hcs, hK, hST, hfv⟩ := C
  change W p l e R s m args below meth c H locs cells slots Qm (F0 m (pc + 1) jls (.int (M.1 a i.toNatClampNeg) :: r.map (px_cv fv ar))) at h1
  show W p l e R s m args below meth c H locs cells slots Qm (F0 m pc jls (.int i :: px_cv fv ar (.ref a) :: r.map (px_cv fv ar)))
  rcases hi with ⟨t, n, ht, ha, hin⟩ | ⟨ha, hin⟩
  · rw [px_cv_r (px_sh_ne ha)]
    have h0 := px_sh_0 ha
    by_cases hw2 : a < 1000
    · obtain ⟨q, hq, hwq⟩ := px_ws_get (ar := ar) (cA := cA) (M := M) (px_sh_L ha hw2)
      have h7 := px_sh0_t hw2 h0
      have ht0 : t = 0 := by omega
      subst ht0
      rw [px_e_a h0] at hwq
      exact va_iald hx hb hK hP q 0 hwq (px_ty_at ha hw2) hin hd h1
    · have hst := hST (px_sh_g ha hw2)
      rw [hR a (by omega)] at h1
      rcases px_ro_t hw2 h0 with ⟨e1, e2, e3⟩ | ⟨rfl, rfl, rfl⟩ | ⟨rfl, rfl, rfl⟩ | ⟨i', -, -, e2, -⟩
      · omega
      · exact va_ti hx hb hst.1.2 hS hin rfl hd h1
      · exact va_ti hx hb hst.2.1.2 hS hin rfl hd h1
      · omega
  · rw [px_cv_r (px_sh_ne ha)]
    have h0 := px_sh_0 ha
    have hw2 : ¬ a < 1000 := by
      intro hc
      have := px_sh0_t hc h0
      omega
    have hst := hST (px_sh_g ha hw2)
    rcases px_ro_t hw2 h0 with ⟨rfl, e2, e3⟩ | ⟨e1, e2, e3⟩ | ⟨e1, e2, e3⟩ | ⟨i', -, -, e2, -⟩
    · obtain ⟨x1, x2, x3, x4, x5⟩ := hst.2.2.2.2.2.2
      rw [hR 999 (by omega), x4, show (Int32.ofNat Lx).toNatClampNeg = Lx from nI_clamp (by omega)] at hin
      rw [hR 1000 (by omega)] at h1
      exact va_sld hx hb x1 x3 x2 hS hin hd h1
    · omega
    · omega
    · omega
theorem px_x_bald {a : Nat} {i : Int32} (C : px_Cx p R s m args c cells slots g k D cA ar fv ro A Lx) (hd : decode (px_by k) pc = .ok (.baload, 1)) (hi : px_ba g a i) (h : px_G p l e R s m args below meth c cells slots Qm g k D cA ar fv ro A (pc + 1) (ls) (.int (M.1 a i.toNatClampNeg) :: r) (M)) : px_G p l e R s m args below meth c cells slots Qm g k D cA ar fv ro A (pc) (ls) (.int i :: .ref a :: r) (M) := by
  intro H locs jls hP hD hS hR hl hw
  have h1 := h H locs jls hP hD hS hR hl hw
  obtain ⟨hx, hb, hml, hown, hts, hrm, hcs, hK, hST, hfv⟩ := C
  change W p l e R s m args below meth c H locs cells slots Qm (F0 m (pc + 1) jls (.int (M.1 a i.toNatClampNeg) :: r.map (px_cv fv ar))) at h1
  show W p l e R s m args below meth c H locs cells slots Qm (F0 m pc jls (.int i :: px_cv fv ar (.ref a) :: r.map (px_cv fv ar)))
  obtain ⟨t, n, ht, ha, hin⟩ := hi
  rw [px_cv_r (px_sh_ne ha)]
  have h0 := px_sh_0 ha
  by_cases hw2 : a < 1000
  · obtain ⟨q, hq, hwq⟩ := px_ws_get (ar := ar) (cA := cA) (M := M) (px_sh_L ha hw2)
    have h7 := px_sh0_t hw2 h0
    rw [px_e_a h0] at hwq
    rcases ht with rfl | rfl | rfl
    · exact va_bald hx hb hK hP q 2 hwq (px_ty_at ha hw2) hin hd h1
    · exact va_zald hx hb hK hP q 3 hwq (px_ty_at ha hw2) hin hd h1
    · omega
  · have hst := hST (px_sh_g ha hw2)
    rw [hR a (by omega)] at h1
    rcases px_ro_t hw2 h0 with ⟨e1, e2, e3⟩ | ⟨e1, e2, e3⟩ | ⟨e1, e2, e3⟩ | ⟨i', hi', rfl, rfl, rfl⟩
    · omega
    · omega
    · omega
    · exact va_tb hx hb (hst.2.2.2.1 i' hi').2.2.2 hS hin rfl hd h1
theorem px_wld {g a t n : Nat} (ha : px_sh g a = some (.inr (t, n))) (ht : t < 7) : a < 1000 := by
  by_cases hw2 : a < 1000
  · exact hw2
  · rcases px_ro_t hw2 (px_sh_0 ha) with ⟨e1, e2, e3⟩ | ⟨e1, e2, e3⟩ | ⟨e1, e2, e3⟩ | ⟨i', -, -, e2, -⟩ <;> omega
theorem px_x_lald {a : Nat} {i : Int32} (C : px_Cx p R s m args c cells slots g k D cA ar fv ro A Lx) (hd : decode (px_by k) pc = .ok (.laload, 1)) (hi : px_at g 1 a i) (h : px_G p l e R s m args below meth c cells slots Qm g k D cA ar fv ro A (pc + 1) (ls) (.long (M.2 a i.toNatClampNeg) :: r) (M)) : px_G p l e R s m args below meth c cells slots Qm g k D cA ar fv ro A (pc) (ls) (.int i :: .ref a :: r) (M) := by
  intro H locs jls hP hD hS hR hl hw
  have h1 := h H locs jls hP hD hS hR hl hw
  obtain ⟨hx, hb, hml, hown, hts, hrm, hcs, hK, hST, hfv⟩ := C
  show W p l e R s m args below meth c H locs cells slots Qm (F0 m pc jls (.int i :: px_cv fv ar (.ref a) :: r.map (px_cv fv ar)))
  obtain ⟨n, ha, hin⟩ := hi
  rw [px_cv_r (px_sh_ne ha)]
  have h0 := px_sh_0 ha
  have hw2 := px_wld ha (by omega)
  obtain ⟨q, hq, hwq⟩ := px_ws_get (ar := ar) (cA := cA) (M := M) (px_sh_L ha hw2)
  rw [px_e_a h0] at hwq
  exact va_lald hx hb hK hP q 1 hwq (px_ty_at ha hw2) hin hd h1
theorem px_x_aald {a : Nat} {i : Int32} (C : px_Cx p R s m args c cells slots g k D cA ar fv ro A Lx) (hd : decode (px_by k) pc = .ok (.aaload, 1)) (hi : px_ra g a i) (h : px_G p l e R s m args below meth c cells slots Qm g k D cA ar fv ro A (pc + 1) (ls) (.ref (px_rf a i.toNatClampNeg) :: r) (M)) : px_G p l e R s m args below meth c cells slots Qm g k D cA ar fv ro A (pc) (ls) (.int i :: .ref a :: r) (M) := by
  intro H locs jls hP hD hS hR hl hw
  have h1 := h H locs jls hP hD hS hR hl hw
  obtain ⟨hx, hb, hml, hown, hts, hrm, hcs, hK, hST, hfv⟩ := C
  change W p l e R s m args below meth c H locs cells slots Qm (F0 m (pc + 1) jls (px_cv fv ar (.ref (px_rf a i.toNatClampNeg)) :: r.map (px_cv fv ar))) at h1
  rw [px_cv_r (px_rf_ne _ _)] at h1
  show W p l e R s m args below meth c H locs cells slots Qm (F0 m pc jls (.int i :: px_cv fv ar (.ref a) :: r.map (px_cv fv ar)))
  obtain ⟨t, n, ht, ha, hin⟩ := hi
  rw [px_cv_r (px_sh_ne ha)]
  have h0 := px_sh_0 ha
  have hw2 := px_wld ha (by omega)
  have hlt : i.toNatClampNeg < n := Nat.not_le.mp fun q => hin (Or.inr q)
  obtain ⟨q, hq, hwq⟩ := px_ws_get (ar := ar) (cA := cA) (M := M) (px_sh_L ha hw2)
  rw [px_e_a h0] at hwq
  have key : ∀ (ty : FieldType), ty.isReference = true → (px_tys g cA)[t]? = some (cA t, ty) → px_ae ar M a t n = (n, .inr (.inr (.inr (.inr (fun j => some (ar (px_rf a j))))))) → W p l e R s m args below meth c H locs cells slots Qm (F0 m pc jls (.int i :: .ref (ar a) :: r.map (px_cv fv ar))) := by
    intro ty hty htt he
    rw [he] at hwq
    exact W.aald (v := va_rf (some (ar (px_rf a i.toNatClampNeg)))) (ty := ty) hx hb (hP q _ hwq) ((hK.2 t _ htt).1 n (fun j => va_rf (some (ar (px_rf a j))))) hty (fun q => by cases q) (by show ¬ (i < 0 ∨ (arrV _ _ _).slots.size ≤ _); rw [arrV_size]; exact hin) (by show (arrV _ _ _).slots[_]? = _; rw [arrV_read _ _ hlt]) rfl rfl hd h1
  have htt := px_ty_at (cA := cA) ha hw2
  rcases ht with rfl | rfl | rfl
  · exact key _ rfl htt rfl
  · exact key _ rfl htt rfl
  · exact key _ rfl htt rfl
theorem px_x_iast {a : Nat} {i : Int32} {x : Int32} (C : px_Cx p R s m args c cells slots g k D cA ar fv ro A Lx) (hd : decode (px_by k) pc = .ok (.iastore, 1)) (hi : px_at g 0 a i) (h : px_G p l e R s m args below meth c cells slots Qm g k D cA ar fv ro A (pc + 1) (ls) (r) (px_wI M a i.toNatClampNeg x)) : px_G p l e R s m args below meth c cells slots Qm g k D cA ar fv ro A (pc) (ls) (.int x :: .int i :: .ref a :: r) (M) := by
  intro H locs jls hP hD hS hR hl hw
  have hC := C
  obtain ⟨hx, hb, hml, hown, hts, hrm, hcs, hK, hST, hfv⟩ := hC
  show W p l e R s m args below meth c H locs cells slots Qm (F0 m pc jls (.int x :: .int i :: px_cv fv ar (.ref a) :: r.map (px_cv fv ar)))
  obtain ⟨n, ha, hin⟩ := hi
  rw [px_cv_r (px_sh_ne ha)]
  have h0 := px_sh_0 ha
  have hw2 := px_wld ha (by omega)
  have hL := px_sh_L ha hw2
  obtain ⟨q, hq, hwq⟩ := px_ws_get (ar := ar) (cA := cA) (M := M) hL
  rw [px_e_a h0] at hwq
  refine va_iast hx hb hK hP hD hS q 0 hwq (px_ty_at ha hw2) hin hd (fun H1 locs1 hP1 hD1 hS1 => ?_)
  have hset : (px_ws g ar cA M).set q (ar a, .inl (cA 0, n, .inl (upd (M.1 a) i.toNatClampNeg x))) = px_ws g ar cA (px_wI M a i.toNatClampNeg x) := by
    refine px_ws_set hq ?_ (fun b hb => px_e_oth (by show va_up M.1 a _ b = _; rw [va_up_ne _ _ hb]) rfl)
    rw [px_e_a h0]
    simp [px_ae, px_wI, va_up_self]
  rw [hset] at hP1 hD1
  exact h H1 locs1 jls hP1 hD1 hS1 (px_ro_wI hR (px_L_lt hL)) hl hw
theorem px_x_bast {a : Nat} {i : Int32} {x : Int32} (C : px_Cx p R s m args c cells slots g k D cA ar fv ro A Lx) (hd : decode (px_by k) pc = .ok (.bastore, 1)) (hi : px_at g 2 a i) (h : px_G p l e R s m args below meth c cells slots Qm g k D cA ar fv ro A (pc + 1) (ls) (r) (px_wI M a i.toNatClampNeg (vp_nar .byte x))) : px_G p l e R s m args below meth c cells slots Qm g k D cA ar fv ro A (pc) (ls) (.int x :: .int i :: .ref a :: r) (M) := by
  intro H locs jls hP hD hS hR hl hw
  have hC := C
  obtain ⟨hx, hb, hml, hown, hts, hrm, hcs, hK, hST, hfv⟩ := hC
  show W p l e R s m args below meth c H locs cells slots Qm (F0 m pc jls (.int x :: .int i :: px_cv fv ar (.ref a) :: r.map (px_cv fv ar)))
  obtain ⟨n, ha, hin⟩ := hi
  rw [px_cv_r (px_sh_ne ha)]
  have h0 := px_sh_0 ha
  have hw2 := px_wld ha (by omega)
  have hL := px_sh_L ha hw2
  obtain ⟨q, hq, hwq⟩ := px_ws_get (ar := ar) (cA := cA) (M := M) hL
  rw [px_e_a h0] at hwq
  refine va_bast hx hb hK hP hD hS q 2 hwq (px_ty_at ha hw2) hin hd (fun H1 locs1 hP1 hD1 hS1 => ?_)
  have hset : (px_ws g ar cA M).set q (ar a, .inl (cA 2, n, .inl (upd (M.1 a) i.toNatClampNeg (vp_nar .byte x)))) = px_ws g ar cA (px_wI M a i.toNatClampNeg (vp_nar .byte x)) := by
    refine px_ws_set hq ?_ (fun b hb => px_e_oth (by show va_up M.1 a _ b = _; rw [va_up_ne _ _ hb]) rfl)
    rw [px_e_a h0]
    simp [px_ae, px_wI, va_up_self]
  rw [hset] at hP1 hD1
  exact h H1 locs1 jls hP1 hD1 hS1 (px_ro_wI hR (px_L_lt hL)) hl hw
theorem px_x_zast {a : Nat} {i : Int32} {x : Int32} (C : px_Cx p R s m args c cells slots g k D cA ar fv ro A Lx) (hd : decode (px_by k) pc = .ok (.bastore, 1)) (hi : px_at g 3 a i) (h : px_G p l e R s m args below meth c cells slots Qm g k D cA ar fv ro A (pc + 1) (ls) (r) (px_wI M a i.toNatClampNeg (vp_nar .boolean x))) : px_G p l e R s m args below meth c cells slots Qm g k D cA ar fv ro A (pc) (ls) (.int x :: .int i :: .ref a :: r) (M) := by
  intro H locs jls hP hD hS hR hl hw
  have hC := C
  obtain ⟨hx, hb, hml, hown, hts, hrm, hcs, hK, hST, hfv⟩ := hC
  show W p l e R s m args below meth c H locs cells slots Qm (F0 m pc jls (.int x :: .int i :: px_cv fv ar (.ref a) :: r.map (px_cv fv ar)))
  obtain ⟨n, ha, hin⟩ := hi
  rw [px_cv_r (px_sh_ne ha)]
  have h0 := px_sh_0 ha
  have hw2 := px_wld ha (by omega)
  have hL := px_sh_L ha hw2
  obtain ⟨q, hq, hwq⟩ := px_ws_get (ar := ar) (cA := cA) (M := M) hL
  rw [px_e_a h0] at hwq
  refine va_zast hx hb hK hP hD hS q 3 hwq (px_ty_at ha hw2) hin hd (fun H1 locs1 hP1 hD1 hS1 => ?_)
  have hset : (px_ws g ar cA M).set q (ar a, .inl (cA 3, n, .inl (upd (M.1 a) i.toNatClampNeg (vp_nar .boolean x)))) = px_ws g ar cA (px_wI M a i.toNatClampNeg (vp_nar .boolean x)) := by
    refine px_ws_set hq ?_ (fun b hb => px_e_oth (by show va_up M.1 a _ b = _; rw [va_up_ne _ _ hb]) rfl)
    rw [px_e_a h0]
    simp [px_ae, px_wI, va_up_self]
  rw [hset] at hP1 hD1
  exact h H1 locs1 jls hP1 hD1 hS1 (px_ro_wI hR (px_L_lt hL)) hl hw
theorem px_x_last {a : Nat} {i : Int32} {x : Int64} (C : px_Cx p R s m args c cells slots g k D cA ar fv ro A Lx) (hd : decode (px_by k) pc = .ok (.lastore, 1)) (hi : px_at g 1 a i) (h : px_G p l e R s m args below meth c cells slots Qm g k D cA ar fv ro A (pc + 1) (ls) (r) (px_wL M a i.toNatClampNeg x)) : px_G p l e R s m args below meth c cells slots Qm g k D cA ar fv ro A (pc) (ls) (.long x :: .int i :: .ref a :: r) (M) := by
  intro H locs jls hP hD hS hR hl hw
  have hC := C
  obtain ⟨hx, hb, hml, hown, hts, hrm, hcs, hK, hST, hfv⟩ := hC
  show W p l e R s m args below meth c H locs cells slots Qm (F0 m pc jls (.long x :: .int i :: px_cv fv ar (.ref a) :: r.map (px_cv fv ar)))
  obtain ⟨n, ha, hin⟩ := hi
  rw [px_cv_r (px_sh_ne ha)]
  have h0 := px_sh_0 ha
  have hw2 := px_wld ha (by omega)
  have hL := px_sh_L ha hw2
  obtain ⟨q, hq, hwq⟩ := px_ws_get (ar := ar) (cA := cA) (M := M) hL
  rw [px_e_a h0] at hwq
  refine va_last hx hb hK hP hD hS q 1 hwq (px_ty_at ha hw2) hin hd (fun H1 locs1 hP1 hD1 hS1 => ?_)
  have hset : (px_ws g ar cA M).set q (ar a, .inl (cA 1, n, .inr (.inl (vp_updL (M.2 a) i.toNatClampNeg x)))) = px_ws g ar cA (px_wL M a i.toNatClampNeg x) := by
    refine px_ws_set hq ?_ (fun b hb => px_e_oth rfl (by show va_up M.2 a _ b = _; rw [va_up_ne _ _ hb]))
    rw [px_e_a h0]
    simp [px_ae, px_wL, va_up_self]
  rw [hset] at hP1 hD1
  exact h H1 locs1 jls hP1 hD1 hS1 hR hl hw
theorem px_x_alen {a t n : Nat} (C : px_Cx p R s m args c cells slots g k D cA ar fv ro A Lx) (hd : decode (px_by k) pc = .ok (.arraylength, 1)) (ha : px_sh g a = some (.inr (t, n))) (ht : t ≠ 12) (h : px_G p l e R s m args below meth c cells slots Qm g k D cA ar fv ro A (pc + 1) (ls) (.int (Int32.ofNat n) :: r) (M)) : px_G p l e R s m args below meth c cells slots Qm g k D cA ar fv ro A (pc) (ls) (.ref a :: r) (M) := by
  intro H locs jls hP hD hS hR hl hw
  have h1 := h H locs jls hP hD hS hR hl hw
  obtain ⟨hx, hb, hml, hown, hts, hrm, hcs, hK, hST, hfv⟩ := C
  show W p l e R s m args below meth c H locs cells slots Qm (F0 m pc jls (px_cv fv ar (.ref a) :: r.map (px_cv fv ar)))
  rw [px_cv_r (px_sh_ne ha)]
  have h0 := px_sh_0 ha
  by_cases hw2 : a < 1000
  · obtain ⟨q, hq, hwq⟩ := px_ws_get (ar := ar) (cA := cA) (M := M) (px_sh_L ha hw2)
    rw [px_e_a h0] at hwq
    exact va_alen hx hb hK hP q t hwq (px_ty_at ha hw2) rfl hd h1
  · have hst := hST (px_sh_g ha hw2)
    rcases px_ro_t hw2 h0 with ⟨e1, e2, e3⟩ | ⟨rfl, rfl, rfl⟩ | ⟨rfl, rfl, rfl⟩ | ⟨i', hi', rfl, rfl, rfl⟩
    · omega
    · exact va_tlen hx hb hst.1.2 hS rfl hd h1
    · exact va_tlen hx hb hst.2.1.2 hS rfl hd h1
    · exact va_tlen hx hb (hst.2.2.2.1 i' hi').2.2.2 hS rfl hd h1
theorem px_x_slen {a : Nat} (C : px_Cx p R s m args c cells slots g k D cA ar fv ro A Lx) (hd : decode (px_by k) pc = .ok (.arraylength, 1)) (ha : px_sh g a = some (.inr (12, 0))) (h : px_G p l e R s m args below meth c cells slots Qm g k D cA ar fv ro A (pc + 1) (ls) (.int (M.1 999 0) :: r) (M)) : px_G p l e R s m args below meth c cells slots Qm g k D cA ar fv ro A (pc) (ls) (.ref a :: r) (M) := by
  intro H locs jls hP hD hS hR hl hw
  have h1 := h H locs jls hP hD hS hR hl hw
  obtain ⟨hx, hb, hml, hown, hts, hrm, hcs, hK, hST, hfv⟩ := C
  change W p l e R s m args below meth c H locs cells slots Qm (F0 m (pc + 1) jls (.int (M.1 999 0) :: r.map (px_cv fv ar))) at h1
  show W p l e R s m args below meth c H locs cells slots Qm (F0 m pc jls (px_cv fv ar (.ref a) :: r.map (px_cv fv ar)))
  rw [px_cv_r (px_sh_ne ha)]
  have h0 := px_sh_0 ha
  have hw2 : ¬ a < 1000 := by
    intro hc
    have := px_sh0_t hc h0
    omega
  have hst := hST (px_sh_g ha hw2)
  rcases px_ro_t hw2 h0 with ⟨rfl, e2, e3⟩ | ⟨e1, e2, e3⟩ | ⟨e1, e2, e3⟩ | ⟨i', -, -, e2, -⟩
  · obtain ⟨x1, x2, x3, x4, x5⟩ := hst.2.2.2.2.2.2
    rw [hR 999 (by omega), x4] at h1
    exact va_slen hx hb x1 x3 x2 hS hd h1
  · omega
  · omega
  · omega
theorem px_x_copyi {i pl a b y0 : Nat} {sp dp n : Int32} (C : px_Cx p R s m args c cells slots g k D cA ar fv ro A Lx) (hd : decode (px_by k) pc = .ok (.invokestatic i, 3)) (hf : px_clk (px_ow k) i = some (y0, 3, pl)) (hr8 : (r.map fun v => v.category).sum ≤ 8) (hf1 : 1 ≤ px_nf k) (hl26 : 26 ≤ px_nl k) (hcp : px_cp g 0 a b sp dp n) (h : px_G p l e R s m args below meth c cells slots Qm g k D cA ar fv ro A (pc + 3) (ls) (r) (px_aI M a (va_cpy (M.1 b) (M.1 a) sp.toNatClampNeg dp.toNatClampNeg n.toNatClampNeg))) : px_G p l e R s m args below meth c cells slots Qm g k D cA ar fv ro A (pc) (ls) (.int n :: .int dp :: .ref a :: .int sp :: .ref b :: r) (M) := by
  intro H locs jls hP hD hS hR hl hw
  have hC := C
  obtain ⟨hx, hb, hml, hown, hts, hrm, hcs, hK, hST, hfv⟩ := hC
  have hk := List.all_eq_true.mp (px_qm_all (px_ow k)) _ (px_lk_in hf)
  have hlk : (Cond.methodLink (px_cn (px_ow k)) i arraycopyName).before args s = true := hts _ (px_w_in hk)
  obtain ⟨n0, n1, hb0, ha0, g1, g2, g3, g4, g5⟩ := hcp
  show W p l e R s m args below meth c H locs cells slots Qm (F0 m pc jls (.int n :: .int dp :: px_cv fv ar (.ref a) :: .int sp :: px_cv fv ar (.ref b) :: r.map (px_cv fv ar)))
  rw [px_cv_r (px_sh_ne ha0), px_cv_r (px_sh_ne hb0)]
  have h0 := px_sh_0 ha0
  have hw2 := px_wld ha0 (by omega)
  have hL := px_sh_L ha0 hw2
  obtain ⟨q, hq, hwq⟩ := px_ws_get (ar := ar) (cA := cA) (M := M) hL
  rw [px_e_a h0] at hwq
  have hw3 := px_wld hb0 (by omega)
  obtain ⟨q0, hq0, hwq0⟩ := px_ws_get (ar := ar) (cA := cA) (M := M) (px_sh_L hb0 hw3)
  rw [px_e_a (px_sh_0 hb0)] at hwq0
  have hsum : ((r.map (px_cv fv ar)).map fun v => v.category).sum ≤ 8 := by
    rw [List.map_map]
    rw [show ((fun v : Value => v.category) ∘ px_cv fv ar) = fun v => v.category from funext fun v => px_cv_cat (px_fcat hfv)]
    exact hr8
  refine va_copyi hx hb (by rw [hml]; exact hl.1.symm) hown hlk (hts _ px_w_native) (hts _ px_w_static) (hts _ px_w_system) hK hP hD hS q0 q 0 0 hwq0 hwq (px_ty_at hb0 hw3) (px_ty_at ha0 hw2) rfl g1 g2 g3 g4 g5 (fun _ _ => rfl) (Nat.le_trans hf1 hrm.1) ?_ hd (fun H1 locs1 hP1 hD1 hS1 => ?_)
  · have e1 : nativeFrameWords "java/lang/System" "arraycopy" 5 = 7 := by decide
    rw [e1]
    have := hrm.2
    omega
  · have hset : (px_ws g ar cA M).set q (ar a, .inl (cA 0, n1, .inl (va_cpy (M.1 b) (M.1 a) sp.toNatClampNeg dp.toNatClampNeg n.toNatClampNeg))) = px_ws g ar cA (px_aI M a (va_cpy (M.1 b) (M.1 a) sp.toNatClampNeg dp.toNatClampNeg n.toNatClampNeg)) := by
      refine px_ws_set hq ?_ (fun b hb => px_e_oth (by show va_up M.1 a _ b = _; rw [va_up_ne _ _ hb]) rfl)
      rw [px_e_a h0]
      simp [px_ae, px_aI, va_up_self]
    rw [hset] at hP1 hD1
    exact h H1 locs1 jls hP1 hD1 hS1 (px_ro_aI hR (px_L_lt hL)) hl hw
theorem px_x_copyl {i pl a b y0 : Nat} {sp dp n : Int32} (C : px_Cx p R s m args c cells slots g k D cA ar fv ro A Lx) (hd : decode (px_by k) pc = .ok (.invokestatic i, 3)) (hf : px_clk (px_ow k) i = some (y0, 3, pl)) (hr8 : (r.map fun v => v.category).sum ≤ 8) (hf1 : 1 ≤ px_nf k) (hl26 : 26 ≤ px_nl k) (hcp : px_cp g 1 a b sp dp n) (h : px_G p l e R s m args below meth c cells slots Qm g k D cA ar fv ro A (pc + 3) (ls) (r) (px_aL M a (va_cpy (M.2 b) (M.2 a) sp.toNatClampNeg dp.toNatClampNeg n.toNatClampNeg))) : px_G p l e R s m args below meth c cells slots Qm g k D cA ar fv ro A (pc) (ls) (.int n :: .int dp :: .ref a :: .int sp :: .ref b :: r) (M) := by
  intro H locs jls hP hD hS hR hl hw
  have hC := C
  obtain ⟨hx, hb, hml, hown, hts, hrm, hcs, hK, hST, hfv⟩ := hC
  have hk := List.all_eq_true.mp (px_qm_all (px_ow k)) _ (px_lk_in hf)
  have hlk : (Cond.methodLink (px_cn (px_ow k)) i arraycopyName).before args s = true := hts _ (px_w_in hk)
  obtain ⟨n0, n1, hb0, ha0, g1, g2, g3, g4, g5⟩ := hcp
  show W p l e R s m args below meth c H locs cells slots Qm (F0 m pc jls (.int n :: .int dp :: px_cv fv ar (.ref a) :: .int sp :: px_cv fv ar (.ref b) :: r.map (px_cv fv ar)))
  rw [px_cv_r (px_sh_ne ha0), px_cv_r (px_sh_ne hb0)]
  have h0 := px_sh_0 ha0
  have hw2 := px_wld ha0 (by omega)
  have hL := px_sh_L ha0 hw2
  obtain ⟨q, hq, hwq⟩ := px_ws_get (ar := ar) (cA := cA) (M := M) hL
  rw [px_e_a h0] at hwq
  have hw3 := px_wld hb0 (by omega)
  obtain ⟨q0, hq0, hwq0⟩ := px_ws_get (ar := ar) (cA := cA) (M := M) (px_sh_L hb0 hw3)
  rw [px_e_a (px_sh_0 hb0)] at hwq0
  have hsum : ((r.map (px_cv fv ar)).map fun v => v.category).sum ≤ 8 := by
    rw [List.map_map]
    rw [show ((fun v : Value => v.category) ∘ px_cv fv ar) = fun v => v.category from funext fun v => px_cv_cat (px_fcat hfv)]
    exact hr8
  refine va_copyl hx hb (by rw [hml]; exact hl.1.symm) hown hlk (hts _ px_w_native) (hts _ px_w_static) (hts _ px_w_system) hK hP hD hS q0 q 1 1 hwq0 hwq (px_ty_at hb0 hw3) (px_ty_at ha0 hw2) rfl g1 g2 g3 g4 g5 (fun _ _ => rfl) (Nat.le_trans hf1 hrm.1) ?_ hd (fun H1 locs1 hP1 hD1 hS1 => ?_)
  · have e1 : nativeFrameWords "java/lang/System" "arraycopy" 5 = 7 := by decide
    rw [e1]
    have := hrm.2
    omega
  · have hset : (px_ws g ar cA M).set q (ar a, .inl (cA 1, n1, .inr (.inl (va_cpy (M.2 b) (M.2 a) sp.toNatClampNeg dp.toNatClampNeg n.toNatClampNeg)))) = px_ws g ar cA (px_aL M a (va_cpy (M.2 b) (M.2 a) sp.toNatClampNeg dp.toNatClampNeg n.toNatClampNeg)) := by
      refine px_ws_set hq ?_ (fun b hb => px_e_oth rfl (by show va_up M.2 a _ b = _; rw [va_up_ne _ _ hb]))
      rw [px_e_a h0]
      simp [px_ae, px_aL, va_up_self]
    rw [hset] at hP1 hD1
    exact h H1 locs1 jls hP1 hD1 hS1 hR hl hw
theorem px_x_mmax {i pl y0 : Nat} {x y : Int32} (C : px_Cx p R s m args c cells slots g k D cA ar fv ro A Lx) (hd : decode (px_by k) pc = .ok (.invokestatic i, 3)) (hf : px_clk (px_ow k) i = some (y0, 4, pl)) (hr8 : (r.map fun v => v.category).sum ≤ 8) (hf1 : 1 ≤ px_nf k) (hl21 : 21 ≤ px_nl k) (h : px_G p l e R s m args below meth c cells slots Qm g k D cA ar fv ro A (pc + 3) (ls) (.int (if x < y then y else x) :: r) (M)) : px_G p l e R s m args below meth c cells slots Qm g k D cA ar fv ro A (pc) (ls) (.int y :: .int x :: r) (M) := by
  intro H locs jls hP hD hS hR hl hw
  have h1 := h H locs jls hP hD hS hR hl hw
  obtain ⟨hx, hb, hml, hown, hts, hrm, hcs, hK, hST, hfv⟩ := C
  have hk := List.all_eq_true.mp (px_qm_all (px_ow k)) _ (px_lk_in hf)
  refine va_mmax hx hb (by rw [hml]; exact hl.1.symm) hown (hts _ (px_w_in hk)) (hts _ px_w_ms_max) (hts _ px_w_math) (hts _ px_w_mc_max) (Nat.le_trans hf1 hrm.1) ?_ hcs.1 hcs.2 hd h1
  have h2 := hrm.2
  rw [List.map_map, show ((fun v : Value => v.category) ∘ px_cv fv ar) = fun v => v.category from funext fun v => px_cv_cat (px_fcat hfv)]
  omega
theorem px_x_mmin {i pl y0 : Nat} {x y : Int32} (C : px_Cx p R s m args c cells slots g k D cA ar fv ro A Lx) (hd : decode (px_by k) pc = .ok (.invokestatic i, 3)) (hf : px_clk (px_ow k) i = some (y0, 5, pl)) (hr8 : (r.map fun v => v.category).sum ≤ 8) (hf1 : 1 ≤ px_nf k) (hl21 : 21 ≤ px_nl k) (h : px_G p l e R s m args below meth c cells slots Qm g k D cA ar fv ro A (pc + 3) (ls) (.int (if y < x then y else x) :: r) (M)) : px_G p l e R s m args below meth c cells slots Qm g k D cA ar fv ro A (pc) (ls) (.int y :: .int x :: r) (M) := by
  intro H locs jls hP hD hS hR hl hw
  have h1 := h H locs jls hP hD hS hR hl hw
  obtain ⟨hx, hb, hml, hown, hts, hrm, hcs, hK, hST, hfv⟩ := C
  have hk := List.all_eq_true.mp (px_qm_all (px_ow k)) _ (px_lk_in hf)
  refine va_mmin hx hb (by rw [hml]; exact hl.1.symm) hown (hts _ (px_w_in hk)) (hts _ px_w_ms_min) (hts _ px_w_math) (hts _ px_w_mc_min) (Nat.le_trans hf1 hrm.1) ?_ hcs.1 hcs.2 hd h1
  have h2 := hrm.2
  rw [List.map_map, show ((fun v : Value => v.category) ∘ px_cv fv ar) = fun v => v.category from funext fun v => px_cv_cat (px_fcat hfv)]
  omega
theorem px_x_mabs {i pl y0 : Nat} {x : Int64} (C : px_Cx p R s m args c cells slots g k D cA ar fv ro A Lx) (hd : decode (px_by k) pc = .ok (.invokestatic i, 3)) (hf : px_clk (px_ow k) i = some (y0, 6, pl)) (hr8 : (r.map fun v => v.category).sum ≤ 8) (hf1 : 1 ≤ px_nf k) (hl21 : 21 ≤ px_nl k) (h : px_G p l e R s m args below meth c cells slots Qm g k D cA ar fv ro A (pc + 3) (ls) (.long (if 0 < x then x else -x) :: r) (M)) : px_G p l e R s m args below meth c cells slots Qm g k D cA ar fv ro A (pc) (ls) (.long x :: r) (M) := by
  intro H locs jls hP hD hS hR hl hw
  have h1 := h H locs jls hP hD hS hR hl hw
  obtain ⟨hx, hb, hml, hown, hts, hrm, hcs, hK, hST, hfv⟩ := C
  have hk := List.all_eq_true.mp (px_qm_all (px_ow k)) _ (px_lk_in hf)
  refine va_mabs_long hx hb (by rw [hml]; exact hl.1.symm) hown (hts _ (px_w_in hk)) (hts _ px_w_ms_abs) (hts _ px_w_math) (hts _ px_w_mc_abs) (Nat.le_trans hf1 hrm.1) ?_ hcs.1 hcs.2 hd h1
  have h2 := hrm.2
  rw [List.map_map, show ((fun v : Value => v.category) ∘ px_cv fv ar) = fun v => v.category from funext fun v => px_cv_cat (px_fcat hfv)]
  omega
end PXT
