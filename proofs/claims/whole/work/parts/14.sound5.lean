theorem px_en_cons1 {v : Value} {vs : List Value} (h : v.category = 1) : px_en (v :: vs) = some v :: px_en vs := by
  cases v <;> first | rfl | (cases h)
theorem px_en_cons2 {v : Value} {vs : List Value} (h : v.category = 2) : px_en (v :: vs) = some v :: none :: px_en vs := by
  cases v <;> first | rfl | (cases h)
theorem px_ld_0 {x : Option Value} {l : px_Lo} : px_ld (x :: l) 0 = x := rfl
theorem px_ld_s {x : Option Value} {l : px_Lo} {p : Nat} : px_ld (x :: l) (p + 1) = px_ld l p := rfl
theorem px_en_ld {fv : Value} {ar : Nat → Nat} (hf : fv.category = 1) : ∀ (vs : List Value) (i p : Nat) (w : Value), px_ld (px_en vs) p = some w → (i + p, px_cv fv ar w) ∈ lv_args i (vs.map (px_cv fv ar))
  | [], i, p, w, h => by
    have : px_ld (px_en []) p = none := by cases p <;> rfl
    rw [this] at h
    cases h
  | v :: vs, i, p, w, h => by
    rw [List.map_cons]
    unfold lv_args
    rw [px_cv_cat hf]
    rcases lv_cat v with hc | hc
    · rw [px_en_cons1 hc] at h
      rw [if_neg (by omega)]
      cases p with
      | zero =>
        rw [px_ld_0] at h
        cases h
        exact List.mem_cons_self
      | succ p =>
        rw [px_ld_s] at h
        have := px_en_ld (ar := ar) hf vs (i + 1) p w h
        rw [show i + (p + 1) = i + 1 + p by omega]
        exact List.mem_cons_of_mem _ this
    · rw [px_en_cons2 hc] at h
      rw [if_pos hc]
      match p, h with
      | 0, h =>
        rw [px_ld_0] at h
        cases h
        exact List.mem_cons_self
      | 1, h => cases h
      | p + 2, h =>
        rw [px_ld_s, px_ld_s] at h
        have := px_en_ld (ar := ar) hf vs (i + 2) p w h
        rw [show i + (p + 2) = i + 2 + p by omega]
        exact List.mem_cons_of_mem _ this
theorem px_ent_ld {y p : Nat} {vs : List Value} {w : Value} (h : px_ld (px_ent y vs) p = some w) : px_ld (px_en vs) p = some w := by
  unfold px_ent px_ld at h
  unfold px_ld
  rw [List.getD_eq_getElem?_getD] at h ⊢
  by_cases hp : p < (px_en vs).length
  · rw [List.getElem?_append_left hp] at h
    exact h
  · rw [List.getElem?_append_right (by omega)] at h
    exfalso
    cases hq : (List.replicate (px_ml y - (px_en vs).length) (none : Option Value))[p - (px_en vs).length]? with
    | none => rw [hq] at h; cases h
    | some x =>
      rw [hq] at h
      have := List.eq_of_mem_replicate (List.mem_of_getElem? hq)
      rw [this] at h
      cases h
theorem px_wf_ld {k : Nat} : ∀ (ls : px_Lo) (i p : Nat) (w : Value), px_wf k i ls = true → px_ld ls p = some w → w.category = 2 → (px_ls k).contains (i + p) = true
  | [], i, p, w, _, h, _ => by
    have : px_ld [] p = none := by cases p <;> rfl
    rw [this] at h
    cases h
  | none :: l, i, p, w, hw, h, hc => by
    cases p with
    | zero => cases h
    | succ p =>
      have := px_wf_ld l (i + 1) p w hw h hc
      rw [show i + (p + 1) = i + 1 + p by omega]
      exact this
  | some v :: l, i, p, w, hw, h, hc => by
    have hw2 : ((v.category != 2 || (px_ls k).contains i) && px_wf k (i + 1) l) = true := hw
    rw [Bool.and_eq_true] at hw2
    cases p with
    | zero =>
      cases h
      have h1 := hw2.1
      rw [hc] at h1
      simpa using h1
    | succ p =>
      have := px_wf_ld l (i + 1) p w hw2.2 h hc
      rw [show i + (p + 1) = i + 1 + p by omega]
      exact this
theorem px_sl_len {fv : Value} {ar : Nat → Nat} (hf : fv.category = 1) : ∀ vs : List Value, (lg_sl (vs.map (px_cv fv ar))).length = (px_en vs).length
  | [] => rfl
  | v :: vs => by
    have ih := px_sl_len (ar := ar) hf vs
    unfold lg_sl at ih ⊢
    rw [List.map_cons, List.flatMap_cons, List.length_append, ih, px_cv_cat hf]
    rcases lv_cat v with hc | hc
    · rw [px_en_cons1 hc, if_neg (by omega)]
      show 1 + _ = _ + 1
      omega
    · rw [px_en_cons2 hc, if_pos hc]
      show 2 + _ = _ + 1 + 1
      omega
def px_Sn (l : Launch) (g : Nat) (D : va_G) (cA : Nat → ClassId) (ar : Nat → Nat) (fv : Value) (ro : Nat → Nat → Int32) (A : Nat → Prop) (Lx : Nat) (n : Nat) : Prop := ∀ (p : Program) (e : Env) (R : Room) (s : State) (m : MethodId) (args : Array Value) (below : List Frame) (meth : Method) (c : Code) (cells slots : Nat) (Qm : State → Prop) (k pc : Nat) (ls : px_Lo) (st : List Value) (M : px_Mem) (Q : px_Po), px_wp g n k pc ls st M Q → k < px_NM → px_Cx p R s m args c cells slots g k D cA ar fv ro A Lx → px_Rt p l e R s m args below meth c cells slots Qm g k D cA ar fv ro A Q → px_G p l e R s m args below meth c cells slots Qm g k D cA ar fv ro A pc ls st M
section PXW
variable {l : Launch} {g : Nat} {D : va_G} {cA : Nat → ClassId} {ar : Nat → Nat} {fv : Value} {ro : Nat → Nat → Int32} {A : Nat → Prop} {Lx : Nat}
theorem px_leave {p : Program} {e : Env} {R : Room} {s : State} {m : MethodId} {args : Array Value} {below : List Frame} {meth : Method} {c : Code} {y : Nat} {Q : px_Po} (hx : p.tables.exec = Jvm.exec) (hb : c.code = px_by y) (hr : meth.sig.returnType = px_rty (px_rt y)) (hlocks : meth.locks = false) (hK : va_K D px_cls (px_tys g cA) s) (hST : px_ST g ar fv ro A Lx s s.heap) : px_Rt p l e R s m args below meth c 0 0 (MQ below (px_Qc g D cA ar fv ro A Lx Q) args s 0 0 A) g y D cA ar fv ro A Q := by
  intro r M pc jls H locs hQ hP hD hS hR he
  have hq : ∀ t : State, t.heap = H → s.WarmedH t.vm → px_Qc g D cA ar fv ro A Lx Q args s (.returned (r.map (px_cv fv ar))) t := fun t ht hW => ⟨⟨r, M, rfl, hQ, by rw [ht]; exact hP, va_K.moved hW.alike hK, hD, hR, px_ST_warm hW (by rw [ht]; exact hS.1) (fun a h1 h2 => by rw [ht]; exact hS.2.1 a h1 h2) hST⟩, hS.F ht⟩
  rcases he with ⟨v, rfl, hd, hk⟩ | ⟨v, rfl, hd, hk⟩ | ⟨a, rfl, hd, hk, hne⟩ | ⟨rfl, hd, hk⟩
  · generalize px_rt y = rt at hr hk
    match rt, hr, hk with
    | 1, hr, _ => exact W.iret hx hb hr hq hS.2.2 hd
    | 2, hr, hk => exact W.zret hx hb hr (by rcases hk with rfl | rfl <;> rfl) hq hS.2.2 hd
    | 5, hr, hk => exact W.zret hx hb hr hk hq hS.2.2 hd
    | 6, hr, hk => exact W.zret hx hb hr hk hq hS.2.2 hd
  · rw [hk] at hr
    exact W.lret hx hb hr hq hS.2.2 hd
  · have hc : px_cv fv ar (.ref a) = .ref (ar a) := px_cv_r hne
    show W p l e R s m args below meth c H locs 0 0 _ (F0 m pc jls [px_cv fv ar (.ref a)])
    have hq2 : ∀ t : State, t.heap = H → s.WarmedH t.vm → px_Qc g D cA ar fv ro A Lx Q args s (.returned (some (px_cv fv ar (.ref a)))) t := hq
    rw [hc] at hq2 ⊢
    rcases hk with hk | hk
    · rw [hk] at hr
      exact W.aret hx hb hr (Or.inl ⟨_, rfl⟩) (Or.inr ⟨_, rfl⟩) hq2 hS.2.2 hd
    · rw [hk] at hr
      exact W.aret hx hb hr (Or.inl ⟨_, rfl⟩) (Or.inr ⟨_, rfl⟩) hq2 hS.2.2 hd
  · rw [hk] at hr
    exact W.vret hx hb hr hq hS.2.2 hd
theorem px_met {n y : Nat} {vs : List Value} {M : px_Mem} {Q : px_Po} (ih : px_Sn l g D cA ar fv ro A Lx n) (hfv : fv = .null ∨ ∃ t, fv = .ref t) (h : px_wp g n y 0 (px_ent y vs) [] M Q) (hy : y < px_LAW) (hlen : (px_en vs).length ≤ px_ml y) (hwf : px_wf y 0 (px_en vs) = true) : px_Mt l g D cA ar fv ro A Lx y vs M Q := by
  obtain ⟨w1, w2, w3, w4, w5, w6⟩ := px_Wm_of hy
  have hf := px_fcat hfv
  refine Met.ofW (cc := px_by y) (maxL := px_ml y) (ret := px_rty (px_rt y)) (ws' := px_gw) w4 rfl ?_
  intro p e s m args below meth c s₁ B hml hv
  obtain ⟨rfl, hP, hK, hD, hR, hST⟩ := hv
  have hts := atoms_spec (ws := px_wsy y) B.pre
  have hown : s.vm.findClass (px_yn y).cls = some m.cls := findClass_of_methodNamed B.named
  rw [w3] at hown
  have C : px_Cx p (headSpec (px_wsy y) (px_rm y)).room s m (vs.map (px_cv fv ar)).toArray c 0 0 g y D cA ar fv ro A Lx := ⟨B.exec, B.bytes, hml, hown, fun w hw => hts w (List.mem_cons_of_mem _ hw), ⟨Nat.le_refl _, Nat.le_refl _⟩, ⟨Nat.zero_le _, Nat.zero_le _⟩, hK, hST, hfv⟩
  have hl0 := lv_entry (vs.map (px_cv fv ar)) (n := px_ml y) (by rw [px_sl_len hf]; exact hlen)
  rw [lg_entry_eq]
  have hG := ih p e _ s m _ below meth c 0 0 _ y 0 _ _ M Q h (Nat.lt_of_lt_of_le hy (Nat.le_succ _)) C (px_leave B.exec B.bytes B.returns B.notSynchronized hK hST)
  refine hG s.heap [] _ hP hD va_S.rf hR (px_lv_mono hl0 (fun q hq => ?_)) (fun q w hq hc => ?_)
  · obtain ⟨w, h1, h2⟩ := px_lvs_in.mp hq
    have h3 := px_en_ld (ar := ar) hf vs 0 q.1 w (px_ent_ld h1)
    rw [Nat.zero_add, ← h2] at h3
    exact h3
  · have := px_wf_ld (px_en vs) 0 q w hwf (px_ent_ld hq) hc
    rw [Nat.zero_add] at this
    exact this
theorem px_sound (hfv : fv = .null ∨ ∃ t, fv = .ref t) (n : Nat) : px_Sn l g D cA ar fv ro A Lx n := by
  induction n with
  | zero =>
    intro p e R s m args below meth c cells slots Qm k pc ls st M Q h
    exact h.elim
  | succ n ih =>
    intro p e R s m args below meth c cells slots Qm k pc ls st M Q h hk C hrt
    unfold px_wp at h
    split at h
    · rename_i i len hin
      exact px_step C hk hin (fun pc' ls' st' M' h' => ih p e R s m args below meth c cells slots Qm k pc' ls' st' M' Q h' hk C hrt) (fun y st' M' Q' h' hy ho => px_met ih hfv h' hy ho.2.2.2.2.1 ho.2.2.2.2.2) hrt h
    · exact h.elim
end PXW
