def px_gw : List Cond := lw_tbl.filter goodWord
def px_w (i : Nat) (w : Cond) : Bool := decide (lw_tbl[i]? = some w) && goodWord w
theorem px_w_in {i : Nat} {w : Cond} (h : px_w i w = true) : w ∈ px_gw := by
  unfold px_w at h
  rw [Bool.and_eq_true] at h
  exact List.mem_filter.mpr ⟨List.mem_of_getElem? (of_decide_eq_true h.1), h.2⟩
theorem px_gw_good {w : Cond} (h : w ∈ px_gw) : (w.onTables && w.keeps) = true ∨ ∃ ty, w = .arrayClass ty := good_of_word (List.mem_filter.mp h).2
theorem px_gw_tbl {w : Cond} (h : w ∈ px_gw) : w ∈ lw_tbl := (List.mem_filter.mp h).1
theorem px_lk_in {α : Type} {c : Nat} {v : α} : ∀ {l : List (Nat × α)}, px_lk c l = some v → (c, v) ∈ l
  | [], h => by cases h
  | (a, w) :: l, h => by
    unfold px_lk at h
    split at h
    · rename_i e
      cases h
      rw [e]
      exact List.mem_cons_self
    · exact List.mem_cons_of_mem _ (px_lk_in h)
def px_len : Instr → Nat
  | .aload _ | .iload _ | .lload _ | .istore _ | .astore _ | .lstore _ | .bipush _ | .ldc _ => 2
  | .iinc _ _ | .sipush _ | .ldc_w _ | .ldc2_w _ | .if_icmp _ _ | .ifCond _ _ | .goto _ | .getfield _ | .putfield _ | .getstatic _ | .invokevirtual _ | .invokestatic _ => 3
  | _ => 1
def px_fin (c j : Nat) : Bool := match px_cls[c]? with
  | some q => (q.2.1 j).2.2.2
  | none => true
def px_oki (k pc len : Nat) : Instr → Bool
  | .istore_n j => decide (len = 1) && decide ((j : Nat) < px_ml k)
  | .astore_n j => decide (len = 1) && decide ((j : Nat) < px_ml k)
  | .lstore_n j => decide (len = 1) && decide ((j : Nat) + 1 < px_ml k) && (px_ls k).contains (j : Nat)
  | .istore j => decide (len = 2) && decide (j < px_ml k)
  | .astore j => decide (len = 2) && decide (j < px_ml k)
  | .lstore j => decide (len = 2) && decide (j + 1 < px_ml k) && (px_ls k).contains j
  | .iinc j _ => decide (len = 3) && decide (j < px_ml k)
  | .if_icmp _ off => decide (len = 3) && decide (0 ≤ (pc : Int) + off)
  | .ifCond _ off => decide (len = 3) && decide (0 ≤ (pc : Int) + off)
  | .goto off => decide (len = 3) && decide (0 ≤ (pc : Int) + off)
  | .tableswitch d lo hi offs => decide (0 ≤ (pc : Int) + d) && offs.toList.all (fun o => decide (0 ≤ (pc : Int) + o)) && decide (hi - lo < offs.size)
  | .putfield i => decide (len = 3) && (match px_flk (px_ow k) i with
    | some (ci, j, _) => !px_fin ci j
    | none => true)
  | .new _ | .invokespecial _ | .anewarray _ | .newarray _ | .multianewarray _ _ => true
  | i => decide (len = px_len i)
def px_chk (k : Nat) : Bool := (px_tb k).all fun ch => ch.all fun e => decide (decode (px_by k) e.1 = .ok (e.2.1, e.2.2)) && px_oki k e.1 e.2.2 e.2.1
def px_wm (k : Nat) : Bool := px_w ((px_pw k).getD 0 0) (.code (px_yn k) (px_by k) (px_ml k) (px_rty (px_rt k))) && px_w ((px_pw k).getD 3 0) (.initialized (px_yn k).cls) && decide ((px_yn k).cls = px_cn (px_ow k)) && plainName (px_yn k).cls && decide ((px_yn k).cls ≠ "java/lang/invoke/MethodHandle") && decide ((px_yn k).cls ≠ "java/lang/invoke/VarHandle")
def px_np (k n : Nat) : Bool := decide ((parseMethodDescriptor (px_yn k).desc).map (fun d => d.parameters.length) = some n)
def px_wi (k : Nat) : Bool := px_w ((px_pw k).getD 1 0) (.instanceMethod (px_yn k)) && px_w ((px_pw k).getD 2 0) (.selects (px_yn k).cls (px_yn k) (px_yn k)) && px_np k (px_na k - 1) && decide (1 ≤ px_na k)
def px_wz (k : Nat) : Bool := px_w ((px_pw k).getD 1 0) (.static (px_yn k)) && px_np k (px_na k)
/-- links -/
def px_kf (c : Nat) (q : Nat × Nat × Nat × Nat) : Bool := if q.2.1 = 12 then (match q.2.2.1 with
    | 0 => px_w q.2.2.2 (.fieldLink (px_cn c) q.1 "java/lang/String" "value" "[B")
    | 1 => px_w q.2.2.2 (.fieldLink (px_cn c) q.1 "java/lang/String" "coder" "B")
    | _ => false)
  else match px_cls[q.2.1]? with
    | some r => px_w q.2.2.2 (.fieldLink (px_cn c) q.1 r.1 (r.2.1 q.2.2.1).2.1 (r.2.1 q.2.2.1).2.2.1) && decide ((r.2.1 q.2.2.1).1 = r.1) && decide (q.2.2.1 < r.2.2)
    | none => false
def px_kg (c : Nat) (q : Nat × Nat × Nat) : Bool := match q.2.1 with
  | 0 => px_w q.2.2 (.fieldLink (px_cn c) q.1 "FrozenTrees$Code" "NUMBERS" "[I")
  | 1 => px_w q.2.2 (.fieldLink (px_cn c) q.1 "FrozenTrees" "ORDERS" "[I")
  | 2 => px_w q.2.2 (.fieldLink (px_cn c) q.1 "java/lang/String" "COMPACT_STRINGS" "Z")
  | 3 => px_w q.2.2 (.fieldLink (px_cn c) q.1 "jdk/internal/util/Preconditions" "SIOOBE_FORMATTER" "Ljava/util/function/BiFunction;")
  | _ => false
def px_km (c : Nat) (q : Nat × Nat × Nat × Nat) : Bool := match q.2.2.1 with
  | 0 => px_w q.2.2.2 (.methodLink (px_cn c) q.1 (px_yn q.2.1)) && px_wi q.2.1 && decide (q.2.1 < px_LAW)
  | 1 => px_w q.2.2.2 (.methodLink (px_cn c) q.1 (px_yn q.2.1)) && px_wz q.2.1 && decide (q.2.1 < px_LAW)
  | 2 => decide ((c, q.1, q.2.1) ∈ px_nest) && px_wz q.2.1 && decide (q.2.1 < px_LAW)
  | 3 => px_w q.2.2.2 (.methodLink (px_cn c) q.1 arraycopyName)
  | 4 => px_w q.2.2.2 (.methodLink (px_cn c) q.1 Lib.Math.max.name)
  | 5 => px_w q.2.2.2 (.methodLink (px_cn c) q.1 Lib.Math.min.name)
  | 6 => px_w q.2.2.2 (.methodLink (px_cn c) q.1 Lib.MathLoose.abs_long.x)
  | _ => false
def px_ki (c : Nat) (q : Nat × Int32 × Nat) : Bool := px_w q.2.2 (.constant (px_cn c) q.1 q.2.1)
def px_kl (c : Nat) (q : Nat × Int64 × Nat) : Bool := px_w q.2.2 (.constantLong (px_cn c) q.1 q.2.1)
