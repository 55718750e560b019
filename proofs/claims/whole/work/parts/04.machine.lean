abbrev px_Mem : Type := (Nat → Nat → Int32) × (Nat → Nat → Int64)
abbrev px_Lo : Type := List (Option Value)
abbrev px_Po : Type := Option Value → px_Mem → Prop
def px_sh0 (a : Nat) : Option (Nat ⊕ (Nat × Nat)) :=
  if a < 1000 then px_shl[a]?
  else if a = 1000 then some (.inr (12, 0))
  else if a = 1001 then some (.inr (10, 10))
  else if a = 1002 then some (.inr (10, 6))
  else if 1100 ≤ a ∧ a < 1114 then some (.inl 12)
  else if 1200 ≤ a ∧ a < 1214 then some (.inr (11, (px_str.getD (a - 1200) []).length))
  else none
def px_sh (g a : Nat) : Option (Nat ⊕ (Nat × Nat)) := if g = 0 then px_sh0 a else if 47 ≤ a ∧ a < 55 then px_sh0 a else none
def px_rf (a i : Nat) : Nat := if a < 1000 then (px_rfl.getD a []).getD i 0 else a + 100
def px_ld (ls : px_Lo) (i : Nat) : Option Value := ls.getD i none
def px_k1 (k : Nat) (ls : px_Lo) (i : Nat) : px_Lo := if (px_ls k).contains (i - 1) && i != 0 then ls.set (i - 1) none else ls
def px_s1 (k : Nat) (ls : px_Lo) (i : Nat) (v : Value) : px_Lo := (px_k1 k ls i).set i (some v)
def px_s2 (k : Nat) (ls : px_Lo) (i : Nat) (v : Value) : px_Lo := ((px_k1 k ls i).set i (some v)).set (i + 1) none
def px_jt (pc : Nat) (off : Int) : Nat := ((pc : Int) + off).toNat
def px_wI (M : px_Mem) (a i : Nat) (x : Int32) : px_Mem := (va_up M.1 a (upd (M.1 a) i x), M.2)
def px_wL (M : px_Mem) (a i : Nat) (x : Int64) : px_Mem := (M.1, va_up M.2 a (vp_updL (M.2 a) i x))
def px_aI (M : px_Mem) (a : Nat) (f : Nat → Int32) : px_Mem := (va_up M.1 a f, M.2)
def px_aL (M : px_Mem) (a : Nat) (f : Nat → Int64) : px_Mem := (M.1, va_up M.2 a f)
def px_fv (M : px_Mem) (a i c : Nat) : Value := match c with
  | 1 => .long (M.2 a i)
  | 3 => .ref (px_rf a i)
  | _ => .int (M.1 a i)
def px_br (c : ClassFile.Cond) (x y : Int32) (A B : Prop) : Prop := match c with
  | .eq => (x = y → A) ∧ (¬ x = y → B)
  | .ne => (¬ x = y → A) ∧ (x = y → B)
  | .lt => (x < y → A) ∧ (¬ x < y → B)
  | .ge => (y ≤ x → A) ∧ (¬ y ≤ x → B)
  | .gt => (y < x → A) ∧ (¬ y < x → B)
  | .le => (x ≤ y → A) ∧ (¬ x ≤ y → B)
/-- an int array that may be read -/
def px_ia (g : Nat) (M : px_Mem) (a : Nat) (i : Int32) : Prop := (∃ t n : Nat, (t = 0 ∨ t = 10) ∧ px_sh g a = some (.inr (t, n)) ∧ vp_in i n) ∨ (px_sh g a = some (.inr (12, 0)) ∧ vp_in i (M.1 999 0).toNatClampNeg)
/-- a small array -/
def px_ba (g a : Nat) (i : Int32) : Prop := ∃ t n : Nat, (t = 2 ∨ t = 3 ∨ t = 11) ∧ px_sh g a = some (.inr (t, n)) ∧ vp_in i n
def px_at (g t a : Nat) (i : Int32) : Prop := ∃ n : Nat, px_sh g a = some (.inr (t, n)) ∧ vp_in i n
def px_ra (g a : Nat) (i : Int32) : Prop := ∃ t n : Nat, (t = 4 ∨ t = 5 ∨ t = 6) ∧ px_sh g a = some (.inr (t, n)) ∧ vp_in i n
def px_cp (g t a b : Nat) (sp dp n : Int32) : Prop := ∃ n0 n1 : Nat, px_sh g b = some (.inr (t, n0)) ∧ px_sh g a = some (.inr (t, n1)) ∧ ¬ sp < 0 ∧ ¬ dp < 0 ∧ ¬ n < 0 ∧ sp.toNatClampNeg + n.toNatClampNeg ≤ n0 ∧ dp.toNatClampNeg + n.toNatClampNeg ≤ n1
def px_sw (pc : Nat) (dflt lo hi : Int) (offs : Array Int) (x : Int32) : Nat := if x.toInt < lo ∨ hi < x.toInt then px_jt pc dflt else px_jt pc (offs.getD (x.toInt - lo).toNat 0)
def px_rk (r : Nat) (v : Int32) : Prop := match r with
  | 1 => True
  | 2 => v = 0 ∨ v = 1
  | 5 => narrow .byte (.int v) = .int v
  | 6 => narrow .char (.int v) = .int v
  | _ => False
/-- where the arguments lie -/
def px_en : List Value → px_Lo
  | [] => []
  | .long x :: vs => some (.long x) :: none :: px_en vs
  | .double x :: vs => some (.double x) :: none :: px_en vs
  | v :: vs => some v :: px_en vs
def px_ent (y : Nat) (vs : List Value) : px_Lo := px_en vs ++ List.replicate (px_ml y - (px_en vs).length) none
/-- the slots of longs are as the table says -/
def px_wf (k i : Nat) : px_Lo → Bool
  | [] => true
  | some v :: l => (v.category != 2 || (px_ls k).contains i) && px_wf k (i + 1) l
  | none :: l => px_wf k (i + 1) l
def px_cok (k y : Nat) (st : List Value) : Bool := decide (px_na y ≤ st.length) && decide (((st.drop (px_na y)).map fun v => v.category).sum ≤ 8) && decide (px_nf y + 1 ≤ px_nf k) && decide (19 + px_ml y + px_nl y ≤ px_nl k) && decide ((px_en (st.take (px_na y)).reverse).length ≤ px_ml y) && px_wf y 0 (px_en (st.take (px_na y)).reverse)
section PXM
variable (g k pc : Nat) (ls : px_Lo) (M : px_Mem) (Q : px_Po) (go : Nat → px_Lo → List Value → px_Mem → Prop) (cal : Nat → List Value → px_Mem → px_Po → Prop)
def px_call (y : Nat) (st : List Value) : Prop := px_cok k y st = true ∧ ∃ (r : Option Value) (M' : px_Mem), cal y (st.take (px_na y)).reverse M (fun r' m' => r' = r ∧ m' = M') ∧ go (pc + 3) ls (r.toList ++ st.drop (px_na y)) M'
def px_recv (y : Nat) (st : List Value) : Prop := match (st.take (px_na y)).reverse with
  | .ref a :: _ => px_sh g a = some (.inl (px_ow y))
  | _ => False
def px_st (len : Nat) (st : List Value) : Instr → Prop
  | .aload_n j => match px_ld ls j with
    | some (.ref a) => go (pc + 1) ls (.ref a :: st) M
    | _ => False
  | .aload j => match px_ld ls j with
    | some (.ref a) => go (pc + 2) ls (.ref a :: st) M
    | _ => False
  | .iload_n j => match px_ld ls j with
    | some (.int x) => go (pc + 1) ls (.int x :: st) M
    | _ => False
  | .iload j => match px_ld ls j with
    | some (.int x) => go (pc + 2) ls (.int x :: st) M
    | _ => False
  | .lload_n j => match px_ld ls j with
    | some (.long x) => go (pc + 1) ls (.long x :: st) M
    | _ => False
  | .lload j => match px_ld ls j with
    | some (.long x) => go (pc + 2) ls (.long x :: st) M
    | _ => False
  | .istore_n j => match st with
    | .int x :: r => go (pc + 1) (px_s1 k ls j (.int x)) r M
    | _ => False
  | .istore j => match st with
    | .int x :: r => go (pc + 2) (px_s1 k ls j (.int x)) r M
    | _ => False
  | .astore_n j => match st with
    | .ref x :: r => go (pc + 1) (px_s1 k ls j (.ref x)) r M
    | _ => False
  | .astore j => match st with
    | .ref x :: r => go (pc + 2) (px_s1 k ls j (.ref x)) r M
    | _ => False
  | .lstore_n j => match st with
    | .long x :: r => go (pc + 1) (px_s2 k ls j (.long x)) r M
    | _ => False
  | .lstore j => match st with
    | .long x :: r => go (pc + 2) (px_s2 k ls j (.long x)) r M
    | _ => False
  | .iinc j n => match px_ld ls j with
    | some (.int x) => go (pc + 3) (px_s1 k ls j (.int (x + Int32.ofInt n))) st M
    | _ => False
  | .iconst n => go (pc + 1) ls (.int (Int32.ofInt n) :: st) M
  | .bipush n => go (pc + 2) ls (.int ((Int8.ofInt n).toInt32) :: st) M
  | .sipush n => go (pc + 3) ls (.int ((Int16.ofInt n).toInt32) :: st) M
  | .lconst n => go (pc + 1) ls (.long (Int64.ofNat (n : Nat)) :: st) M
  | .ldc i => match px_kck (px_ow k) i with
    | some (v, _) => go (pc + 2) ls (.int v :: st) M
    | none => match px_ksk (px_ow k) i with
      | some (t, _) => g = 0 ∧ go (pc + 2) ls (.ref (1100 + t) :: st) M
      | none => False
  | .ldc_w i => match px_kck (px_ow k) i with
    | some (v, _) => go (pc + 3) ls (.int v :: st) M
    | none => False
  | .ldc2_w i => match px_kjk (px_ow k) i with
    | some (v, _) => go (pc + 3) ls (.long v :: st) M
    | none => False
  | .dup => match st with
    | v :: r => if v.category = 1 then go (pc + 1) ls (v :: v :: r) M else False
    | _ => False
  | .pop => match st with
    | v :: r => if v.category = 1 then go (pc + 1) ls r M else False
    | _ => False
  | .dup2 => match st with
    | .long x :: r => go (pc + 1) ls (.long x :: .long x :: r) M
    | v :: w :: r => if v.category = 1 ∧ w.category = 1 then go (pc + 1) ls (v :: w :: v :: w :: r) M else False
    | _ => False
  | .iadd => match st with
    | .int y :: .int x :: r => go (pc + 1) ls (.int (x + y) :: r) M
    | _ => False
  | .isub => match st with
    | .int y :: .int x :: r => go (pc + 1) ls (.int (x - y) :: r) M
    | _ => False
  | .imul => match st with
    | .int y :: .int x :: r => go (pc + 1) ls (.int (x * y) :: r) M
    | _ => False
  | .iand => match st with
    | .int y :: .int x :: r => go (pc + 1) ls (.int (x &&& y) :: r) M
    | _ => False
  | .ior => match st with
    | .int y :: .int x :: r => go (pc + 1) ls (.int (x ||| y) :: r) M
    | _ => False
  | .ixor => match st with
    | .int y :: .int x :: r => go (pc + 1) ls (.int (x ^^^ y) :: r) M
    | _ => False
  | .idiv => match st with
    | .int y :: .int x :: r => (¬ y = 0) ∧ go (pc + 1) ls (.int (x / y) :: r) M
    | _ => False
  | .irem => match st with
    | .int y :: .int x :: r => (¬ y = 0) ∧ go (pc + 1) ls (.int (x - x / y * y) :: r) M
    | _ => False
  | .ishl => match st with
    | .int y :: .int x :: r => go (pc + 1) ls (.int (x <<< (y &&& 31)) :: r) M
    | _ => False
  | .ishr => match st with
    | .int y :: .int x :: r => go (pc + 1) ls (.int (x >>> (y &&& 31)) :: r) M
    | _ => False
  | .iushr => match st with
    | .int y :: .int x :: r => go (pc + 1) ls (.int (x.toUInt32 >>> (y.toUInt32 &&& Int32.toUInt32 31)).toInt32 :: r) M
    | _ => False
  | .ladd => match st with
    | .long y :: .long x :: r => go (pc + 1) ls (.long (x + y) :: r) M
    | _ => False
  | .lsub => match st with
    | .long y :: .long x :: r => go (pc + 1) ls (.long (x - y) :: r) M
    | _ => False
  | .lmul => match st with
    | .long y :: .long x :: r => go (pc + 1) ls (.long (x * y) :: r) M
    | _ => False
  | .land => match st with
    | .long y :: .long x :: r => go (pc + 1) ls (.long (x &&& y) :: r) M
    | _ => False
  | .lor => match st with
    | .long y :: .long x :: r => go (pc + 1) ls (.long (x ||| y) :: r) M
    | _ => False
  | .ldiv => match st with
    | .long y :: .long x :: r => (¬ y = 0) ∧ go (pc + 1) ls (.long (x / y) :: r) M
    | _ => False
  | .lrem => match st with
    | .long y :: .long x :: r => (¬ y = 0) ∧ go (pc + 1) ls (.long (x - x / y * y) :: r) M
    | _ => False
  | .lneg => match st with
    | .long x :: r => go (pc + 1) ls (.long (-x) :: r) M
    | _ => False
  | .lshl => match st with
    | .int y :: .long x :: r => go (pc + 1) ls (.long (x <<< (y.toInt64 &&& 63)) :: r) M
    | _ => False
  | .lshr => match st with
    | .int y :: .long x :: r => go (pc + 1) ls (.long (x >>> (y.toInt64 &&& 63)) :: r) M
    | _ => False
  | .i2l => match st with
    | .int x :: r => go (pc + 1) ls (.long x.toInt64 :: r) M
    | _ => False
  | .l2i => match st with
    | .long x :: r => go (pc + 1) ls (.int x.toInt32 :: r) M
    | _ => False
  | .i2b => match st with
    | .int x :: r => go (pc + 1) ls (.int x.toInt8.toInt32 :: r) M
    | _ => False
  | .i2s => match st with
    | .int x :: r => go (pc + 1) ls (.int x.toInt16.toInt32 :: r) M
    | _ => False
  | .i2c => match st with
    | .int x :: r => go (pc + 1) ls (.int (x.toUInt32 % 65536).toInt32 :: r) M
    | _ => False
  | .lcmp => match st with
    | .long y :: .long x :: r => go (pc + 1) ls (.int (lg_cmp x y) :: r) M
    | _ => False
  | .if_icmp c off => match st with
    | .int y :: .int x :: r => px_br c x y (go (px_jt pc off) ls r M) (go (pc + 3) ls r M)
    | _ => False
  | .ifCond c off => match st with
    | .int x :: r => px_br c x 0 (go (px_jt pc off) ls r M) (go (pc + 3) ls r M)
    | _ => False
  | .goto off => go (px_jt pc off) ls st M
  | .tableswitch dflt lo hi offs => match st with
    | .int x :: r => go (px_sw pc dflt lo hi offs x) ls r M
    | _ => False
  | .getfield i => match st with
    | .ref a :: r => match px_flk (px_ow k) i with
      | some (ci, j, _) => px_sh g a = some (.inl ci) ∧ go (pc + 3) ls (px_fv M a j (px_fc ci j) :: r) M
      | none => False
    | _ => False
  | .putfield i => match px_flk (px_ow k) i with
    | some (ci, j, _) => match px_fc ci j with
      | 0 => match st with
        | .int x :: .ref a :: r => px_sh g a = some (.inl ci) ∧ go (pc + 3) ls r (px_wI M a j x)
        | _ => False
      | 1 => match st with
        | .long x :: .ref a :: r => px_sh g a = some (.inl ci) ∧ go (pc + 3) ls r (px_wL M a j x)
        | _ => False
      | 2 => match st with
        | .int x :: .ref a :: r => px_sh g a = some (.inl ci) ∧ (x = 0 ∨ x = 1) ∧ go (pc + 3) ls r (px_wI M a j x)
        | _ => False
      | _ => False
    | none => False
  | .getstatic i => match px_gsk (px_ow k) i with
    | some (0, _) => g = 0 ∧ go (pc + 3) ls (.ref 1001 :: st) M
    | some (1, _) => g = 0 ∧ go (pc + 3) ls (.ref 1002 :: st) M
    | some (2, _) => g = 0 ∧ go (pc + 3) ls (.int 1 :: st) M
    | some (3, _) => g = 0 ∧ go (pc + 3) ls (.ref 1003 :: st) M
    | _ => False
  | .iaload => match st with
    | .int i :: .ref a :: r => px_ia g M a i ∧ go (pc + 1) ls (.int (M.1 a i.toNatClampNeg) :: r) M
    | _ => False
  | .baload => match st with
    | .int i :: .ref a :: r => px_ba g a i ∧ go (pc + 1) ls (.int (M.1 a i.toNatClampNeg) :: r) M
    | _ => False
  | .laload => match st with
    | .int i :: .ref a :: r => px_at g 1 a i ∧ go (pc + 1) ls (.long (M.2 a i.toNatClampNeg) :: r) M
    | _ => False
  | .aaload => match st with
    | .int i :: .ref a :: r => px_ra g a i ∧ go (pc + 1) ls (.ref (px_rf a i.toNatClampNeg) :: r) M
    | _ => False
  | .iastore => match st with
    | .int x :: .int i :: .ref a :: r => px_at g 0 a i ∧ go (pc + 1) ls r (px_wI M a i.toNatClampNeg x)
    | _ => False
  | .lastore => match st with
    | .long x :: .int i :: .ref a :: r => px_at g 1 a i ∧ go (pc + 1) ls r (px_wL M a i.toNatClampNeg x)
    | _ => False
  | .bastore => match st with
    | .int x :: .int i :: .ref a :: r => (px_at g 2 a i ∧ go (pc + 1) ls r (px_wI M a i.toNatClampNeg (vp_nar .byte x))) ∨ (px_at g 3 a i ∧ go (pc + 1) ls r (px_wI M a i.toNatClampNeg (vp_nar .boolean x)))
    | _ => False
  | .arraylength => match st with
    | .ref a :: r => (∃ t n : Nat, px_sh g a = some (.inr (t, n)) ∧ t ≠ 12 ∧ go (pc + 1) ls (.int (Int32.ofNat n) :: r) M) ∨ (px_sh g a = some (.inr (12, 0)) ∧ go (pc + 1) ls (.int (M.1 999 0) :: r) M)
    | _ => False
  | .invokevirtual i => match px_clk (px_ow k) i with
    | some (y, 0, _) => px_recv g y st ∧ px_call k pc ls M go cal y st
    | _ => False
  | .invokestatic i => match px_clk (px_ow k) i with
    | some (y, 1, _) => px_call k pc ls M go cal y st
    | some (y, 2, _) => g = 0 ∧ px_call k pc ls M go cal y st
    | some (_, 3, _) => match st with
      | .int n :: .int dp :: .ref a :: .int sp :: .ref b :: r => (r.map fun v => v.category).sum ≤ 8 ∧ 1 ≤ px_nf k ∧ 26 ≤ px_nl k ∧ ((px_cp g 0 a b sp dp n ∧ go (pc + 3) ls r (px_aI M a (va_cpy (M.1 b) (M.1 a) sp.toNatClampNeg dp.toNatClampNeg n.toNatClampNeg))) ∨ (px_cp g 1 a b sp dp n ∧ go (pc + 3) ls r (px_aL M a (va_cpy (M.2 b) (M.2 a) sp.toNatClampNeg dp.toNatClampNeg n.toNatClampNeg))))
      | _ => False
    | some (_, 4, _) => match st with
      | .int y :: .int x :: r => (r.map fun v => v.category).sum ≤ 8 ∧ 1 ≤ px_nf k ∧ 21 ≤ px_nl k ∧ go (pc + 3) ls (.int (if x < y then y else x) :: r) M
      | _ => False
    | some (_, 5, _) => match st with
      | .int y :: .int x :: r => (r.map fun v => v.category).sum ≤ 8 ∧ 1 ≤ px_nf k ∧ 21 ≤ px_nl k ∧ go (pc + 3) ls (.int (if y < x then y else x) :: r) M
      | _ => False
    | some (_, 6, _) => match st with
      | .long x :: r => (r.map fun v => v.category).sum ≤ 8 ∧ 1 ≤ px_nf k ∧ 21 ≤ px_nl k ∧ go (pc + 3) ls (.long (if 0 < x then x else -x) :: r) M
      | _ => False
    | _ => False
  | .ireturn => match st with
    | [.int v] => px_rk (px_rt k) v ∧ Q (some (.int v)) M
    | _ => False
  | .lreturn => match st with
    | [.long v] => px_rt k = 3 ∧ Q (some (.long v)) M
    | _ => False
  | .areturn => match st with
    | [.ref a] => (px_rt k = 4 ∨ px_rt k = 7) ∧ a ≠ 1003 ∧ Q (some (.ref a)) M
    | _ => False
  | .return_ => match st with
    | [] => px_rt k = 0 ∧ Q none M
    | _ => False
  | _ => False
end PXM
def px_wp (g : Nat) : Nat → Nat → Nat → px_Lo → List Value → px_Mem → px_Po → Prop
  | 0, _, _, _, _, _, _ => False
  | n + 1, k, pc, ls, st, M, Q => match px_in k pc with
    | some (i, len) => px_st g k pc ls M Q (fun pc' ls' st' M' => px_wp g n k pc' ls' st' M' Q) (fun y vs M' Q' => px_wp g n y 0 (px_ent y vs) [] M' Q') len st i
    | none => False
