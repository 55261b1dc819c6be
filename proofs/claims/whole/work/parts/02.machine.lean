/-! THE PURE MACHINE: the bytecode as a function over numbers, lists and functions.
Addresses count from 0: cell k lies at z + k in the heap. A '.float i' stands for the old array number i (the script, the tables that were there before). -/
abbrev pm_E : Type := (Nat × vp_A) ⊕ (Nat × List Value)
abbrev pm_S : Type := (Nat → pm_E) × Nat × Nat
abbrev pm_L : Type := List (Nat × Value)
abbrev pm_F : Type := Nat × Nat × pm_L × List Value
abbrev pm_O : Type := Option Value ⊕ Nat
abbrev pm_M : Type := Nat × pm_L × List Value
abbrev pm_N : Type := Nat × pm_L × List Value × pm_S
abbrev pm_R : Type := (pm_F × pm_S) ⊕ ((pm_O × pm_S) ⊕ (Nat × List Value × pm_F))
/-- a program: code; fields (kind, class, field, type); calls (kind, class, callee, arguments); constants; classes made; exceptions made (by pc); statics; handlers (from, to, at, class); which exception is of which class; locals; the old arrays; array classes made; return types -/
abbrev pm_P : Type := (Nat → Nat → Option (Instr × Nat)) × (Nat → Nat → Option (Nat × Nat × Nat × FieldType)) × (Nat → Nat → Option (Nat × Nat × Nat × Nat)) × (Nat → Nat → Option Value) × (Nat → Nat → Option (Nat × List Value)) × (Nat → Nat → Option Nat) × (Nat → Nat → Option UInt32) × (Nat → List (Nat × Nat × Nat × Nat)) × (Nat → Nat → Bool) × (Nat → Nat) × (UInt32 → Nat × (Nat → Int32)) × (Nat → Nat → Option Nat) × (Nat → Option FieldType)
abbrev pm_cod (P : pm_P) : Nat → Nat → Option (Instr × Nat) := P.1
abbrev pm_fld (P : pm_P) : Nat → Nat → Option (Nat × Nat × Nat × FieldType) := P.2.1
abbrev pm_cal (P : pm_P) : Nat → Nat → Option (Nat × Nat × Nat × Nat) := P.2.2.1
abbrev pm_cst (P : pm_P) : Nat → Nat → Option Value := P.2.2.2.1
abbrev pm_mak (P : pm_P) : Nat → Nat → Option (Nat × List Value) := P.2.2.2.2.1
abbrev pm_exc (P : pm_P) : Nat → Nat → Option Nat := P.2.2.2.2.2.1
abbrev pm_sta (P : pm_P) : Nat → Nat → Option UInt32 := P.2.2.2.2.2.2.1
abbrev pm_hdl (P : pm_P) : Nat → List (Nat × Nat × Nat × Nat) := P.2.2.2.2.2.2.2.1
abbrev pm_isa (P : pm_P) : Nat → Nat → Bool := P.2.2.2.2.2.2.2.2.1
abbrev pm_mxl (P : pm_P) : Nat → Nat := P.2.2.2.2.2.2.2.2.2.1
abbrev pm_old (P : pm_P) : UInt32 → Nat × (Nat → Int32) := P.2.2.2.2.2.2.2.2.2.2.1
abbrev pm_arr (P : pm_P) : Nat → Nat → Option Nat := P.2.2.2.2.2.2.2.2.2.2.2.1
abbrev pm_ret (P : pm_P) : Nat → Option FieldType := P.2.2.2.2.2.2.2.2.2.2.2.2
def pm_set (σ : pm_S) (k : Nat) (x : pm_E) : pm_S := (fun j => if j = k then x else σ.1 j, σ.2.1, σ.2.2)
def pm_add (σ : pm_S) (x : pm_E) (n : Nat) : pm_S := (fun j => if j = σ.2.1 then x else σ.1 j, σ.2.1 + 1, σ.2.2 + n)
def pm_st1 (lv : pm_L) (i : Nat) (v : Value) : pm_L := (i, v) :: lv.filter (fun q => !(q.1 == i) && !(q.1 + 1 == i && q.2.category == 2))
def pm_st2 (lv : pm_L) (i : Nat) (v : Value) : pm_L := (i, v) :: lv.filter (fun q => !(q.1 == i) && (!(q.1 == i + 1) && !(q.1 + 1 == i && q.2.category == 2)))
def pm_lk : pm_L → Nat → Option Value
  | [], _ => none
  | q :: l, i => if q.1 = i then some q.2 else pm_lk l i
def pm_jp (pc : Nat) (off : Int) (lv : pm_L) (st : List Value) : Option pm_M := if (pc : Int) + off < 0 then none else some (((pc : Int) + off).toNat, lv, st)
def pm_ln : Instr → Nat → Bool
  | .bipush _, n | .ldc _, n | .iload _, n | .lload _, n | .aload _, n | .istore _, n | .lstore _, n | .astore _, n | .newarray _, n => n == 2
  | .sipush _, n | .ldc_w _, n | .ldc2_w _, n | .iinc _ _, n | .ifCond _ _, n | .if_icmp _ _, n | .goto _, n | .getfield _, n | .putfield _, n | .getstatic _, n | .new _, n | .anewarray _, n | .invokevirtual _, n | .invokespecial _, n | .invokestatic _, n => n == 3
  | .tableswitch _ _ _ _, _ | .lookupswitch _ _, _ => true
  | _, n => n == 1
/-- constants, loads, the stack -/
def pm_i1 (P : pm_P) (mi pc : Nat) (lv : pm_L) (st : List Value) : Instr → Option pm_M
  | .iconst n => some (pc + 1, lv, .int (Int32.ofInt n) :: st)
  | .bipush n => some (pc + 2, lv, .int (Int8.ofInt n).toInt32 :: st)
  | .sipush n => some (pc + 3, lv, .int (Int16.ofInt n).toInt32 :: st)
  | .lconst n => some (pc + 1, lv, .long (Int64.ofNat (n : Nat)) :: st)
  | .ldc ix => match pm_cst P mi ix with
    | some (.int v) => some (pc + 2, lv, .int v :: st)
    | _ => none
  | .ldc_w ix => match pm_cst P mi ix with
    | some (.int v) => some (pc + 3, lv, .int v :: st)
    | _ => none
  | .ldc2_w ix => match pm_cst P mi ix with
    | some (.long v) => some (pc + 3, lv, .long v :: st)
    | _ => none
  | .iload_n k => match pm_lk lv k with
    | some (.int x) => some (pc + 1, lv, .int x :: st)
    | _ => none
  | .iload i => match pm_lk lv i with
    | some (.int x) => some (pc + 2, lv, .int x :: st)
    | _ => none
  | .lload_n k => match pm_lk lv k with
    | some (.long x) => some (pc + 1, lv, .long x :: st)
    | _ => none
  | .lload i => match pm_lk lv i with
    | some (.long x) => some (pc + 2, lv, .long x :: st)
    | _ => none
  | .aload_n k => match pm_lk lv k with
    | some (.ref x) => some (pc + 1, lv, .ref x :: st)
    | some (.float x) => some (pc + 1, lv, .float x :: st)
    | _ => none
  | .aload i => match pm_lk lv i with
    | some (.ref x) => some (pc + 2, lv, .ref x :: st)
    | some (.float x) => some (pc + 2, lv, .float x :: st)
    | _ => none
  | .dup => match st with
    | v :: r => if v.category = 1 then some (pc + 1, lv, v :: v :: r) else none
    | _ => none
  | .pop => match st with
    | v :: r => if v.category = 1 then some (pc + 1, lv, r) else none
    | _ => none
  | .goto off => pm_jp pc off lv st
  | .getstatic ix => match pm_sta P mi ix with
    | some i => some (pc + 3, lv, .float i :: st)
    | none => none
  | _ => none
/-- stores -/
def pm_i2 (P : pm_P) (mi pc : Nat) (lv : pm_L) (st : List Value) : Instr → Option pm_M
  | .istore_n k => match st with
    | .int x :: r => if (k : Nat) < pm_mxl P mi then some (pc + 1, pm_st1 lv k (.int x), r) else none
    | _ => none
  | .istore i => match st with
    | .int x :: r => if i < pm_mxl P mi then some (pc + 2, pm_st1 lv i (.int x), r) else none
    | _ => none
  | .lstore_n k => match st with
    | .long x :: r => if (k : Nat) + 1 < pm_mxl P mi then some (pc + 1, pm_st2 lv k (.long x), r) else none
    | _ => none
  | .lstore i => match st with
    | .long x :: r => if i + 1 < pm_mxl P mi then some (pc + 2, pm_st2 lv i (.long x), r) else none
    | _ => none
  | .astore_n k => match st with
    | .ref x :: r => if (k : Nat) < pm_mxl P mi then some (pc + 1, pm_st1 lv k (.ref x), r) else none
    | _ => none
  | .astore i => match st with
    | .ref x :: r => if i < pm_mxl P mi then some (pc + 2, pm_st1 lv i (.ref x), r) else none
    | _ => none
  | .iinc i n => match pm_lk lv i with
    | some (.int x) => if i < pm_mxl P mi then some (pc + 3, pm_st1 lv i (.int (x + Int32.ofInt n)), st) else none
    | _ => none
  | _ => none
/-- numbers -/
def pm_i3 (pc : Nat) (lv : pm_L) (st : List Value) : Instr → Option pm_M
  | .iadd => match st with
    | .int y :: .int x :: r => some (pc + 1, lv, .int (x + y) :: r)
    | _ => none
  | .isub => match st with
    | .int y :: .int x :: r => some (pc + 1, lv, .int (x - y) :: r)
    | _ => none
  | .imul => match st with
    | .int y :: .int x :: r => some (pc + 1, lv, .int (x * y) :: r)
    | _ => none
  | .iand => match st with
    | .int y :: .int x :: r => some (pc + 1, lv, .int (x &&& y) :: r)
    | _ => none
  | .ior => match st with
    | .int y :: .int x :: r => some (pc + 1, lv, .int (x ||| y) :: r)
    | _ => none
  | .ixor => match st with
    | .int y :: .int x :: r => some (pc + 1, lv, .int (x ^^^ y) :: r)
    | _ => none
  | .idiv => match st with
    | .int y :: .int x :: r => if y = 0 then none else some (pc + 1, lv, .int (x / y) :: r)
    | _ => none
  | .irem => match st with
    | .int y :: .int x :: r => if y = 0 then none else some (pc + 1, lv, .int (x - x / y * y) :: r)
    | _ => none
  | .ishl => match st with
    | .int y :: .int x :: r => some (pc + 1, lv, .int (x <<< (y &&& 31)) :: r)
    | _ => none
  | .ishr => match st with
    | .int y :: .int x :: r => some (pc + 1, lv, .int (x >>> (y &&& 31)) :: r)
    | _ => none
  | .ineg => match st with
    | .int x :: r => some (pc + 1, lv, .int (-x) :: r)
    | _ => none
  | .i2l => match st with
    | .int x :: r => some (pc + 1, lv, .long x.toInt64 :: r)
    | _ => none
  | .l2i => match st with
    | .long x :: r => some (pc + 1, lv, .int x.toInt32 :: r)
    | _ => none
  | .ladd => match st with
    | .long y :: .long x :: r => some (pc + 1, lv, .long (x + y) :: r)
    | _ => none
  | .lsub => match st with
    | .long y :: .long x :: r => some (pc + 1, lv, .long (x - y) :: r)
    | _ => none
  | .lmul => match st with
    | .long y :: .long x :: r => some (pc + 1, lv, .long (x * y) :: r)
    | _ => none
  | .ldiv => match st with
    | .long y :: .long x :: r => if y = 0 then none else some (pc + 1, lv, .long (x / y) :: r)
    | _ => none
  | .lrem => match st with
    | .long y :: .long x :: r => if y = 0 then none else some (pc + 1, lv, .long (x - x / y * y) :: r)
    | _ => none
  | .lcmp => match st with
    | .long y :: .long x :: r => some (pc + 1, lv, .int (lg_cmp x y) :: r)
    | _ => none
  | _ => none
def pm_br (c : Prop) [Decidable c] (pc : Nat) (off : Int) (lv : pm_L) (r : List Value) : Option pm_M := if (pc : Int) + off < 0 then none else if c then some (((pc : Int) + off).toNat, lv, r) else some (pc + 3, lv, r)
/-- branches -/
def pm_i4 (pc : Nat) (lv : pm_L) (st : List Value) : Instr → Option pm_M
  | .ifCond .eq off => match st with
    | .int x :: r => pm_br (x = 0) pc off lv r
    | _ => none
  | .ifCond .ne off => match st with
    | .int x :: r => pm_br (¬ x = 0) pc off lv r
    | _ => none
  | .ifCond .lt off => match st with
    | .int x :: r => pm_br (x < 0) pc off lv r
    | _ => none
  | .ifCond .ge off => match st with
    | .int x :: r => pm_br (0 ≤ x) pc off lv r
    | _ => none
  | .ifCond .gt off => match st with
    | .int x :: r => pm_br (0 < x) pc off lv r
    | _ => none
  | .ifCond .le off => match st with
    | .int x :: r => pm_br (x ≤ 0) pc off lv r
    | _ => none
  | .if_icmp .eq off => match st with
    | .int y :: .int x :: r => pm_br (x = y) pc off lv r
    | _ => none
  | .if_icmp .ne off => match st with
    | .int y :: .int x :: r => pm_br (¬ x = y) pc off lv r
    | _ => none
  | .if_icmp .lt off => match st with
    | .int y :: .int x :: r => pm_br (x < y) pc off lv r
    | _ => none
  | .if_icmp .ge off => match st with
    | .int y :: .int x :: r => pm_br (y ≤ x) pc off lv r
    | _ => none
  | .if_icmp .gt off => match st with
    | .int y :: .int x :: r => pm_br (y < x) pc off lv r
    | _ => none
  | .if_icmp .le off => match st with
    | .int y :: .int x :: r => pm_br (x ≤ y) pc off lv r
    | _ => none
  | .tableswitch dflt lo hi offs => match st with
    | .int x :: r => if x.toInt < lo ∨ hi < x.toInt then pm_jp pc dflt lv r else match offs[(x.toInt - lo).toNat]? with
      | some off => pm_jp pc off lv r
      | none => none
    | _ => none
  | .lookupswitch dflt ps => match st with
    | .int x :: r => if (ps.toList.zip (ps.toList.drop 1)).all (fun (a, next) => a.1 < next.1) = true then pm_jp pc (Op.lookupswitch.offset ps.toList dflt x.toInt) lv r else none
    | _ => none
  | _ => none
def pm_ok : FieldType → Value → Bool
  | .int, .int _ => true
  | .boolean, .int x => x == 0 || x == 1
  | .long, .long _ => true
  | .object _, .ref _ => true
  | .array _, .ref _ => true
  | _, _ => false
def pm_vr : Option Nat → Value
  | some a => .ref a
  | none => .null
/-- the heap: reads and writes -/
def pm_i5 (P : pm_P) (mi pc : Nat) (lv : pm_L) (st : List Value) (σ : pm_S) : Instr → Option pm_N
  | .getfield ix => match st with
    | .ref a :: r => if a < σ.2.1 then match pm_fld P mi ix, σ.1 a with
        | some (_, ci, k, _), .inr (cj, fs) => if cj = ci then match fs[k]? with
          | some v => some (pc + 3, lv, v :: r, σ)
          | none => none
          else none
        | _, _ => none
      else none
    | _ => none
  | .putfield ix => match st with
    | v :: .ref a :: r => if a < σ.2.1 then match pm_fld P mi ix, σ.1 a with
        | some (kd, ci, k, ty), .inr (cj, fs) => if cj = ci ∧ k < fs.length ∧ pm_ok ty v = true ∧ kd ≠ 0 then some (pc + 3, lv, r, pm_set σ a (.inr (cj, fs.set k v))) else none
        | _, _ => none
      else none
    | _ => none
  | .iaload => match st with
    | .int i :: .ref a :: r => if a < σ.2.1 then match σ.1 a with
        | .inl (0, n, .inl f) => if i < 0 ∨ n ≤ i.toNatClampNeg then none else some (pc + 1, lv, .int (f i.toNatClampNeg) :: r, σ)
        | _ => none
      else none
    | .int i :: .float a :: r => if ¬ a < 3 ∨ i < 0 ∨ (pm_old P a).1 ≤ i.toNatClampNeg then none else some (pc + 1, lv, .int ((pm_old P a).2 i.toNatClampNeg) :: r, σ)
    | _ => none
  | .laload => match st with
    | .int i :: .ref a :: r => if a < σ.2.1 then match σ.1 a with
        | .inl (1, n, .inr (.inl f)) => if i < 0 ∨ n ≤ i.toNatClampNeg then none else some (pc + 1, lv, .long (f i.toNatClampNeg) :: r, σ)
        | _ => none
      else none
    | _ => none
  | .aaload => match st with
    | .int i :: .ref a :: r => if a < σ.2.1 then match σ.1 a with
        | .inl (2, n, .inr (.inr (.inr (.inr f)))) => if i < 0 ∨ n ≤ i.toNatClampNeg then none else some (pc + 1, lv, pm_vr (f i.toNatClampNeg) :: r, σ)
        | _ => none
      else none
    | _ => none
  | .iastore => match st with
    | .int x :: .int i :: .ref a :: r => if a < σ.2.1 then match σ.1 a with
        | .inl (0, n, .inl f) => if i < 0 ∨ n ≤ i.toNatClampNeg then none else some (pc + 1, lv, r, pm_set σ a (.inl (0, n, .inl (upd f i.toNatClampNeg x))))
        | _ => none
      else none
    | _ => none
  | .lastore => match st with
    | .long x :: .int i :: .ref a :: r => if a < σ.2.1 then match σ.1 a with
        | .inl (1, n, .inr (.inl f)) => if i < 0 ∨ n ≤ i.toNatClampNeg then none else some (pc + 1, lv, r, pm_set σ a (.inl (1, n, .inr (.inl (vp_updL f i.toNatClampNeg x)))))
        | _ => none
      else none
    | _ => none
  | .aastore => match st with
    | .ref x :: .int i :: .ref a :: r => if a < σ.2.1 ∧ x < σ.2.1 then match σ.1 a, σ.1 x, pm_arr P 0 0 with
        | .inl (2, n, .inr (.inr (.inr (.inr f)))), .inr (cj, _), some ci => if (i < 0 ∨ n ≤ i.toNatClampNeg) ∨ cj ≠ ci then none else some (pc + 1, lv, r, pm_set σ a (.inl (2, n, .inr (.inr (.inr (.inr (va_up f i.toNatClampNeg (some x))))))))
        | _, _, _ => none
      else none
    | _ => none
  | .arraylength => match st with
    | .ref a :: r => if a < σ.2.1 then match σ.1 a with
        | .inl (0, n, .inl _) => some (pc + 1, lv, .int (Int32.ofNat n) :: r, σ)
        | .inl (1, n, .inr (.inl _)) => some (pc + 1, lv, .int (Int32.ofNat n) :: r, σ)
        | _ => none
      else none
    | .float a :: r => if a < 3 then some (pc + 1, lv, .int (Int32.ofNat (pm_old P a).1) :: r, σ) else none
    | _ => none
  | _ => none
/-- what is made; Object's constructor; System.arraycopy -/
def pm_i6 (P : pm_P) (mi pc : Nat) (lv : pm_L) (st : List Value) (σ : pm_S) : Instr → Option pm_N
  | .new ix => match pm_mak P mi ix with
    | some (ci, fs) => some (pc + 3, lv, .ref σ.2.1 :: st, pm_add σ (.inr (ci, fs)) fs.length)
    | none => none
  | .newarray .int => match st with
    | .int n :: r => if n < 0 ∨ 536870912 < n.toNatClampNeg * 4 then none else some (pc + 2, lv, .ref σ.2.1 :: r, pm_add σ (.inl (0, n.toNatClampNeg, .inl (fun _ => 0))) n.toNatClampNeg)
    | _ => none
  | .newarray .long => match st with
    | .int n :: r => if n < 0 ∨ 536870912 < n.toNatClampNeg * 8 then none else some (pc + 2, lv, .ref σ.2.1 :: r, pm_add σ (.inl (1, n.toNatClampNeg, .inr (.inl (fun _ => 0)))) n.toNatClampNeg)
    | _ => none
  | .anewarray ix => match st, pm_arr P mi ix with
    | .int n :: r, some _ => if n < 0 ∨ 536870912 < n.toNatClampNeg * 4 then none else some (pc + 3, lv, .ref σ.2.1 :: r, pm_add σ (.inl (2, n.toNatClampNeg, .inr (.inr (.inr (.inr (fun _ => none)))))) n.toNatClampNeg)
    | _, _ => none
  | .invokespecial ix => match pm_cal P mi ix, st with
    | some (6, _), .ref _ :: r => if (r.map fun v => v.category).sum ≤ 8 then some (pc + 3, lv, r, σ) else none
    | _, _ => none
  | .invokestatic ix => match pm_cal P mi ix, st with
    | some (7, _), .int n :: .int dp :: .ref b :: .int sp :: .ref a :: r => if a < σ.2.1 ∧ b < σ.2.1 ∧ ¬ sp < 0 ∧ ¬ dp < 0 ∧ ¬ n < 0 ∧ (r.map fun v => v.category).sum ≤ 8 then match σ.1 a, σ.1 b with
        | .inl (0, n0, .inl f), .inl (0, n1, .inl g) => if sp.toNatClampNeg + n.toNatClampNeg ≤ n0 ∧ dp.toNatClampNeg + n.toNatClampNeg ≤ n1 then some (pc + 3, lv, r, pm_set σ b (.inl (0, n1, .inl (va_cpy f g sp.toNatClampNeg dp.toNatClampNeg n.toNatClampNeg)))) else none
        | .inl (1, n0, .inr (.inl f)), .inl (1, n1, .inr (.inl g)) => if sp.toNatClampNeg + n.toNatClampNeg ≤ n0 ∧ dp.toNatClampNeg + n.toNatClampNeg ≤ n1 then some (pc + 3, lv, r, pm_set σ b (.inl (1, n1, .inr (.inl (va_cpy f g sp.toNatClampNeg dp.toNatClampNeg n.toNatClampNeg))))) else none
        | _, _ => none
      else none
    | _, _ => none
  | _ => none
def pm_wp (σ : pm_S) : Option pm_M → Option pm_N
  | some (pc, lv, st) => some (pc, lv, st, σ)
  | none => none
/-- one step within the method -/
def pm_in (P : pm_P) (mi pc : Nat) (lv : pm_L) (st : List Value) (σ : pm_S) (i : Instr) : Option pm_N :=
  match pm_i1 P mi pc lv st i with
  | some r => pm_wp σ (some r)
  | none => match pm_i2 P mi pc lv st i with
    | some r => pm_wp σ (some r)
    | none => match pm_i3 pc lv st i with
      | some r => pm_wp σ (some r)
      | none => match pm_i4 pc lv st i with
        | some r => pm_wp σ (some r)
        | none => match pm_i5 P mi pc lv st σ i with
          | some r => some r
          | none => pm_i6 P mi pc lv st σ i
/-- the method ends -/
def pm_dn (P : pm_P) (mi pc : Nat) (st : List Value) (σ : pm_S) : Instr → Option (pm_O × pm_S)
  | .ireturn => match st, pm_ret P mi with
    | [.int v], some ty => if pm_ok ty (.int v) = true then some (.inl (some (.int v)), σ) else none
    | _, _ => none
  | .lreturn => match st, pm_ret P mi with
    | [.long v], some .long => some (.inl (some (.long v)), σ)
    | _, _ => none
  | .areturn => match st, pm_ret P mi with
    | [.ref v], some (.object _) => some (.inl (some (.ref v)), σ)
    | [.ref v], some (.array _) => some (.inl (some (.ref v)), σ)
    | _, _ => none
  | .return_ => match st, pm_ret P mi with
    | [], none => some (.inl none, σ)
    | _, _ => none
  | .new _ => match st, pm_exc P mi pc with
    | [], some ci => some (.inr σ.2.1, pm_add σ (.inr (ci, [])) 6)
    | _, _ => none
  | _ => none
def pm_asz (as : List Value) : Nat := (as.map fun v => v.category).sum
/-- a call: the callee, its arguments, what is left on the stack -/
def pm_ca (P : pm_P) (mi : Nat) (st : List Value) (σ : pm_S) : Instr → Option (Nat × List Value × List Value)
  | .invokevirtual ix => match pm_cal P mi ix with
    | some (k, ci, y, n) => match st.drop n with
      | .ref a :: r => if (k = 0 ∨ k = 1) ∧ a < σ.2.1 ∧ ((r.map fun v => v.category).sum ≤ 8) then match σ.1 a with
        | .inr (cj, _) => if cj = ci ∧ pm_asz (.ref a :: (st.take n).reverse) ≤ pm_mxl P y then some (y, .ref a :: (st.take n).reverse, r) else none
        | _ => none
        else none
      | _ => none
    | none => none
  | .invokespecial ix => match pm_cal P mi ix with
    | some (k, _, y, n) => if k = 4 ∨ k = 5 then match st.drop n with
      | .ref a :: r => if (r.map fun v => v.category).sum ≤ 8 ∧ pm_asz (.ref a :: (st.take n).reverse) ≤ pm_mxl P y then some (y, .ref a :: (st.take n).reverse, r) else none
      | _ => none
      else none
    | none => none
  | .invokestatic ix => match pm_cal P mi ix with
    | some (k, _, y, n) => if (k = 2 ∨ k = 3) ∧ n ≤ st.length ∧ (((st.drop n).map fun v => v.category).sum ≤ 8) ∧ pm_asz (st.take n).reverse ≤ pm_mxl P y then some (y, (st.take n).reverse, st.drop n) else none
    | none => none
  | _ => none
def pm_step (P : pm_P) (f : pm_F) (σ : pm_S) : Option pm_R :=
  match pm_cod P f.1 f.2.1 with
  | none => none
  | some (i, n) => if pm_ln i n = true then match pm_in P f.1 f.2.1 f.2.2.1 f.2.2.2 σ i with
    | some (pc, lv, st, σ') => some (.inl ((f.1, pc, lv, st), σ'))
    | none => match pm_dn P f.1 f.2.1 f.2.2.2 σ i with
      | some r => some (.inr (.inl r))
      | none => match pm_ca P f.1 f.2.2.2 σ i with
        | some (y, as, r) => some (.inr (.inr (y, as, (f.1, f.2.1, f.2.2.1, r))))
        | none => none
    else none
/-- where an exception is caught in a method -/
def pm_find (P : pm_P) (pc ci : Nat) : List (Nat × Nat × Nat × Nat) → Option Nat
  | [] => none
  | (a, b, h, k) :: l => if a ≤ pc ∧ pc < b then (if pm_isa P ci k = true then some h else pm_find P pc ci l) else pm_find P pc ci l
def pm_catch (P : pm_P) (f : pm_F) (x : Nat) (σ : pm_S) : Option (Option pm_F) :=
  match pm_hdl P f.1 with
  | [] => some none
  | h :: t => if x < σ.2.1 then match σ.1 x with
      | .inr (ci, _) => if pm_isa P ci 0 = true then match pm_find P f.2.1 ci (h :: t) with
          | some pc => some (some (f.1, pc, f.2.2.1, [.ref x]))
          | none => none
        else none
      | _ => none
    else none
def pm_enter (y : Nat) (as : List Value) : pm_F := (y, 0, lv_args 0 as, [])
def pm_ev (P : pm_P) : Nat → pm_F → pm_S → Option (pm_O × pm_S)
  | 0, _, _ => none
  | n + 1, f, σ => match pm_step P f σ with
    | none => none
    | some (.inl (f', σ')) => pm_ev P n f' σ'
    | some (.inr (.inl r)) => some r
    | some (.inr (.inr (y, as, g))) => match pm_ev P n (pm_enter y as) σ with
      | none => none
      | some (.inl v, σ') => pm_ev P n (g.1, g.2.1 + 3, g.2.2.1, v.toList ++ g.2.2.2) σ'
      | some (.inr x, σ') => match pm_catch P g x σ' with
        | none => none
        | some none => some (.inr x, σ')
        | some (some g') => pm_ev P n g' σ'
