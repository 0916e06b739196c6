/-! A SMALL MACHINE OVER PURE LISTS. A cell has a number; a reference to the cell k is .ref k; a reference to a foreign cell that nobody writes is .retAddr k: k below 1000 the text k, 1000 + k the bytes of the text k, 9999 the script. -/
abbrev am_C : Type := (Nat × Nat × (Nat → Int32)) ⊕ (Nat × (Nat → Int64)) ⊕ (Nat × List Value)
abbrev am_H : Type := List am_C
abbrev am_L : Type := List (Nat × Value)
abbrev am_K : Type := List (Nat × List Nat)
abbrev am_Q : Type := Nat × Instr × Int × am_K
abbrev am_M : Type := MethodName × ByteArray × Nat × Option FieldType × List am_Q
/-- fixed: the default fields of each class; the texts' bytes; what statics hold; the script's length and ints, if it is there -/
abbrev am_E : Type := List (List Value) × List (List Int32) × List Value × Option (Nat × (Nat → Int32))
abbrev am_R : Type := Option (Nat × am_L × List Value)
def am_get : am_L → Nat → Option Value
  | [], _ => none
  | q :: r, i => if q.1 = i then some q.2 else am_get r i
def am_find : List am_Q → Nat → Option am_Q
  | [], _ => none
  | q :: r, pc => if q.1 = pc then some q else am_find r pc
def am_key : am_K → Nat → Option (List Nat)
  | [], _ => none
  | q :: r, k => if q.1 = k then some q.2 else am_key r k
def am_put1 (ls : am_L) (i : Nat) (v : Value) : am_L := (i, v) :: ls.filter (fun q => !(q.1 == i) && !(q.1 + 1 == i && q.2.category == 2))
def am_put2 (ls : am_L) (i : Nat) (v : Value) : am_L := (i, v) :: ls.filter (fun q => !(q.1 == i) && (!(q.1 == i + 1) && !(q.1 + 1 == i && q.2.category == 2)))
def am_isI : Value → Bool
  | .int _ => true
  | _ => false
def am_isL : Value → Bool
  | .long _ => true
  | _ => false
def am_isA : Value → Bool
  | .ref _ => true
  | .null => true
  | .retAddr _ => true
  | _ => false
def am_ld (np : Nat) (t : Value → Bool) (ls : am_L) (i : Nat) (st : List Value) : am_R := match am_get ls i with
  | some v => if t v = true then some (np, ls, v :: st) else none
  | none => none
def am_st1 (np : Nat) (t : Value → Bool) (ls : am_L) (i : Nat) (st : List Value) : am_R := match st with
  | v :: r => if t v = true then some (np, am_put1 ls i v, r) else none
  | [] => none
def am_st2 (np : Nat) (ls : am_L) (i : Nat) (st : List Value) : am_R := match st with
  | v :: r => if am_isL v = true then some (np, am_put2 ls i v, r) else none
  | [] => none
def am_i2 (np : Nat) (ls : am_L) (f : Int32 → Int32 → Int32) (st : List Value) : am_R := match st with
  | .int y :: .int x :: r => some (np, ls, .int (f x y) :: r)
  | _ => none
def am_d2 (np : Nat) (ls : am_L) (f : Int32 → Int32 → Int32) (st : List Value) : am_R := match st with
  | .int y :: .int x :: r => if y = 0 then none else some (np, ls, .int (f x y) :: r)
  | _ => none
def am_l2 (np : Nat) (ls : am_L) (f : Int64 → Int64 → Int64) (st : List Value) : am_R := match st with
  | .long y :: .long x :: r => some (np, ls, .long (f x y) :: r)
  | _ => none
def am_dl2 (np : Nat) (ls : am_L) (f : Int64 → Int64 → Int64) (st : List Value) : am_R := match st with
  | .long y :: .long x :: r => if y = 0 then none else some (np, ls, .long (f x y) :: r)
  | _ => none
def am_l1 (np : Nat) (ls : am_L) (f : Int64 → Int64) (st : List Value) : am_R := match st with
  | .long x :: r => some (np, ls, .long (f x) :: r)
  | _ => none
def am_s2 (np : Nat) (ls : am_L) (f : Int64 → Int32 → Int64) (st : List Value) : am_R := match st with
  | .int y :: .long x :: r => some (np, ls, .long (f x y) :: r)
  | _ => none
def am_c2 (np : Nat) (ls : am_L) (st : List Value) : am_R := match st with
  | .long y :: .long x :: r => some (np, ls, .int (lg_cmp x y) :: r)
  | _ => none
def am_i1 (np : Nat) (ls : am_L) (f : Int32 → Int32) (st : List Value) : am_R := match st with
  | .int x :: r => some (np, ls, .int (f x) :: r)
  | _ => none
def am_il (np : Nat) (ls : am_L) (st : List Value) : am_R := match st with
  | .int x :: r => some (np, ls, .long x.toInt64 :: r)
  | _ => none
def am_li (np : Nat) (ls : am_L) (st : List Value) : am_R := match st with
  | .long x :: r => some (np, ls, .int x.toInt32 :: r)
  | _ => none
def am_jp (pc : Nat) (ls : am_L) (off : Int) (st : List Value) : am_R := if 0 ≤ (pc : Int) + off then some (((pc : Int) + off).toNat, ls, st) else none
def am_br (pc : Nat) (ls : am_L) (b : Bool) (off : Int) (st : List Value) : am_R := if 0 ≤ (pc : Int) + off then (if b = true then some (((pc : Int) + off).toNat, ls, st) else some (pc + 3, ls, st)) else none
def am_cmp (c : ClassFile.Cond) (x y : Int32) : Bool := match c with
  | .eq => decide (x = y)
  | .ne => decide (¬ x = y)
  | .lt => decide (x < y)
  | .ge => decide (y ≤ x)
  | .gt => decide (y < x)
  | .le => decide (x ≤ y)
def am_if (pc : Nat) (ls : am_L) (c : ClassFile.Cond) (off : Int) (st : List Value) : am_R := match st with
  | .int x :: r => am_br pc ls (am_cmp c x 0) off r
  | _ => none
def am_if2 (pc : Nat) (ls : am_L) (c : ClassFile.Cond) (off : Int) (st : List Value) : am_R := match st with
  | .int y :: .int x :: r => am_br pc ls (am_cmp c x y) off r
  | _ => none
/-- an int row: its length and its ints; t = 0: int[], t = 1: byte[] (or boolean[], tag 3) -/
def am_rowI (E : am_E) (h : am_H) (t : Nat) (v : Value) : Option (Nat × (Nat → Int32)) := match v with
  | .ref a => match h[a]? with
    | some (.inl (t', n, f)) => if t' = t ∨ (t = 1 ∧ t' = 3) then some (n, f) else none
    | _ => none
  | .retAddr k => if k = 9999 then (if t = 0 then E.2.2.2 else none) else if k < 1000 then none else match E.2.1[k - 1000]? with
    | some bs => if t = 1 then some (bs.length, fun j => bs.getD j 0) else none
    | none => none
  | _ => none
def am_rowL (h : am_H) (v : Value) : Option (Nat × (Nat → Int64)) := match v with
  | .ref a => match h[a]? with
    | some (.inr (.inl (n, f))) => some (n, f)
    | _ => none
  | _ => none
def am_rdI (E : am_E) (np t : Nat) (ls : am_L) (h : am_H) (st : List Value) : am_R := match st with
  | .int i :: v :: r => match am_rowI E h t v with
    | some (n, f) => if i < 0 ∨ n ≤ i.toNatClampNeg then none else some (np, ls, .int (f i.toNatClampNeg) :: r)
    | none => none
  | _ => none
def am_rdL (np : Nat) (ls : am_L) (h : am_H) (st : List Value) : am_R := match st with
  | .int i :: v :: r => match am_rowL h v with
    | some (n, f) => if i < 0 ∨ n ≤ i.toNatClampNeg then none else some (np, ls, .long (f i.toNatClampNeg) :: r)
    | none => none
  | _ => none
def am_len0 (E : am_E) (h : am_H) (v : Value) : Option Nat := match v with
  | .ref a => match h[a]? with
    | some (.inl (t, n, _)) => if t = 0 ∨ t = 1 ∨ t = 3 then some n else none
    | some (.inr (.inl (n, _))) => some n
    | _ => none
  | .retAddr k => if k = 9999 then E.2.2.2.map (fun q => q.1) else if k < 1000 then none else match E.2.1[k - 1000]? with
    | some bs => some bs.length
    | none => none
  | _ => none
def am_alen (E : am_E) (np : Nat) (ls : am_L) (h : am_H) (st : List Value) : am_R := match st with
  | v :: r => match am_len0 E h v with
    | some n => some (np, ls, .int (Int32.ofNat n) :: r)
    | none => none
  | [] => none
def am_fld (E : am_E) (lk : am_K) (h : am_H) (v : Value) : Option Value := match v with
  | .ref a => match h[a]? with
    | some (.inr (.inr (ci, fs))) => match am_key lk ci with
      | some (k :: _) => fs[k]?
      | _ => none
    | _ => none
  | .retAddr k => if k < E.2.1.length ∧ k < 1000 then match am_key lk 1000 with
      | some (0 :: _) => some (.int 0)
      | some (1 :: _) => some (.retAddr (1000 + k))
      | _ => none
    else none
  | _ => none
def am_gf (E : am_E) (np : Nat) (lk : am_K) (ls : am_L) (h : am_H) (st : List Value) : am_R := match st with
  | v :: r => match am_fld E lk h v with
    | some w => some (np, ls, w :: r)
    | none => none
  | [] => none
def am_sw (pc : Nat) (ls : am_L) (dflt lo hi : Int) (offs : Array Int) (st : List Value) : am_R := match st with
  | .int x :: r => if x.toInt < lo ∨ hi < x.toInt then am_jp pc ls dflt r else match offs[(x.toInt - lo).toNat]? with
    | some off => am_jp pc ls off r
    | none => none
  | _ => none
def am_lsw (pc : Nat) (ls : am_L) (dflt : Int) (ps : Array (Int × Int)) (st : List Value) : am_R := match st with
  | .int x :: r => if (ps.toList.zip (ps.toList.drop 1)).all (fun (a, next) => a.1 < next.1) = true then am_jp pc ls (Op.lookupswitch.offset ps.toList dflt x.toInt) r else none
  | _ => none
def am_inc (np : Nat) (ls : am_L) (i : Nat) (n : Int) (st : List Value) : am_R := match am_get ls i with
  | some (.int x) => some (np, am_put1 ls i (.int (x + Int32.ofInt n)), st)
  | _ => none
def am_dup (np : Nat) (ls : am_L) (st : List Value) : am_R := match st with
  | a :: r => if a.category = 1 then some (np, ls, a :: a :: r) else none
  | [] => none
def am_pop (np : Nat) (ls : am_L) (st : List Value) : am_R := match st with
  | a :: r => if a.category = 1 then some (np, ls, r) else none
  | [] => none
def am_pop2 (np : Nat) (ls : am_L) (st : List Value) : am_R := match st with
  | a :: r => if a.category = 2 then some (np, ls, r) else none
  | [] => none
def am_dupx1 (np : Nat) (ls : am_L) (st : List Value) : am_R := match st with
  | a :: b :: r => if a.category = 1 ∧ b.category = 1 then some (np, ls, a :: b :: a :: r) else none
  | _ => none
def am_dupx2 (np : Nat) (ls : am_L) (st : List Value) : am_R := match st with
  | a :: b :: c :: r => if a.category = 1 ∧ b.category = 1 ∧ c.category = 1 then some (np, ls, a :: b :: c :: a :: r) else none
  | _ => none
def am_dup2 (np : Nat) (ls : am_L) (st : List Value) : am_R := match st with
  | a :: b :: r => if a.category = 1 ∧ b.category = 1 then some (np, ls, a :: b :: a :: b :: r) else none
  | _ => none
def am_ldc (E : am_E) (pc : Nat) (num : Int) (lk : am_K) (ls : am_L) (st : List Value) : am_R := match lk with
  | (0, _) :: _ => some (pc + 2, ls, .int (Int32.ofInt num) :: st)
  | (1, _) :: _ => if num.toNat < E.2.1.length ∧ num.toNat < 1000 then some (pc + 2, ls, .retAddr num.toNat :: st) else none
  | _ => none
def am_nul (pc : Nat) (ls : am_L) (want : Bool) (off : Int) (st : List Value) : am_R := match st with
  | .null :: r => if want = true then am_jp pc ls off r else some (pc + 3, ls, r)
  | .ref _ :: r => if want = true then some (pc + 3, ls, r) else am_jp pc ls off r
  | _ => none
def am_gs (E : am_E) (pc : Nat) (num : Int) (ls : am_L) (st : List Value) : am_R := match E.2.2.1[num.toNat]? with
  | some v => some (pc + 3, ls, v :: st)
  | none => none
def am_step (E : am_E) (pc : Nat) (i : Instr) (num : Int) (lk : am_K) (ls : am_L) (st : List Value) (h : am_H) : am_R := match i with
  | .iconst n => some (pc + 1, ls, .int (Int32.ofInt n) :: st)
  | .bipush n => some (pc + 2, ls, .int (Int8.ofInt n).toInt32 :: st)
  | .sipush n => some (pc + 3, ls, .int (Int16.ofInt n).toInt32 :: st)
  | .lconst n => some (pc + 1, ls, .long (Int64.ofNat (n : Nat)) :: st)
  | .aconst_null => some (pc + 1, ls, .null :: st)
  | .ldc _ => am_ldc E pc num lk ls st
  | .ldc_w _ => some (pc + 3, ls, .int (Int32.ofInt num) :: st)
  | .ldc2_w _ => some (pc + 3, ls, .long (Int64.ofInt num) :: st)
  | .iload_n k => am_ld (pc + 1) am_isI ls k st
  | .iload k => am_ld (pc + 2) am_isI ls k st
  | .lload_n k => am_ld (pc + 1) am_isL ls k st
  | .lload k => am_ld (pc + 2) am_isL ls k st
  | .aload_n k => am_ld (pc + 1) am_isA ls k st
  | .aload k => am_ld (pc + 2) am_isA ls k st
  | .istore_n k => am_st1 (pc + 1) am_isI ls k st
  | .istore k => am_st1 (pc + 2) am_isI ls k st
  | .lstore_n k => am_st2 (pc + 1) ls k st
  | .lstore k => am_st2 (pc + 2) ls k st
  | .astore_n k => am_st1 (pc + 1) am_isA ls k st
  | .astore k => am_st1 (pc + 2) am_isA ls k st
  | .iinc k n => am_inc (pc + 3) ls k n st
  | .iadd => am_i2 (pc + 1) ls (fun x y => x + y) st
  | .isub => am_i2 (pc + 1) ls (fun x y => x - y) st
  | .imul => am_i2 (pc + 1) ls (fun x y => x * y) st
  | .iand => am_i2 (pc + 1) ls (fun x y => x &&& y) st
  | .ior => am_i2 (pc + 1) ls (fun x y => x ||| y) st
  | .ixor => am_i2 (pc + 1) ls (fun x y => x ^^^ y) st
  | .ishl => am_i2 (pc + 1) ls (fun x y => x <<< (y &&& 31)) st
  | .ishr => am_i2 (pc + 1) ls (fun x y => x >>> (y &&& 31)) st
  | .iushr => am_i2 (pc + 1) ls (fun x y => (x.toUInt32 >>> (y.toUInt32 &&& Int32.toUInt32 31)).toInt32) st
  | .idiv => am_d2 (pc + 1) ls (fun x y => x / y) st
  | .irem => am_d2 (pc + 1) ls (fun x y => x - x / y * y) st
  | .ineg => am_i1 (pc + 1) ls (fun x => -x) st
  | .i2b => am_i1 (pc + 1) ls (fun x => x.toInt8.toInt32) st
  | .i2c => am_i1 (pc + 1) ls (fun x => (x.toUInt32 % 65536).toInt32) st
  | .i2l => am_il (pc + 1) ls st
  | .l2i => am_li (pc + 1) ls st
  | .ladd => am_l2 (pc + 1) ls (fun x y => x + y) st
  | .lsub => am_l2 (pc + 1) ls (fun x y => x - y) st
  | .lmul => am_l2 (pc + 1) ls (fun x y => x * y) st
  | .land => am_l2 (pc + 1) ls (fun x y => x &&& y) st
  | .lor => am_l2 (pc + 1) ls (fun x y => x ||| y) st
  | .ldiv => am_dl2 (pc + 1) ls (fun x y => x / y) st
  | .lrem => am_dl2 (pc + 1) ls (fun x y => x - x / y * y) st
  | .lneg => am_l1 (pc + 1) ls (fun x => -x) st
  | .lshl => am_s2 (pc + 1) ls (fun x y => x <<< (y.toInt64 &&& 63)) st
  | .lshr => am_s2 (pc + 1) ls (fun x y => x >>> (y.toInt64 &&& 63)) st
  | .lushr => am_s2 (pc + 1) ls (fun x y => (x.toUInt64 >>> (y.toInt64.toUInt64 &&& Int64.toUInt64 63)).toInt64) st
  | .lcmp => am_c2 (pc + 1) ls st
  | .dup => am_dup (pc + 1) ls st
  | .pop => am_pop (pc + 1) ls st
  | .pop2 => am_pop2 (pc + 1) ls st
  | .dup_x1 => am_dupx1 (pc + 1) ls st
  | .dup_x2 => am_dupx2 (pc + 1) ls st
  | .dup2 => am_dup2 (pc + 1) ls st
  | .ifCond c off => am_if pc ls c off st
  | .if_icmp c off => am_if2 pc ls c off st
  | .goto off => am_jp pc ls off st
  | .ifnull off => am_nul pc ls true off st
  | .ifnonnull off => am_nul pc ls false off st
  | .tableswitch dflt lo hi offs => am_sw pc ls dflt lo hi offs st
  | .lookupswitch dflt ps => am_lsw pc ls dflt ps st
  | .iaload => am_rdI E (pc + 1) 0 ls h st
  | .baload => am_rdI E (pc + 1) 1 ls h st
  | .laload => am_rdL (pc + 1) ls h st
  | .arraylength => am_alen E (pc + 1) ls h st
  | .getfield _ => am_gf E (pc + 3) lk ls h st
  | .getstatic _ => am_gs E pc num ls st
  | _ => none
/-- 0: heap as it was; 1: a return; 2: heap written or grown; 3: a call -/
def am_sort (i : Instr) : Nat := match i with
  | .ireturn => 1
  | .lreturn => 1
  | .areturn => 1
  | .return_ => 1
  | .putfield _ => 2
  | .iastore => 2
  | .bastore => 2
  | .lastore => 2
  | .new _ => 2
  | .newarray _ => 2
  | .invokestatic _ => 3
  | .invokespecial _ => 3
  | .invokevirtual _ => 3
  | _ => 0
/-- how long an instruction is -/
def am_len (i : Instr) (num : Int) : Nat := match i with
  | .bipush _ => 2
  | .ldc _ => 2
  | .iload _ => 2
  | .lload _ => 2
  | .aload _ => 2
  | .istore _ => 2
  | .lstore _ => 2
  | .astore _ => 2
  | .newarray _ => 2
  | .sipush _ => 3
  | .ldc_w _ => 3
  | .ldc2_w _ => 3
  | .iinc _ _ => 3
  | .ifCond _ _ => 3
  | .if_icmp _ _ => 3
  | .goto _ => 3
  | .ifnull _ => 3
  | .ifnonnull _ => 3
  | .getfield _ => 3
  | .putfield _ => 3
  | .getstatic _ => 3
  | .new _ => 3
  | .invokestatic _ => 3
  | .invokespecial _ => 3
  | .invokevirtual _ => 3
  | .tableswitch _ _ _ _ => num.toNat
  | .lookupswitch _ _ => num.toNat
  | _ => 1
/-- may a field of that sort keep the value as it is: 0 int, 1 boolean, 2 long, 3 a reference -/
def am_fit (tag : Nat) (v : Value) : Bool := match tag, v with
  | 0, .int _ => true
  | 1, .int x => decide (x = 0 ∨ x = 1)
  | 2, .long _ => true
  | 3, .ref _ => true
  | 3, .null => true
  | _, _ => false
def am_nb (t : Nat) (x : Int32) : Int32 := match t with
  | 0 => x
  | 3 => vp_nar .boolean x
  | _ => vp_nar .byte x
def am_pf (lk : am_K) (st : List Value) (h : am_H) : Option (List Value × am_H) := match st with
  | v :: .ref a :: r => match h[a]? with
    | some (.inr (.inr (ci, fs))) => match am_key lk ci with
      | some (k :: tag :: _) => if am_fit tag v = true ∧ k < fs.length then some (r, h.set a (.inr (.inr (ci, fs.set k v)))) else none
      | _ => none
    | _ => none
  | _ => none
def am_wrI (t : Nat) (st : List Value) (h : am_H) : Option (List Value × am_H) := match st with
  | .int x :: .int i :: .ref a :: r => match h[a]? with
    | some (.inl (t', n, f)) => if t' = t ∨ (t = 1 ∧ t' = 3) then (if i < 0 ∨ n ≤ i.toNatClampNeg then none else some (r, h.set a (.inl (t', n, upd f i.toNatClampNeg (am_nb t' x))))) else none
    | _ => none
  | _ => none
def am_wrL (st : List Value) (h : am_H) : Option (List Value × am_H) := match st with
  | .long x :: .int i :: .ref a :: r => match h[a]? with
    | some (.inr (.inl (n, f))) => if i < 0 ∨ n ≤ i.toNatClampNeg then none else some (r, h.set a (.inr (.inl (n, vp_updL f i.toNatClampNeg x))))
    | _ => none
  | _ => none
def am_new (E : am_E) (lk : am_K) (st : List Value) (h : am_H) : Option (List Value × am_H) := match lk with
  | (ci, _) :: _ => match E.1[ci]? with
    | some fs => some (.ref h.length :: st, h ++ [.inr (.inr (ci, fs))])
    | none => none
  | [] => none
def am_blank (t : ArrayType) (n : Nat) : Option am_C := match t with
  | .int => some (.inl (0, n, fun _ => 0))
  | .byte => some (.inl (1, n, fun _ => 0))
  | .boolean => some (.inl (3, n, fun _ => 0))
  | .long => some (.inr (.inl (n, fun _ => 0)))
  | _ => none
def am_na (t : ArrayType) (st : List Value) (h : am_H) : Option (List Value × am_H) := match st with
  | .int n :: r => if n < 0 ∨ 60000000 < n.toNatClampNeg then none else match am_blank t n.toNatClampNeg with
    | some x => some (.ref h.length :: r, h ++ [x])
    | none => none
  | _ => none
def am_hs (E : am_E) (i : Instr) (lk : am_K) (st : List Value) (h : am_H) : Option (List Value × am_H) := match i with
  | .putfield _ => am_pf lk st h
  | .iastore => am_wrI 0 st h
  | .bastore => am_wrI 1 st h
  | .lastore => am_wrL st h
  | .new _ => am_new E lk st h
  | .newarray t => am_na t st h
  | _ => none
def am_ret (ret : Option FieldType) (i : Instr) (st : List Value) : Option (Option Value) := match i, st with
  | .return_, [] => if ret = none then some none else none
  | .ireturn, [.int x] => match ret with
    | some .int => some (some (.int x))
    | some .boolean => if x = 0 ∨ x = 1 then some (some (.int x)) else none
    | some .char => if narrow .char (.int x) = .int x then some (some (.int x)) else none
    | some .byte => if narrow .byte (.int x) = .int x then some (some (.int x)) else none
    | _ => none
  | .lreturn, [.long x] => if ret = some .long then some (some (.long x)) else none
  | _, _ => none
def am_sum (r : List Value) : Nat := (r.map fun v => v.category).sum
def am_cls (E : am_E) (h : am_H) (v : Value) : Option Nat := match v with
  | .ref a => match h[a]? with
    | some (.inr (.inr (ci, _))) => some ci
    | _ => none
  | .retAddr k => if k < E.2.1.length ∧ k < 1000 then some 1000 else none
  | _ => none
/-- the callee, its arguments, what lies below them -/
def am_call (E : am_E) (h : am_H) (i : Instr) (lk : am_K) (st : List Value) : Option (Nat × List Value × List Value) := match lk with
  | (_, j :: n :: _) :: _ => match i with
    | .invokestatic _ => if n ≤ st.length then some (j, (st.take n).reverse, st.drop n) else none
    | .invokespecial _ => match st.drop n with
      | .ref a :: r => some (j, .ref a :: (st.take n).reverse, r)
      | _ => none
    | .invokevirtual _ => match st.drop n with
      | v :: r => match am_cls E h v with
        | some ci => match am_key lk ci with
          | some (j' :: n' :: _) => if n' = n then some (j', v :: (st.take n).reverse, r) else none
          | _ => none
        | none => none
      | _ => none
    | _ => none
  | _ => none
/-- java.lang.Math by its own rows: max, min of ints, abs of a long -/
def am_isP (lk : am_K) : Bool := match lk with
  | (3000, _) :: _ => true
  | _ => false
def am_math (lk : am_K) (st : List Value) : Option (List Value × List Value) := match lk, st with
  | (_, 0 :: _) :: _, .int y :: .int x :: r => some (.int (if x < y then y else x) :: r, r)
  | (_, 1 :: _) :: _, .int y :: .int x :: r => some (.int (if y < x then y else x) :: r, r)
  | (_, 2 :: _) :: _, .long x :: r => some (.long (if 0 < x then x else -x) :: r, r)
  | _, _ => none
/-- THE RUN: fuel, frames left, method, program counter, locals, stack, cells; the answer and the cells behind it -/
def am_ex (E : am_E) (T : List am_M) : Nat → Nat → Nat → Nat → am_L → List Value → am_H → Option (Option Value × am_H)
  | 0, _, _, _, _, _, _ => none
  | n + 1, d, j, pc, ls, st, h =>
    match T[j]? with
    | none => none
    | some M => match am_find M.2.2.2.2 pc with
      | none => none
      | some q => match am_sort q.2.1 with
        | 0 => match am_step E pc q.2.1 q.2.2.1 q.2.2.2 ls st h with
          | none => none
          | some S => am_ex E T n d j S.1 S.2.1 S.2.2 h
        | 1 => match am_ret M.2.2.2.1 q.2.1 st with
          | none => none
          | some v => some (v, h)
        | 2 => match am_hs E q.2.1 q.2.2.2 st h with
          | none => none
          | some S => am_ex E T n d j (pc + am_len q.2.1 q.2.2.1) ls S.1 S.2
        | _ => match d with
          | 0 => none
          | d' + 1 => match q.2.2.2 with
            | [] => match st with
              | .ref _ :: r => if am_sum r ≤ 8 then am_ex E T n (d' + 1) j (pc + 3) ls r h else none
              | _ => none
            | _ => if am_isP q.2.2.2 = true then
                (match am_math q.2.2.2 st with
                | none => none
                | some P => if am_sum P.2 ≤ 8 then am_ex E T n (d' + 1) j (pc + 3) ls P.1 h else none)
              else match am_call E h q.2.1 q.2.2.2 st with
              | none => none
              | some C => match T[C.1]? with
                | none => none
                | some M2 => if am_sum C.2.2 ≤ 8 ∧ M2.2.2.1 ≤ 41 ∧ am_sum C.2.1 ≤ M2.2.2.1 then
                    match am_ex E T n d' C.1 0 (lv_args 0 C.2.1) [] h with
                    | none => none
                    | some Z => am_ex E T n (d' + 1) j (pc + 3) ls (Z.1.toList ++ C.2.2) Z.2
                  else none
/-! WHAT THE TABLES MUST SAY of an entry: its place in a list of words, which is cut into lists of at most 256. -/
def am_at (Tc : List (List Cond)) (p : Nat) : Option Cond := match Tc[p / 256]? with
  | some l => l[p % 256]?
  | none => none
theorem am_at_mem {Tc : List (List Cond)} {p : Nat} {w : Cond} (h : am_at Tc p = some w) : w ∈ Tc.flatten := by
  unfold am_at at h
  split at h
  · rename_i l hl
    exact List.mem_flatten.mpr ⟨l, List.mem_of_getElem? hl, List.mem_of_getElem? h⟩
  · cases h
def am_okF (Tc : List (List Cond)) (Ns : List Cond) (cl : List vw_C) (own : String) (idx ci : Nat) (dat : List Nat) : Bool := match dat, cl[ci]? with
  | k :: _ :: kind :: p1 :: p2 :: _, some (_, F, N) => decide (k < N) && (match kind with
    | 0 => decide (am_at Tc p1 = some (.fieldLink own idx (F k).1 (F k).2.1 (F k).2.2.1))
    | 1 => (match am_at Tc p1 with
      | some (.fieldLink _ _ r _ _) => decide (am_at Tc p1 = some (.fieldLink own idx r (F k).2.1 (F k).2.2.1)) && decide (am_at Tc p2 = some (.sameField r (F k).1 (F k).2.1 (F k).2.2.1))
      | _ => false)
    | 2 => (match Ns[p1]? with
      | some (.fieldLinkNest _ _ _ _ _ ho) => decide (Ns[p1]? = some (.fieldLinkNest own idx (F k).1 (F k).2.1 (F k).2.2.1 ho))
      | _ => false)
    | _ => false)
  | _, _ => false
def am_okT (d : String) (tag : Nat) : Bool := match tag, parseFieldDescriptor d with
  | 0, some .int => true
  | 1, some .boolean => true
  | 2, some .long => true
  | 3, some (.object _) => true
  | 3, some (.array _) => true
  | _, _ => false
/-- a field that is written: it is no final one, or a final one of its own constructor -/
def am_okP (cl : List vw_C) (own nm : String) (ci : Nat) (dat : List Nat) : Bool := match dat, cl[ci]? with
  | k :: tag :: kind :: _, some (_, F, _) => am_okT (F k).2.2.1 tag && (if (F k).2.2.2 = true then decide (nm = "<init>") && decide ((F k).1 = own) && decide (kind = 0) else true)
  | _, _ => false
def am_okX (Tc : List (List Cond)) (own : String) (idx : Nat) (dat : List Nat) : Bool := match dat with
  | 0 :: p1 :: _ => decide (am_at Tc p1 = some (.fieldLink own idx "java/lang/String" "coder" "B"))
  | 1 :: p1 :: _ => decide (am_at Tc p1 = some (.fieldLink own idx "java/lang/String" "value" "[B"))
  | _ => false
/-- a class's name by its number; 1000: the texts' -/
def am_cn (cl : List vw_C) (ci : Nat) : Option String := if ci = 1000 then some "java/lang/String" else (cl[ci]?).map (fun q => q.1)
/-- a call of the method number j, with n parameters, for a receiver of the class ci -/
def am_okC (Tc : List (List Cond)) (Ns : List Cond) (cl : List vw_C) (T : List am_M) (own : String) (i : Instr) (ci : Nat) (dat : List Nat) : Bool := match dat with
  | j :: n :: kind :: p1 :: p2 :: p3 :: p4 :: p5 :: _ => (match T[j]? with
    | none => false
    | some M => decide (0 < j) && decide ((parseMethodDescriptor M.1.desc).map (fun d => d.parameters.length) = some n) && (match kind, i with
      | 0, .invokestatic idx => decide (am_at Tc p1 = some (.methodLink own idx M.1)) && decide (am_at Tc p2 = some (.static M.1))
      | 1, .invokestatic idx => (match Ns[p1]? with
        | some (.methodLinkNest _ _ _ ho) => decide (Ns[p1]? = some (.methodLinkNest own idx M.1 ho)) && decide (am_at Tc p2 = some (.static M.1))
        | _ => false)
      | 2, .invokespecial idx => decide (am_at Tc p1 = some (.methodLink own idx M.1)) && decide (am_at Tc p2 = some (.instanceMethod M.1)) && decide (M.1.name = "<init>") && decide (M.2.2.2.1 = none)
      | 3, .invokespecial idx => (match Ns[p1]? with
        | some (.methodLinkNest _ _ _ ho) => decide (Ns[p1]? = some (.methodLinkNest own idx M.1 ho)) && decide (am_at Tc p2 = some (.instanceMethod M.1)) && decide (M.1.name = "<init>") && decide (M.2.2.2.1 = none)
        | _ => false)
      | 4, .invokevirtual idx => (match am_cn cl ci with
        | some C => decide (am_at Tc p1 = some (.methodLink own idx M.1)) && decide (am_at Tc p2 = some (.instanceMethod M.1)) && decide (am_at Tc p3 = some (.selects C M.1 M.1))
        | none => false)
      | 5, .invokevirtual idx => (match am_cn cl ci, Ns[p1]? with
        | some C, some (.methodLinkNest _ _ _ ho) => decide (Ns[p1]? = some (.methodLinkNest own idx M.1 ho)) && decide (am_at Tc p2 = some (.instanceMethod M.1)) && decide (am_at Tc p3 = some (.selects C M.1 M.1))
        | _, _ => false)
      | 6, .invokevirtual idx => (match am_cn cl ci, am_at Tc p1, am_at Tc p4 with
        | some C, some (.methodLink _ _ x), some (.sameMethod _ o _ _) => decide (am_at Tc p1 = some (.methodLink own idx x)) && decide (am_at Tc p2 = some (.instanceMethod M.1)) && decide (am_at Tc p3 = some (.selects C x M.1)) && decide (am_at Tc p4 = some (.sameMethod x.cls o x.name x.desc)) && decide (M.1 = ⟨o, x.name, x.desc⟩)
        | _, _, _ => false)
      | 7, .invokevirtual idx => (match am_cn cl ci, am_at Tc p1, am_at Tc p4 with
        | some C, some (.methodLink _ _ x), some (.sameMethod _ o _ _) => decide (am_at Tc p1 = some (.methodLink own idx x)) && decide (am_at Tc p2 = some (.instanceMethod M.1)) && decide (am_at Tc p3 = some (.selects C x M.1)) && decide (am_at Tc p4 = some (.sameMethod x.cls o x.name x.desc)) && decide (Ns[p5]? = some (.declares ⟨o, x.name, x.desc⟩)) && decide (o ≠ "java/lang/invoke/MethodHandle") && decide (o ≠ "java/lang/invoke/VarHandle") && decide (M.1.desc = x.desc)
        | _, _, _ => false)
      | _, _ => false))
  | _ => false
def am_okM (Tc : List (List Cond)) (own : String) (idx : Nat) (lk : am_K) : Bool := match lk with
  | (_, 0 :: p1 :: p2 :: p3 :: p4 :: _) :: _ => decide (am_at Tc p1 = some (.methodLink own idx Lib.Math.max.name)) && decide (am_at Tc p2 = some (.static Lib.Math.max.name)) && decide (am_at Tc p3 = some (.initialized "java/lang/Math")) && decide (am_at Tc p4 = some (.code Lib.Math.max.name Lib.Math.max.code 2 (some .int)))
  | (_, 1 :: p1 :: p2 :: p3 :: p4 :: _) :: _ => decide (am_at Tc p1 = some (.methodLink own idx Lib.Math.min.name)) && decide (am_at Tc p2 = some (.static Lib.Math.min.name)) && decide (am_at Tc p3 = some (.initialized "java/lang/Math")) && decide (am_at Tc p4 = some (.code Lib.Math.min.name Lib.Math.min.code 2 (some .int)))
  | (_, 2 :: p1 :: p2 :: p3 :: p4 :: _) :: _ => decide (am_at Tc p1 = some (.methodLink own idx Lib.MathLoose.abs_long.x)) && decide (am_at Tc p2 = some (.static Lib.MathLoose.abs_long.x)) && decide (am_at Tc p3 = some (.initialized "java/lang/Math")) && decide (am_at Tc p4 = some (.code Lib.MathLoose.abs_long.x Lib.MathLoose.abs_long.code 2 (some .long)))
  | _ => false
abbrev am_Rs : Type := List (String × Nat × String × Nat)
abbrev am_Zs : Type := List (String × String × String)
def am_okI (Tc : List (List Cond)) (Ns : List Cond) (Rs : am_Rs) (Zs : am_Zs) (cl : List vw_C) (T : List am_M) (own nm : String) (maxL : Nat) (i : Instr) (num : Int) (lk : am_K) : Bool := match i with
  | .istore_n k => decide ((k : Nat) < maxL)
  | .istore k => decide (k < maxL)
  | .astore_n k => decide ((k : Nat) < maxL)
  | .astore k => decide (k < maxL)
  | .lstore_n k => decide ((k : Nat) + 1 < maxL)
  | .lstore k => decide (k + 1 < maxL)
  | .iinc k _ => decide (k < maxL)
  | .ldc idx => (match lk with
    | (0, p :: _) :: _ => decide (am_at Tc p = some (.constant own idx (Int32.ofInt num)))
    | (1, p :: _) :: _ => (match Rs[p]? with
      | some (o, ix, _, k) => decide (o = own) && decide (ix = idx) && decide (k = num.toNat)
      | none => false)
    | _ => false)
  | .ldc_w idx => (match lk with
    | (0, p :: _) :: _ => decide (am_at Tc p = some (.constant own idx (Int32.ofInt num)))
    | _ => false)
  | .ldc2_w idx => (match lk with
    | (0, p :: _) :: _ => decide (am_at Tc p = some (.constantLong own idx (Int64.ofInt num)))
    | _ => false)
  | .getfield idx => lk.all (fun q => if q.1 = 1000 then am_okX Tc own idx q.2 else am_okF Tc Ns cl own idx q.1 q.2)
  | .putfield idx => lk.all (fun q => am_okF Tc Ns cl own idx q.1 q.2 && am_okP cl own nm q.1 q.2)
  | .getstatic idx => (match lk with
    | (_, p :: _) :: _ => (match Zs[num.toNat]? with
      | some (C, n, d) => decide (am_at Tc p = some (.fieldLink own idx C n d))
      | none => false)
    | _ => false)
  | .new idx => (match lk with
    | (ci, p1 :: p2 :: p3 :: _) :: _ => (match cl[ci]? with
      | some (C, _, N) => decide (am_at Tc p1 = some (.classLink own idx C)) && decide (am_at Tc p2 = some (.instantiable C N)) && decide (am_at Tc p3 = some (.initialized C))
      | none => false)
    | _ => false)
  | .newarray t => (match lk with
    | (_, p :: _) :: _ => decide (am_at Tc p = some (.arrayClass (newarray.typeOf t)))
    | _ => false)
  | .invokestatic idx => if am_isP lk = true then am_okM Tc own idx lk else !lk.isEmpty && lk.all (fun q => am_okC Tc Ns cl T own i q.1 q.2)
  | .invokevirtual _ => !am_isP lk && !lk.isEmpty && lk.all (fun q => am_okC Tc Ns cl T own i q.1 q.2)
  | .invokespecial idx => (match lk with
    | [] => decide (am_at Tc num.toNat = some (.methodLink own idx objectInit))
    | _ => !am_isP lk && lk.all (fun q => am_okC Tc Ns cl T own i q.1 q.2))
  | _ => true
def am_okQ (Tc : List (List Cond)) (Ns : List Cond) (Rs : am_Rs) (Zs : am_Zs) (cl : List vw_C) (T : List am_M) (M : am_M) (q : am_Q) : Bool :=
  decide (decode M.2.1 q.1 = .ok (q.2.1, am_len q.2.1 q.2.2.1)) && am_okI Tc Ns Rs Zs cl T M.1.cls M.1.name M.2.2.1 q.2.1 q.2.2.1 q.2.2.2
/-! ITS STEPS ARE STEPS OF THE MACHINE. -/
def am_cv (b : Nat) (sa : Nat → Nat) (v : Value) : Value := match v with
  | .ref i => .ref (b + i)
  | .retAddr k => .ref (sa k)
  | v => v
def am_cl (b : Nat) (sa : Nat → Nat) (ls : am_L) : am_L := ls.map (fun q => (q.1, am_cv b sa q.2))
def am_ce (K : Nat → ClassId) (b : Nat) (sa : Nat → Nat) (x : am_C) : va_E := match x with
  | .inl (t, n, f) => .inl (K t, n, .inl f)
  | .inr (.inl (n, f)) => .inl (K 2, n, .inr (.inl f))
  | .inr (.inr (ci, fs)) => .inr (ci, fs.map (am_cv b sa))
def am_W (K : Nat → ClassId) (b : Nat) (sa : Nat → Nat) (h : am_H) : va_W := h.mapIdx (fun i x => (b + i, am_ce K b sa x))
def am_tys (K : Nat → ClassId) : List (ClassId × FieldType) := [(K 0, .int), (K 1, .byte), (K 2, .long), (K 3, .boolean)]
theorem am_cat (b : Nat) (sa : Nat → Nat) (v : Value) : (am_cv b sa v).category = v.category := by cases v <;> rfl
theorem am_get_mem {ls : am_L} {i : Nat} {v : Value} (h : am_get ls i = some v) : (i, v) ∈ ls := by
  induction ls with
  | nil => cases h
  | cons q r ih =>
    unfold am_get at h
    split at h
    · rename_i e
      cases h
      rw [← e]
      exact List.mem_cons_self
    · exact List.mem_cons_of_mem _ (ih h)
theorem am_get_at {b nL : Nat} {sa : Nat → Nat} {Ls : Array Slot} {ls : am_L} {i : Nat} {v : Value} (hl : lv_has Ls nL (am_cl b sa ls)) (h : am_get ls i = some v) : Ls[i]? = some (.val (am_cv b sa v)) :=
  hl.2.2 (i, am_cv b sa v) (List.mem_map.mpr ⟨(i, v), am_get_mem h, rfl⟩)
theorem am_put1_cl (b : Nat) (sa : Nat → Nat) (ls : am_L) (i : Nat) (v : Value) : (i, am_cv b sa v) :: (am_cl b sa ls).filter (fun q => !(q.1 == i) && !(q.1 + 1 == i && q.2.category == 2)) = am_cl b sa (am_put1 ls i v) := by
  unfold am_cl am_put1
  rw [List.map_cons, List.filter_map]
  congr 2
  apply List.filter_congr
  intro q _
  simp only [Function.comp, am_cat]
theorem am_put2_cl (b : Nat) (sa : Nat → Nat) (ls : am_L) (i : Nat) (v : Value) : (i, am_cv b sa v) :: (am_cl b sa ls).filter (fun q => !(q.1 == i) && (!(q.1 == i + 1) && !(q.1 + 1 == i && q.2.category == 2))) = am_cl b sa (am_put2 ls i v) := by
  unfold am_cl am_put2
  rw [List.map_cons, List.filter_map]
  congr 2
  apply List.filter_congr
  intro q _
  simp only [Function.comp, am_cat]
theorem am_W_at {K : Nat → ClassId} {b : Nat} {sa : Nat → Nat} {h : am_H} {a : Nat} {x : am_C} (hx : h[a]? = some x) : (am_W K b sa h)[a]? = some (b + a, am_ce K b sa x) := by
  unfold am_W
  rw [List.getElem?_mapIdx, hx]
  rfl
section AMG
variable {Wg : JFrame → Prop} {m : MethodId} {Ls : Array Slot} {b nL pc np : Nat} {sa : Nat → Nat} {ls : am_L} {st : List Value} {S : Nat × am_L × List Value}
/-- where the walk goes on -/
abbrev am_kk (Wg : JFrame → Prop) (m : MethodId) (b nL : Nat) (sa : Nat → Nat) (S : Nat × am_L × List Value) : Prop := ∀ Ls' : Array Slot, lv_has Ls' nL (am_cl b sa S.2.1) → Wg (F0 m S.1 Ls' (S.2.2.map (am_cv b sa)))
theorem am_cst {v : Value} (row : Wg (F0 m np Ls (am_cv b sa v :: st.map (am_cv b sa))) → Wg (F0 m pc Ls (st.map (am_cv b sa)))) (hs : some (np, ls, v :: st) = some S) (hl : lv_has Ls nL (am_cl b sa ls)) (kk : am_kk Wg m b nL sa S) : Wg (F0 m pc Ls (st.map (am_cv b sa))) := by
  cases hs
  exact row (kk Ls hl)
theorem am_ld_ok {t : Value → Bool} {i : Nat} (row : ∀ v : Value, t v = true → Ls[i]? = some (.val (am_cv b sa v)) → Wg (F0 m np Ls (am_cv b sa v :: st.map (am_cv b sa))) → Wg (F0 m pc Ls (st.map (am_cv b sa)))) (hs : am_ld np t ls i st = some S) (hl : lv_has Ls nL (am_cl b sa ls)) (kk : am_kk Wg m b nL sa S) : Wg (F0 m pc Ls (st.map (am_cv b sa))) := by
  unfold am_ld at hs
  split at hs
  · rename_i v hv
    split at hs
    · rename_i ht
      cases hs
      exact row v ht (am_get_at hl hv) (kk Ls hl)
    · cases hs
  · cases hs
theorem am_st1_ok {t : Value → Bool} {i : Nat} (row : ∀ (v : Value) (r : List Value), t v = true → (∀ ls' : Array Slot, lv_has ls' nL (am_cl b sa (am_put1 ls i v)) → Wg (F0 m np ls' r)) → Wg (F0 m pc Ls (am_cv b sa v :: r))) (hs : am_st1 np t ls i st = some S) (kk : am_kk Wg m b nL sa S) : Wg (F0 m pc Ls (st.map (am_cv b sa))) := by
  unfold am_st1 at hs
  split at hs
  · split at hs
    · rename_i ht
      cases hs
      exact row _ _ ht (fun ls' h' => kk ls' h')
    · cases hs
  · cases hs
theorem am_st2_ok {i : Nat} (row : ∀ (v : Value) (r : List Value), am_isL v = true → (∀ ls' : Array Slot, lv_has ls' nL (am_cl b sa (am_put2 ls i v)) → Wg (F0 m np ls' r)) → Wg (F0 m pc Ls (am_cv b sa v :: r))) (hs : am_st2 np ls i st = some S) (kk : am_kk Wg m b nL sa S) : Wg (F0 m pc Ls (st.map (am_cv b sa))) := by
  unfold am_st2 at hs
  split at hs
  · split at hs
    · rename_i ht
      cases hs
      exact row _ _ ht (fun ls' h' => kk ls' h')
    · cases hs
  · cases hs
theorem am_i2_ok {f : Int32 → Int32 → Int32} (row : ∀ (x y : Int32) (r : List Value), Wg (F0 m np Ls (.int (f x y) :: r)) → Wg (F0 m pc Ls (.int y :: .int x :: r))) (hs : am_i2 np ls f st = some S) (hl : lv_has Ls nL (am_cl b sa ls)) (kk : am_kk Wg m b nL sa S) : Wg (F0 m pc Ls (st.map (am_cv b sa))) := by
  unfold am_i2 at hs
  split at hs
  · cases hs
    exact row _ _ _ (kk Ls hl)
  · cases hs
theorem am_d2_ok {f : Int32 → Int32 → Int32} (row : ∀ (x y : Int32) (r : List Value), ¬ y = 0 → Wg (F0 m np Ls (.int (f x y) :: r)) → Wg (F0 m pc Ls (.int y :: .int x :: r))) (hs : am_d2 np ls f st = some S) (hl : lv_has Ls nL (am_cl b sa ls)) (kk : am_kk Wg m b nL sa S) : Wg (F0 m pc Ls (st.map (am_cv b sa))) := by
  unfold am_d2 at hs
  split at hs
  · split at hs
    · cases hs
    · rename_i h0
      cases hs
      exact row _ _ _ h0 (kk Ls hl)
  · cases hs
theorem am_l2_ok {f : Int64 → Int64 → Int64} (row : ∀ (x y : Int64) (r : List Value), Wg (F0 m np Ls (.long (f x y) :: r)) → Wg (F0 m pc Ls (.long y :: .long x :: r))) (hs : am_l2 np ls f st = some S) (hl : lv_has Ls nL (am_cl b sa ls)) (kk : am_kk Wg m b nL sa S) : Wg (F0 m pc Ls (st.map (am_cv b sa))) := by
  unfold am_l2 at hs
  split at hs
  · cases hs
    exact row _ _ _ (kk Ls hl)
  · cases hs
theorem am_dl2_ok {f : Int64 → Int64 → Int64} (row : ∀ (x y : Int64) (r : List Value), ¬ y = 0 → Wg (F0 m np Ls (.long (f x y) :: r)) → Wg (F0 m pc Ls (.long y :: .long x :: r))) (hs : am_dl2 np ls f st = some S) (hl : lv_has Ls nL (am_cl b sa ls)) (kk : am_kk Wg m b nL sa S) : Wg (F0 m pc Ls (st.map (am_cv b sa))) := by
  unfold am_dl2 at hs
  split at hs
  · split at hs
    · cases hs
    · rename_i h0
      cases hs
      exact row _ _ _ h0 (kk Ls hl)
  · cases hs
theorem am_l1_ok {f : Int64 → Int64} (row : ∀ (x : Int64) (r : List Value), Wg (F0 m np Ls (.long (f x) :: r)) → Wg (F0 m pc Ls (.long x :: r))) (hs : am_l1 np ls f st = some S) (hl : lv_has Ls nL (am_cl b sa ls)) (kk : am_kk Wg m b nL sa S) : Wg (F0 m pc Ls (st.map (am_cv b sa))) := by
  unfold am_l1 at hs
  split at hs
  · cases hs
    exact row _ _ (kk Ls hl)
  · cases hs
theorem am_s2_ok {f : Int64 → Int32 → Int64} (row : ∀ (x : Int64) (y : Int32) (r : List Value), Wg (F0 m np Ls (.long (f x y) :: r)) → Wg (F0 m pc Ls (.int y :: .long x :: r))) (hs : am_s2 np ls f st = some S) (hl : lv_has Ls nL (am_cl b sa ls)) (kk : am_kk Wg m b nL sa S) : Wg (F0 m pc Ls (st.map (am_cv b sa))) := by
  unfold am_s2 at hs
  split at hs
  · cases hs
    exact row _ _ _ (kk Ls hl)
  · cases hs
theorem am_c2_ok (row : ∀ (x y : Int64) (r : List Value), Wg (F0 m np Ls (.int (lg_cmp x y) :: r)) → Wg (F0 m pc Ls (.long y :: .long x :: r))) (hs : am_c2 np ls st = some S) (hl : lv_has Ls nL (am_cl b sa ls)) (kk : am_kk Wg m b nL sa S) : Wg (F0 m pc Ls (st.map (am_cv b sa))) := by
  unfold am_c2 at hs
  split at hs
  · cases hs
    exact row _ _ _ (kk Ls hl)
  · cases hs
theorem am_i1_ok {f : Int32 → Int32} (row : ∀ (x : Int32) (r : List Value), Wg (F0 m np Ls (.int (f x) :: r)) → Wg (F0 m pc Ls (.int x :: r))) (hs : am_i1 np ls f st = some S) (hl : lv_has Ls nL (am_cl b sa ls)) (kk : am_kk Wg m b nL sa S) : Wg (F0 m pc Ls (st.map (am_cv b sa))) := by
  unfold am_i1 at hs
  split at hs
  · cases hs
    exact row _ _ (kk Ls hl)
  · cases hs
theorem am_il_ok (row : ∀ (x : Int32) (r : List Value), Wg (F0 m np Ls (.long x.toInt64 :: r)) → Wg (F0 m pc Ls (.int x :: r))) (hs : am_il np ls st = some S) (hl : lv_has Ls nL (am_cl b sa ls)) (kk : am_kk Wg m b nL sa S) : Wg (F0 m pc Ls (st.map (am_cv b sa))) := by
  unfold am_il at hs
  split at hs
  · cases hs
    exact row _ _ (kk Ls hl)
  · cases hs
theorem am_li_ok (row : ∀ (x : Int64) (r : List Value), Wg (F0 m np Ls (.int x.toInt32 :: r)) → Wg (F0 m pc Ls (.long x :: r))) (hs : am_li np ls st = some S) (hl : lv_has Ls nL (am_cl b sa ls)) (kk : am_kk Wg m b nL sa S) : Wg (F0 m pc Ls (st.map (am_cv b sa))) := by
  unfold am_li at hs
  split at hs
  · cases hs
    exact row _ _ (kk Ls hl)
  · cases hs
theorem am_jp_ok {off : Int} {r : List Value} {G : Prop} (row : ∀ tgt : Nat, (pc : Int) + off = (tgt : Int) → Wg (F0 m tgt Ls (r.map (am_cv b sa))) → G) (hs : am_jp pc ls off r = some S) (hl : lv_has Ls nL (am_cl b sa ls)) (kk : am_kk Wg m b nL sa S) : G := by
  unfold am_jp at hs
  split at hs
  · rename_i h0
    cases hs
    exact row _ (Int.toNat_of_nonneg h0).symm (kk Ls hl)
  · cases hs
theorem am_br_ok {bb : Bool} {off : Int} {r : List Value} {G : Prop} (rt : ∀ tgt : Nat, (pc : Int) + off = (tgt : Int) → bb = true → Wg (F0 m tgt Ls (r.map (am_cv b sa))) → G) (rf : ∀ tgt : Nat, (pc : Int) + off = (tgt : Int) → ¬ bb = true → Wg (F0 m (pc + 3) Ls (r.map (am_cv b sa))) → G) (hs : am_br pc ls bb off r = some S) (hl : lv_has Ls nL (am_cl b sa ls)) (kk : am_kk Wg m b nL sa S) : G := by
  unfold am_br at hs
  split at hs
  · rename_i h0
    have ht := (Int.toNat_of_nonneg h0).symm
    split at hs
    · rename_i h1
      cases hs
      exact rt _ ht h1 (kk Ls hl)
    · rename_i h1
      cases hs
      exact rf _ ht h1 (kk Ls hl)
  · cases hs
theorem am_inc_ok {i : Nat} {n : Int} (row : ∀ (x : Int32) (k : Nat), (am_cl b sa ls)[k]? = some (i, .int x) → (∀ ls' : Array Slot, lv_has ls' nL (am_cl b sa (am_put1 ls i (.int (x + Int32.ofInt n)))) → Wg (F0 m np ls' (st.map (am_cv b sa)))) → Wg (F0 m pc Ls (st.map (am_cv b sa)))) (hs : am_inc np ls i n st = some S) (kk : am_kk Wg m b nL sa S) : Wg (F0 m pc Ls (st.map (am_cv b sa))) := by
  unfold am_inc at hs
  split at hs
  · rename_i x hx
    cases hs
    have hm : (i, Value.int x) ∈ am_cl b sa ls := List.mem_map.mpr ⟨(i, .int x), am_get_mem hx, rfl⟩
    obtain ⟨k, hk⟩ := List.getElem?_of_mem hm
    exact row x k hk kk
  · cases hs
theorem am_dup_ok (row : ∀ (v : Value) (r : List Value), v.category = 1 → Wg (F0 m np Ls (v :: v :: r)) → Wg (F0 m pc Ls (v :: r))) (hs : am_dup np ls st = some S) (hl : lv_has Ls nL (am_cl b sa ls)) (kk : am_kk Wg m b nL sa S) : Wg (F0 m pc Ls (st.map (am_cv b sa))) := by
  unfold am_dup at hs
  split at hs
  · split at hs
    · rename_i h0
      cases hs
      exact row _ _ (by rw [am_cat]; exact h0) (kk Ls hl)
    · cases hs
  · cases hs
theorem am_pop_ok (row : ∀ (v : Value) (r : List Value), v.category = 1 → Wg (F0 m np Ls r) → Wg (F0 m pc Ls (v :: r))) (hs : am_pop np ls st = some S) (hl : lv_has Ls nL (am_cl b sa ls)) (kk : am_kk Wg m b nL sa S) : Wg (F0 m pc Ls (st.map (am_cv b sa))) := by
  unfold am_pop at hs
  split at hs
  · split at hs
    · rename_i h0
      cases hs
      exact row _ _ (by rw [am_cat]; exact h0) (kk Ls hl)
    · cases hs
  · cases hs
theorem am_pop2_ok (row : ∀ (v : Value) (r : List Value), v.category = 2 → Wg (F0 m np Ls r) → Wg (F0 m pc Ls (v :: r))) (hs : am_pop2 np ls st = some S) (hl : lv_has Ls nL (am_cl b sa ls)) (kk : am_kk Wg m b nL sa S) : Wg (F0 m pc Ls (st.map (am_cv b sa))) := by
  unfold am_pop2 at hs
  split at hs
  · split at hs
    · rename_i h0
      cases hs
      exact row _ _ (by rw [am_cat]; exact h0) (kk Ls hl)
    · cases hs
  · cases hs
theorem am_dupx1_ok (row : ∀ (v w : Value) (r : List Value), v.category = 1 → w.category = 1 → Wg (F0 m np Ls (v :: w :: v :: r)) → Wg (F0 m pc Ls (v :: w :: r))) (hs : am_dupx1 np ls st = some S) (hl : lv_has Ls nL (am_cl b sa ls)) (kk : am_kk Wg m b nL sa S) : Wg (F0 m pc Ls (st.map (am_cv b sa))) := by
  unfold am_dupx1 at hs
  split at hs
  · split at hs
    · rename_i h0
      cases hs
      exact row _ _ _ (by rw [am_cat]; exact h0.1) (by rw [am_cat]; exact h0.2) (kk Ls hl)
    · cases hs
  · cases hs
theorem am_dupx2_ok (row : ∀ (v w z : Value) (r : List Value), v.category = 1 → w.category = 1 → z.category = 1 → Wg (F0 m np Ls (v :: w :: z :: v :: r)) → Wg (F0 m pc Ls (v :: w :: z :: r))) (hs : am_dupx2 np ls st = some S) (hl : lv_has Ls nL (am_cl b sa ls)) (kk : am_kk Wg m b nL sa S) : Wg (F0 m pc Ls (st.map (am_cv b sa))) := by
  unfold am_dupx2 at hs
  split at hs
  · split at hs
    · rename_i h0
      cases hs
      exact row _ _ _ _ (by rw [am_cat]; exact h0.1) (by rw [am_cat]; exact h0.2.1) (by rw [am_cat]; exact h0.2.2) (kk Ls hl)
    · cases hs
  · cases hs
theorem am_dup2_ok (row : ∀ (v w : Value) (r : List Value), v.category = 1 → w.category = 1 → Wg (F0 m np Ls (v :: w :: v :: w :: r)) → Wg (F0 m pc Ls (v :: w :: r))) (hs : am_dup2 np ls st = some S) (hl : lv_has Ls nL (am_cl b sa ls)) (kk : am_kk Wg m b nL sa S) : Wg (F0 m pc Ls (st.map (am_cv b sa))) := by
  unfold am_dup2 at hs
  split at hs
  · split at hs
    · rename_i h0
      cases hs
      exact row _ _ _ (by rw [am_cat]; exact h0.1) (by rw [am_cat]; exact h0.2) (kk Ls hl)
    · cases hs
  · cases hs
end AMG
/-- what holds of a state whatever its cells hold: the tables, the private links, the texts, the statics, the script -/
def am_U (D : va_G) (cl : List vw_C) (K : Nat → ClassId) (b : Nat) (sa : Nat → Nat) (Ns : List Cond) (Rs : am_Rs) (Zs : am_Zs) (E : am_E) (U : State) : Prop :=
  va_K D cl (am_tys K) U ∧ (∀ w ∈ Ns, va_Nw w U) ∧ vk_S E.2.1.length (E.2.1.map List.length) E.2.1 sa (fun i => sa (1000 + i)) (fun q => b ≤ q) U U.heap ∧ (∀ q ∈ Rs, vk_R q.1 q.2.1 q.2.2.1 (sa q.2.2.2) U) ∧ (∀ (i : Nat) (C n d : String) (v : Value), Zs[i]? = some (C, n, d) → E.2.2.1[i]? = some v → va_Z C n d (am_cv b sa v) (fun q => b ≤ q) U U.heap) ∧ (∀ (L : Nat) (xs : Nat → Int32), E.2.2.2 = some (L, xs) → va_X (sa 9999) L xs U U.heap) ∧ sa 9999 < U.heap.size ∧ sa 9999 < b
/-- the classes, their words, their fields' types and default values -/
def am_CL (Tc : List Cond) (cl : List vw_C) (df : List (List Value)) : Prop := ∀ (ci : Nat) (C : String) (F : u_T) (N : Nat), cl[ci]? = some (C, F, N) → (∀ w ∈ u_ws C F N, w ∈ Tc) ∧ (∃ ty : Nat → FieldType, (∀ k, k < N → parseFieldDescriptor (F k).2.2.1 = some (ty k)) ∧ ∀ fs : List Value, df[ci]? = some fs → fs.length = N ∧ (∀ j, j < N → defaultValue (ty j) = vp_V fs j) ∧ ∀ (b : Nat) (sa : Nat → Nat), fs.map (am_cv b sa) = fs) ∧ ∀ x, x < N → ∀ y, y < N → x ≠ y → (F x).2.1 ≠ (F y).2.1
theorem am_key_mem {lk : am_K} {k : Nat} {d : List Nat} (h : am_key lk k = some d) : (k, d) ∈ lk := by
  induction lk with
  | nil => cases h
  | cons q r ih =>
    unfold am_key at h
    split at h
    · rename_i e
      cases h
      rw [← e]
      exact List.mem_cons_self
    · exact List.mem_cons_of_mem _ (ih h)
section AMR
variable {p : Program} {l : Launch} {e : Env} {R : Room} {s : State} {m : MethodId} {args : Array Value} {below : List Frame} {meth : Method} {c : Code} {H : Heap} {locs : List Loc} {cells slots : Nat} {Q : State → Prop}
variable {cc : ByteArray} {pc nL : Nat} {Ls : Array Slot} {D : va_G} {cl : List vw_C} {K : Nat → ClassId} {b : Nat} {sa : Nat → Nat} {Tc : List (List Cond)} {G Ns : List Cond} {Rs : am_Rs} {Zs : am_Zs} {E : am_E} {ls : am_L} {st : List Value} {h : am_H} {S : Nat × am_L × List Value} {own : String}
theorem am_rdI_ok {t : Nat} {i : Instr} (ht : (t = 0 ∧ i = .iaload) ∨ (t = 1 ∧ i = .baload)) (hx : p.tables.exec = Jvm.exec) (hb : c.code = cc) (hU : am_U D cl K b sa Ns Rs Zs E s) (hP : va_P D cl (am_W K b sa h) H) (hS : va_S (fun q => b ≤ q) s.heap H locs) (hdg : decode cc pc = .ok (i, 1)) (hs : am_rdI E (pc + 1) t ls h st = some S) (hl : lv_has Ls nL (am_cl b sa ls)) (kk : am_kk (W p l e R s m args below meth c H locs cells slots Q) m b nL sa S) : W p l e R s m args below meth c H locs cells slots Q (F0 m pc Ls (st.map (am_cv b sa))) := by
  unfold am_rdI at hs
  split at hs
  · rename_i ix v r
    split at hs
    · rename_i n f hr
      split at hs
      · cases hs
      · rename_i hin
        cases hs
        unfold am_rowI at hr
        split at hr
        · rename_i a
          split at hr
          · rename_i t' n' f' hc
            split at hr
            · rename_i et
              cases hr
              rcases ht with ⟨rfl, rfl⟩ | ⟨rfl, rfl⟩
              · rcases et with rfl | ⟨h1, -⟩
                · exact va_iald hx hb hU.1 hP a 0 (am_W_at hc) rfl hin hdg (kk Ls hl)
                · cases h1
              · rcases et with rfl | ⟨-, rfl⟩
                · exact va_bald hx hb hU.1 hP a 1 (am_W_at hc) rfl hin hdg (kk Ls hl)
                · exact va_zald hx hb hU.1 hP a 3 (am_W_at hc) rfl hin hdg (kk Ls hl)
            · cases hr
          · cases hr
        · rename_i k
          split at hr
          · rename_i ek
            subst ek
            split at hr
            · rename_i et
              subst et
              rcases ht with ⟨-, rfl⟩ | ⟨h1, -⟩
              · exact va_sld hx hb (hU.2.2.2.2.2.1 _ _ hr) hU.2.2.2.2.2.2.1 (Nat.not_le.mpr hU.2.2.2.2.2.2.2) hS hin hdg (kk Ls hl)
              · cases h1
            · cases hr
          · split at hr
            · cases hr
            · rename_i hk
              split at hr
              · rename_i bs hbs
                split at hr
                · rename_i et
                  subst et
                  cases hr
                  rcases ht with ⟨h1, -⟩ | ⟨-, rfl⟩
                  · cases h1
                  · obtain ⟨-, -, -, hT⟩ := hU.2.2.1.1 (k - 1000) (List.getElem?_eq_some_iff.mp hbs).1
                    have ek : 1000 + (k - 1000) = k := by omega
                    have e1 : (E.2.1.map List.length).getD (k - 1000) 0 = bs.length := by simp [List.getD, hbs]
                    have e2 : E.2.1.getD (k - 1000) [] = bs := by simp [List.getD, hbs]
                    rw [e1, e2] at hT
                    simp only [ek] at hT
                    exact va_tb hx hb hT hS hin rfl hdg (kk Ls hl)
                · cases hr
              · cases hr
        · cases hr
    · cases hs
  · cases hs
theorem am_rdL_ok (hx : p.tables.exec = Jvm.exec) (hb : c.code = cc) (hU : am_U D cl K b sa Ns Rs Zs E s) (hP : va_P D cl (am_W K b sa h) H) (hdg : decode cc pc = .ok (.laload, 1)) (hs : am_rdL (pc + 1) ls h st = some S) (hl : lv_has Ls nL (am_cl b sa ls)) (kk : am_kk (W p l e R s m args below meth c H locs cells slots Q) m b nL sa S) : W p l e R s m args below meth c H locs cells slots Q (F0 m pc Ls (st.map (am_cv b sa))) := by
  unfold am_rdL at hs
  split at hs
  · rename_i ix v r
    split at hs
    · rename_i n f hr
      split at hs
      · cases hs
      · rename_i hin
        cases hs
        unfold am_rowL at hr
        split at hr
        · rename_i a
          split at hr
          · rename_i n' f' hc
            cases hr
            exact va_lald hx hb hU.1 hP a 2 (am_W_at hc) rfl hin hdg (kk Ls hl)
          · cases hr
        · cases hr
    · cases hs
  · cases hs
theorem am_alen_ok (hx : p.tables.exec = Jvm.exec) (hb : c.code = cc) (hU : am_U D cl K b sa Ns Rs Zs E s) (hP : va_P D cl (am_W K b sa h) H) (hS : va_S (fun q => b ≤ q) s.heap H locs) (hdg : decode cc pc = .ok (.arraylength, 1)) (hs : am_alen E (pc + 1) ls h st = some S) (hl : lv_has Ls nL (am_cl b sa ls)) (kk : am_kk (W p l e R s m args below meth c H locs cells slots Q) m b nL sa S) : W p l e R s m args below meth c H locs cells slots Q (F0 m pc Ls (st.map (am_cv b sa))) := by
  unfold am_alen at hs
  split at hs
  · rename_i v r
    split at hs
    · rename_i n hr
      cases hs
      unfold am_len0 at hr
      split at hr
      · rename_i a
        split at hr
        · rename_i t n' f' hc
          split at hr
          · rename_i ht
            cases hr
            rcases ht with rfl | rfl | rfl
            · exact va_alen hx hb hU.1 hP a 0 (am_W_at hc) rfl rfl hdg (kk Ls hl)
            · exact va_alen hx hb hU.1 hP a 1 (am_W_at hc) rfl rfl hdg (kk Ls hl)
            · exact va_alen hx hb hU.1 hP a 3 (am_W_at hc) rfl rfl hdg (kk Ls hl)
          · cases hr
        · rename_i n' f' hc
          cases hr
          exact va_alen hx hb hU.1 hP a 2 (am_W_at hc) rfl rfl hdg (kk Ls hl)
        · cases hr
      · rename_i k
        split at hr
        · rename_i ek
          subst ek
          cases hq : E.2.2.2 with
          | none => rw [hq] at hr; cases hr
          | some q =>
            rw [hq] at hr
            cases hr
            exact va_slen hx hb (hU.2.2.2.2.2.1 _ _ hq) hU.2.2.2.2.2.2.1 (Nat.not_le.mpr hU.2.2.2.2.2.2.2) hS hdg (kk Ls hl)
        · split at hr
          · cases hr
          · split at hr
            · rename_i bs hbs
              cases hr
              obtain ⟨-, -, -, hT⟩ := hU.2.2.1.1 (k - 1000) (List.getElem?_eq_some_iff.mp hbs).1
              have ek : 1000 + (k - 1000) = k := by omega
              have e1 : (E.2.1.map List.length).getD (k - 1000) 0 = bs.length := by simp [List.getD, hbs]
              rw [e1] at hT
              simp only [ek] at hT
              exact va_tlen hx hb hT hS rfl hdg (kk Ls hl)
            · cases hr
      · cases hr
    · cases hs
  · cases hs
theorem am_gf_ok {idx : Nat} {lk : am_K} (hx : p.tables.exec = Jvm.exec) (hb : c.code = cc) (hown : s.vm.findClass own = some m.cls) (hts : ∀ w ∈ G, w.before args s = true) (hTG : ∀ w ∈ Tc.flatten, goodWord w = true → w ∈ G) (hCL : am_CL G cl E.1) (hU : am_U D cl K b sa Ns Rs Zs E s) (hP : va_P D cl (am_W K b sa h) H) (hS : va_S (fun q => b ≤ q) s.heap H locs) (hdg : decode cc pc = .ok (.getfield idx, 3)) (hok : lk.all (fun q => if q.1 = 1000 then am_okX Tc own idx q.2 else am_okF Tc Ns cl own idx q.1 q.2) = true) (hcl : cl.length ≤ 1000) (hs : am_gf E (pc + 3) lk ls h st = some S) (hl : lv_has Ls nL (am_cl b sa ls)) (kk : am_kk (W p l e R s m args below meth c H locs cells slots Q) m b nL sa S) : W p l e R s m args below meth c H locs cells slots Q (F0 m pc Ls (st.map (am_cv b sa))) := by
  unfold am_gf at hs
  split at hs
  · rename_i v r
    split at hs
    · rename_i w hw
      cases hs
      unfold am_fld at hw
      split at hw
      · rename_i a
        split at hw
        · rename_i ci fs hc
          split at hw
          · rename_i k dat hk
            have hq := List.all_eq_true.mp hok _ (am_key_mem hk)
            by_cases hc1 : ci = 1000
            · obtain ⟨r1, hr1, -⟩ := hP a _ (am_W_at hc)
              have := (List.getElem?_eq_some_iff.mp hr1).1
              simp only at this
              omega
            · simp only [hc1, if_false] at hq
              unfold am_okF at hq
              split at hq
              · rename_i k' tag kind p1 p2 rest C F N hd hC
                cases hd
                simp only [Bool.and_eq_true, decide_eq_true_eq] at hq
                obtain ⟨hkN, hq⟩ := hq
                have hfs : (fs.map (am_cv b sa))[k]? = some (am_cv b sa w) := by rw [List.getElem?_map, hw]; rfl
                split at hq
                · rw [decide_eq_true_eq] at hq
                  exact va_get hx hb hts (hCL ci C F N hC).1 hown hU.1 hP a (am_W_at hc) hC k hkN (hts _ (hTG _ (am_at_mem hq) rfl)) (fun x hx => hx) hfs hdg (kk Ls hl)
                · split at hq
                  · simp only [Bool.and_eq_true, decide_eq_true_eq] at hq
                    obtain ⟨h1, h2⟩ := hq
                    exact va_get hx hb hts (hCL ci C F N hC).1 hown hU.1 hP a (am_W_at hc) hC k hkN (hts _ (hTG _ (am_at_mem h1) rfl)) (fun x hx => u_same (hts _ (hTG _ (am_at_mem h2) rfl)) x hx) hfs hdg (kk Ls hl)
                  · cases hq
                · split at hq
                  · rw [decide_eq_true_eq] at hq
                    exact va_getN hx hb hts (hCL ci C F N hC).1 hown hU.1 hP a (am_W_at hc) hC k hkN (va_Nw.use rfl (hU.2.1 _ (List.mem_of_getElem? hq))) (fun x hx => hx) hfs hdg (kk Ls hl)
                  · cases hq
                · cases hq
              · cases hq
          · cases hw
        · cases hw
      · rename_i k
        split at hw
        · rename_i hk
          obtain ⟨-, hco, hva, -⟩ := hU.2.2.1.1 k hk.1
          split at hw
          · rename_i dat hd
            cases hw
            have hq := List.all_eq_true.mp hok _ (am_key_mem hd)
            simp only [if_true] at hq
            unfold am_okX at hq
            split at hq
            · rename_i p1 rest e1
              cases e1
              rw [decide_eq_true_eq] at hq
              exact vk_getf hx hb hco hS hown (hts _ (hTG _ (am_at_mem hq) rfl)) (fun x hx => hx) hdg (kk Ls hl)
            · rename_i e1
              cases e1
            · cases hq
          · rename_i dat hd
            cases hw
            have hq := List.all_eq_true.mp hok _ (am_key_mem hd)
            simp only [if_true] at hq
            unfold am_okX at hq
            split at hq
            · rename_i e1
              cases e1
            · rename_i p1 rest e1
              cases e1
              rw [decide_eq_true_eq] at hq
              exact vk_getf hx hb hva hS hown (hts _ (hTG _ (am_at_mem hq) rfl)) (fun x hx => hx) hdg (kk Ls hl)
            · cases hq
          · cases hw
        · cases hw
      · cases hw
    · cases hs
  · cases hs
end AMR
