/-! A SMALL MACHINE OVER PURE LISTS. A cell has a number; a reference to the cell k is .ref k; a reference to a foreign cell that nobody writes is .retAddr k: k below 1000 the text k, 1000 + k the bytes of the text k, 9999 the script. -/
abbrev am_C : Type := (Nat × Nat × (Nat → Int32)) ⊕ (Nat × (Nat → Int64)) ⊕ (Nat × List Value)
abbrev am_H : Type := List am_C
abbrev am_L : Type := List (Nat × Value)
abbrev am_K : Type := List (Nat × List Nat)
abbrev am_Q : Type := Nat × Instr × Int × am_K
abbrev am_M : Type := MethodName × ByteArray × Nat × Option FieldType × List am_Q
/-- fixed: the default fields of each class; the texts' bytes; what statics hold; the script's length and ints, if it is there -/
abbrev am_E : Type := List (List Value) × List (List Int32) × List Value × Option (Nat × (Nat → Int32))
abbrev am_R : Type := Option (Nat × am_L × List Value)
def am_get : am_L → Nat → Option Value
  | [], _ => none
  | q :: r, i => if q.1 = i then some q.2 else am_get r i
def am_find : List am_Q → Nat → Option am_Q
  | [], _ => none
  | q :: r, pc => if q.1 = pc then some q else am_find r pc
def am_key : am_K → Nat → Option (List Nat)
  | [], _ => none
  | q :: r, k => if q.1 = k then some q.2 else am_key r k
def am_put1 (ls : am_L) (i : Nat) (v : Value) : am_L := (i, v) :: ls.filter (fun q => !(q.1 == i) && !(q.1 + 1 == i && q.2.category == 2))
def am_put2 (ls : am_L) (i : Nat) (v : Value) : am_L := (i, v) :: ls.filter (fun q => !(q.1 == i) && (!(q.1 == i + 1) && !(q.1 + 1 == i && q.2.category == 2)))
def am_isI : Value → Bool
  | .int _ => true
  | _ => false
def am_isL : Value → Bool
  | .long _ => true
  | _ => false
def am_isA : Value → Bool
  | .ref _ => true
  | .null => true
  | .retAddr _ => true
  | _ => false
def am_ld (np : Nat) (t : Value → Bool) (ls : am_L) (i : Nat) (st : List Value) : am_R := match am_get ls i with
  | some v => if t v = true then some (np, ls, v :: st) else none
  | none => none
def am_st1 (np : Nat) (t : Value → Bool) (ls : am_L) (i : Nat) (st : List Value) : am_R := match st with
  | v :: r => if t v = true then some (np, am_put1 ls i v, r) else none
  | [] => none
def am_st2 (np : Nat) (ls : am_L) (i : Nat) (st : List Value) : am_R := match st with
  | v :: r => if am_isL v = true then some (np, am_put2 ls i v, r) else none
  | [] => none
def am_i2 (np : Nat) (ls : am_L) (f : Int32 → Int32 → Int32) (st : List Value) : am_R := match st with
  | .int y :: .int x :: r => some (np, ls, .int (f x y) :: r)
  | _ => none
def am_d2 (np : Nat) (ls : am_L) (f : Int32 → Int32 → Int32) (st : List Value) : am_R := match st with
  | .int y :: .int x :: r => if y = 0 then none else some (np, ls, .int (f x y) :: r)
  | _ => none
def am_l2 (np : Nat) (ls : am_L) (f : Int64 → Int64 → Int64) (st : List Value) : am_R := match st with
  | .long y :: .long x :: r => some (np, ls, .long (f x y) :: r)
  | _ => none
def am_dl2 (np : Nat) (ls : am_L) (f : Int64 → Int64 → Int64) (st : List Value) : am_R := match st with
  | .long y :: .long x :: r => if y = 0 then none else some (np, ls, .long (f x y) :: r)
  | _ => none
def am_l1 (np : Nat) (ls : am_L) (f : Int64 → Int64) (st : List Value) : am_R := match st with
  | .long x :: r => some (np, ls, .long (f x) :: r)
  | _ => none
def am_s2 (np : Nat) (ls : am_L) (f : Int64 → Int32 → Int64) (st : List Value) : am_R := match st with
  | .int y :: .long x :: r => some (np, ls, .long (f x y) :: r)
  | _ => none
def am_c2 (np : Nat) (ls : am_L) (st : List Value) : am_R := match st with
  | .long y :: .long x :: r => some (np, ls, .int (lg_cmp x y) :: r)
  | _ => none
def am_i1 (np : Nat) (ls : am_L) (f : Int32 → Int32) (st : List Value) : am_R := match st with
  | .int x :: r => some (np, ls, .int (f x) :: r)
  | _ => none
def am_il (np : Nat) (ls : am_L) (st : List Value) : am_R := match st with
  | .int x :: r => some (np, ls, .long x.toInt64 :: r)
  | _ => none
def am_li (np : Nat) (ls : am_L) (st : List Value) : am_R := match st with
  | .long x :: r => some (np, ls, .int x.toInt32 :: r)
  | _ => none
def am_jp (pc : Nat) (ls : am_L) (off : Int) (st : List Value) : am_R := if 0 ≤ (pc : Int) + off then some (((pc : Int) + off).toNat, ls, st) else none
def am_br (pc : Nat) (ls : am_L) (b : Bool) (off : Int) (st : List Value) : am_R := if 0 ≤ (pc : Int) + off then (if b = true then some (((pc : Int) + off).toNat, ls, st) else some (pc + 3, ls, st)) else none
def am_cmp (c : ClassFile.Cond) (x y : Int32) : Bool := match c with
  | .eq => decide (x = y)
  | .ne => decide (¬ x = y)
  | .lt => decide (x < y)
  | .ge => decide (y ≤ x)
  | .gt => decide (y < x)
  | .le => decide (x ≤ y)
def am_if (pc : Nat) (ls : am_L) (c : ClassFile.Cond) (off : Int) (st : List Value) : am_R := match st with
  | .int x :: r => am_br pc ls (am_cmp c x 0) off r
  | _ => none
def am_if2 (pc : Nat) (ls : am_L) (c : ClassFile.Cond) (off : Int) (st : List Value) : am_R := match st with
  | .int y :: .int x :: r => am_br pc ls (am_cmp c x y) off r
  | _ => none
/-- an int row: its length and its ints; t = 0: int[], t = 1: byte[] (or boolean[], tag 3) -/
def am_rowI (E : am_E) (h : am_H) (t : Nat) (v : Value) : Option (Nat × (Nat → Int32)) := match v with
  | .ref a => match h[a]? with
    | some (.inl (t', n, f)) => if t' = t ∨ (t = 1 ∧ t' = 3) then some (n, f) else none
    | _ => none
  | .retAddr k => if k = 9999 then (if t = 0 then E.2.2.2 else none) else if k < 1000 then none else match E.2.1[k - 1000]? with
    | some bs => if t = 1 then some (bs.length, fun j => bs.getD j 0) else none
    | none => none
  | _ => none
def am_rowL (h : am_H) (v : Value) : Option (Nat × (Nat → Int64)) := match v with
  | .ref a => match h[a]? with
    | some (.inr (.inl (n, f))) => some (n, f)
    | _ => none
  | _ => none
def am_rdI (E : am_E) (np t : Nat) (ls : am_L) (h : am_H) (st : List Value) : am_R := match st with
  | .int i :: v :: r => match am_rowI E h t v with
    | some (n, f) => if i < 0 ∨ n ≤ i.toNatClampNeg then none else some (np, ls, .int (f i.toNatClampNeg) :: r)
    | none => none
  | _ => none
def am_rdL (np : Nat) (ls : am_L) (h : am_H) (st : List Value) : am_R := match st with
  | .int i :: v :: r => match am_rowL h v with
    | some (n, f) => if i < 0 ∨ n ≤ i.toNatClampNeg then none else some (np, ls, .long (f i.toNatClampNeg) :: r)
    | none => none
  | _ => none
def am_len0 (E : am_E) (h : am_H) (v : Value) : Option Nat := match v with
  | .ref a => match h[a]? with
    | some (.inl (t, n, _)) => if t = 0 ∨ t = 1 ∨ t = 3 then some n else none
    | some (.inr (.inl (n, _))) => some n
    | _ => none
  | .retAddr k => if k = 9999 then E.2.2.2.map (fun q => q.1) else if k < 1000 then none else match E.2.1[k - 1000]? with
    | some bs => some bs.length
    | none => none
  | _ => none
def am_alen (E : am_E) (np : Nat) (ls : am_L) (h : am_H) (st : List Value) : am_R := match st with
  | v :: r => match am_len0 E h v with
    | some n => some (np, ls, .int (Int32.ofNat n) :: r)
    | none => none
  | [] => none
def am_fld (E : am_E) (lk : am_K) (h : am_H) (v : Value) : Option Value := match v with
  | .ref a => match h[a]? with
    | some (.inr (.inr (ci, fs))) => match am_key lk ci with
      | some (k :: _) => fs[k]?
      | _ => none
    | _ => none
  | .retAddr k => if k < E.2.1.length ∧ k < 1000 then match am_key lk 1000 with
      | some (0 :: _) => some (.int 0)
      | some (1 :: _) => some (.retAddr (1000 + k))
      | _ => none
    else none
  | _ => none
def am_gf (E : am_E) (np : Nat) (lk : am_K) (ls : am_L) (h : am_H) (st : List Value) : am_R := match st with
  | v :: r => match am_fld E lk h v with
    | some w => some (np, ls, w :: r)
    | none => none
  | [] => none
def am_sw (pc : Nat) (ls : am_L) (dflt lo hi : Int) (offs : Array Int) (st : List Value) : am_R := match st with
  | .int x :: r => if x.toInt < lo ∨ hi < x.toInt then am_jp pc ls dflt r else match offs[(x.toInt - lo).toNat]? with
    | some off => am_jp pc ls off r
    | none => none
  | _ => none
def am_lsw (pc : Nat) (ls : am_L) (dflt : Int) (ps : Array (Int × Int)) (st : List Value) : am_R := match st with
  | .int x :: r => if (ps.toList.zip (ps.toList.drop 1)).all (fun (a, next) => a.1 < next.1) = true then am_jp pc ls (Op.lookupswitch.offset ps.toList dflt x.toInt) r else none
  | _ => none
def am_inc (np : Nat) (ls : am_L) (i : Nat) (n : Int) (st : List Value) : am_R := match am_get ls i with
  | some (.int x) => some (np, am_put1 ls i (.int (x + Int32.ofInt n)), st)
  | _ => none
def am_dup (np : Nat) (ls : am_L) (st : List Value) : am_R := match st with
  | a :: r => if a.category = 1 then some (np, ls, a :: a :: r) else none
  | [] => none
def am_pop (np : Nat) (ls : am_L) (st : List Value) : am_R := match st with
  | a :: r => if a.category = 1 then some (np, ls, r) else none
  | [] => none
def am_pop2 (np : Nat) (ls : am_L) (st : List Value) : am_R := match st with
  | a :: r => if a.category = 2 then some (np, ls, r) else none
  | [] => none
def am_dupx1 (np : Nat) (ls : am_L) (st : List Value) : am_R := match st with
  | a :: b :: r => if a.category = 1 ∧ b.category = 1 then some (np, ls, a :: b :: a :: r) else none
  | _ => none
def am_dupx2 (np : Nat) (ls : am_L) (st : List Value) : am_R := match st with
  | a :: b :: c :: r => if a.category = 1 ∧ b.category = 1 ∧ c.category = 1 then some (np, ls, a :: b :: c :: a :: r) else none
  | _ => none
def am_dup2 (np : Nat) (ls : am_L) (st : List Value) : am_R := match st with
  | a :: b :: r => if a.category = 1 ∧ b.category = 1 then some (np, ls, a :: b :: a :: b :: r) else none
  | _ => none
def am_ldc (E : am_E) (pc : Nat) (num : Int) (lk : am_K) (ls : am_L) (st : List Value) : am_R := match lk with
  | (0, _) :: _ => some (pc + 2, ls, .int (Int32.ofInt num) :: st)
  | (1, _) :: _ => if num.toNat < E.2.1.length ∧ num.toNat < 1000 then some (pc + 2, ls, .retAddr num.toNat :: st) else none
  | _ => none
def am_nul (pc : Nat) (ls : am_L) (want : Bool) (off : Int) (st : List Value) : am_R := match st with
  | .null :: r => if want = true then am_jp pc ls off r else some (pc + 3, ls, r)
  | .ref _ :: r => if want = true then some (pc + 3, ls, r) else am_jp pc ls off r
  | _ => none
def am_gs (E : am_E) (pc : Nat) (num : Int) (ls : am_L) (st : List Value) : am_R := match E.2.2.1[num.toNat]? with
  | some v => some (pc + 3, ls, v :: st)
  | none => none
def am_step (E : am_E) (pc : Nat) (i : Instr) (num : Int) (lk : am_K) (ls : am_L) (st : List Value) (h : am_H) : am_R := match i with
  | .iconst n => some (pc + 1, ls, .int (Int32.ofInt n) :: st)
  | .bipush n => some (pc + 2, ls, .int (Int8.ofInt n).toInt32 :: st)
  | .sipush n => some (pc + 3, ls, .int (Int16.ofInt n).toInt32 :: st)
  | .lconst n => some (pc + 1, ls, .long (Int64.ofNat (n : Nat)) :: st)
  | .aconst_null => some (pc + 1, ls, .null :: st)
  | .ldc _ => am_ldc E pc num lk ls st
  | .ldc_w _ => some (pc + 3, ls, .int (Int32.ofInt num) :: st)
  | .ldc2_w _ => some (pc + 3, ls, .long (Int64.ofInt num) :: st)
  | .iload_n k => am_ld (pc + 1) am_isI ls k st
  | .iload k => am_ld (pc + 2) am_isI ls k st
  | .lload_n k => am_ld (pc + 1) am_isL ls k st
  | .lload k => am_ld (pc + 2) am_isL ls k st
  | .aload_n k => am_ld (pc + 1) am_isA ls k st
  | .aload k => am_ld (pc + 2) am_isA ls k st
  | .istore_n k => am_st1 (pc + 1) am_isI ls k st
  | .istore k => am_st1 (pc + 2) am_isI ls k st
  | .lstore_n k => am_st2 (pc + 1) ls k st
  | .lstore k => am_st2 (pc + 2) ls k st
  | .astore_n k => am_st1 (pc + 1) am_isA ls k st
  | .astore k => am_st1 (pc + 2) am_isA ls k st
  | .iinc k n => am_inc (pc + 3) ls k n st
  | .iadd => am_i2 (pc + 1) ls (fun x y => x + y) st
  | .isub => am_i2 (pc + 1) ls (fun x y => x - y) st
  | .imul => am_i2 (pc + 1) ls (fun x y => x * y) st
  | .iand => am_i2 (pc + 1) ls (fun x y => x &&& y) st
  | .ior => am_i2 (pc + 1) ls (fun x y => x ||| y) st
  | .ixor => am_i2 (pc + 1) ls (fun x y => x ^^^ y) st
  | .ishl => am_i2 (pc + 1) ls (fun x y => x <<< (y &&& 31)) st
  | .ishr => am_i2 (pc + 1) ls (fun x y => x >>> (y &&& 31)) st
  | .iushr => am_i2 (pc + 1) ls (fun x y => (x.toUInt32 >>> (y.toUInt32 &&& Int32.toUInt32 31)).toInt32) st
  | .idiv => am_d2 (pc + 1) ls (fun x y => x / y) st
  | .irem => am_d2 (pc + 1) ls (fun x y => x - x / y * y) st
  | .ineg => am_i1 (pc + 1) ls (fun x => -x) st
  | .i2b => am_i1 (pc + 1) ls (fun x => x.toInt8.toInt32) st
  | .i2c => am_i1 (pc + 1) ls (fun x => (x.toUInt32 % 65536).toInt32) st
  | .i2l => am_il (pc + 1) ls st
  | .l2i => am_li (pc + 1) ls st
  | .ladd => am_l2 (pc + 1) ls (fun x y => x + y) st
  | .lsub => am_l2 (pc + 1) ls (fun x y => x - y) st
  | .lmul => am_l2 (pc + 1) ls (fun x y => x * y) st
  | .land => am_l2 (pc + 1) ls (fun x y => x &&& y) st
  | .lor => am_l2 (pc + 1) ls (fun x y => x ||| y) st
  | .ldiv => am_dl2 (pc + 1) ls (fun x y => x / y) st
  | .lrem => am_dl2 (pc + 1) ls (fun x y => x - x / y * y) st
  | .lneg => am_l1 (pc + 1) ls (fun x => -x) st
  | .lshl => am_s2 (pc + 1) ls (fun x y => x <<< (y.toInt64 &&& 63)) st
  | .lshr => am_s2 (pc + 1) ls (fun x y => x >>> (y.toInt64 &&& 63)) st
  | .lushr => am_s2 (pc + 1) ls (fun x y => (x.toUInt64 >>> (y.toInt64.toUInt64 &&& Int64.toUInt64 63)).toInt64) st
  | .lcmp => am_c2 (pc + 1) ls st
  | .dup => am_dup (pc + 1) ls st
  | .pop => am_pop (pc + 1) ls st
  | .pop2 => am_pop2 (pc + 1) ls st
  | .dup_x1 => am_dupx1 (pc + 1) ls st
  | .dup_x2 => am_dupx2 (pc + 1) ls st
  | .dup2 => am_dup2 (pc + 1) ls st
  | .ifCond c off => am_if pc ls c off st
  | .if_icmp c off => am_if2 pc ls c off st
  | .goto off => am_jp pc ls off st
  | .ifnull off => am_nul pc ls true off st
  | .ifnonnull off => am_nul pc ls false off st
  | .tableswitch dflt lo hi offs => am_sw pc ls dflt lo hi offs st
  | .lookupswitch dflt ps => am_lsw pc ls dflt ps st
  | .iaload => am_rdI E (pc + 1) 0 ls h st
  | .baload => am_rdI E (pc + 1) 1 ls h st
  | .laload => am_rdL (pc + 1) ls h st
  | .arraylength => am_alen E (pc + 1) ls h st
  | .getfield _ => am_gf E (pc + 3) lk ls h st
  | .getstatic _ => am_gs E pc num ls st
  | _ => none
/-- 0: heap as it was; 1: a return; 2: heap written or grown; 3: a call -/
def am_sort (i : Instr) : Nat := match i with
  | .ireturn => 1
  | .lreturn => 1
  | .areturn => 1
  | .return_ => 1
  | .putfield _ => 2
  | .iastore => 2
  | .bastore => 2
  | .lastore => 2
  | .new _ => 2
  | .newarray _ => 2
  | .invokestatic _ => 3
  | .invokespecial _ => 3
  | .invokevirtual _ => 3
  | _ => 0
/-- how long an instruction is -/
def am_len (i : Instr) (num : Int) : Nat := match i with
  | .bipush _ => 2
  | .ldc _ => 2
  | .iload _ => 2
  | .lload _ => 2
  | .aload _ => 2
  | .istore _ => 2
  | .lstore _ => 2
  | .astore _ => 2
  | .newarray _ => 2
  | .sipush _ => 3
  | .ldc_w _ => 3
  | .ldc2_w _ => 3
  | .iinc _ _ => 3
  | .ifCond _ _ => 3
  | .if_icmp _ _ => 3
  | .goto _ => 3
  | .ifnull _ => 3
  | .ifnonnull _ => 3
  | .getfield _ => 3
  | .putfield _ => 3
  | .getstatic _ => 3
  | .new _ => 3
  | .invokestatic _ => 3
  | .invokespecial _ => 3
  | .invokevirtual _ => 3
  | .tableswitch _ _ _ _ => num.toNat
  | .lookupswitch _ _ => num.toNat
  | _ => 1
/-- may a field of that sort keep the value as it is: 0 int, 1 boolean, 2 long, 3 a reference -/
def am_fit (tag : Nat) (v : Value) : Bool := match tag, v with
  | 0, .int _ => true
  | 1, .int x => decide (x = 0 ∨ x = 1)
  | 2, .long _ => true
  | 3, .ref _ => true
  | 3, .null => true
  | _, _ => false
def am_nb (t : Nat) (x : Int32) : Int32 := match t with
  | 0 => x
  | 3 => vp_nar .boolean x
  | _ => vp_nar .byte x
def am_pf (lk : am_K) (st : List Value) (h : am_H) : Option (List Value × am_H) := match st with
  | v :: .ref a :: r => match h[a]? with
    | some (.inr (.inr (ci, fs))) => match am_key lk ci with
      | some (k :: tag :: _) => if am_fit tag v = true ∧ k < fs.length then some (r, h.set a (.inr (.inr (ci, fs.set k v)))) else none
      | _ => none
    | _ => none
  | _ => none
def am_wrI (t : Nat) (st : List Value) (h : am_H) : Option (List Value × am_H) := match st with
  | .int x :: .int i :: .ref a :: r => match h[a]? with
    | some (.inl (t', n, f)) => if t' = t ∨ (t = 1 ∧ t' = 3) then (if i < 0 ∨ n ≤ i.toNatClampNeg then none else some (r, h.set a (.inl (t', n, upd f i.toNatClampNeg (am_nb t' x))))) else none
    | _ => none
  | _ => none
def am_wrL (st : List Value) (h : am_H) : Option (List Value × am_H) := match st with
  | .long x :: .int i :: .ref a :: r => match h[a]? with
    | some (.inr (.inl (n, f))) => if i < 0 ∨ n ≤ i.toNatClampNeg then none else some (r, h.set a (.inr (.inl (n, vp_updL f i.toNatClampNeg x))))
    | _ => none
  | _ => none
def am_new (E : am_E) (lk : am_K) (st : List Value) (h : am_H) : Option (List Value × am_H) := match lk with
  | (ci, _) :: _ => match E.1[ci]? with
    | some fs => some (.ref h.length :: st, h ++ [.inr (.inr (ci, fs))])
    | none => none
  | [] => none
def am_blank (t : ArrayType) (n : Nat) : Option am_C := match t with
  | .int => some (.inl (0, n, fun _ => 0))
  | .byte => some (.inl (1, n, fun _ => 0))
  | .boolean => some (.inl (3, n, fun _ => 0))
  | .long => some (.inr (.inl (n, fun _ => 0)))
  | _ => none
def am_na (t : ArrayType) (st : List Value) (h : am_H) : Option (List Value × am_H) := match st with
  | .int n :: r => if n < 0 ∨ 60000000 < n.toNatClampNeg then none else match am_blank t n.toNatClampNeg with
    | some x => some (.ref h.length :: r, h ++ [x])
    | none => none
  | _ => none
def am_hs (E : am_E) (i : Instr) (lk : am_K) (st : List Value) (h : am_H) : Option (List Value × am_H) := match i with
  | .putfield _ => am_pf lk st h
  | .iastore => am_wrI 0 st h
  | .bastore => am_wrI 1 st h
  | .lastore => am_wrL st h
  | .new _ => am_new E lk st h
  | .newarray t => am_na t st h
  | _ => none
def am_ret (ret : Option FieldType) (i : Instr) (st : List Value) : Option (Option Value) := match i, st with
  | .return_, [] => if ret = none then some none else none
  | .ireturn, [.int x] => match ret with
    | some .int => some (some (.int x))
    | some .boolean => if x = 0 ∨ x = 1 then some (some (.int x)) else none
    | some .char => if narrow .char (.int x) = .int x then some (some (.int x)) else none
    | some .byte => if narrow .byte (.int x) = .int x then some (some (.int x)) else none
    | _ => none
  | .lreturn, [.long x] => if ret = some .long then some (some (.long x)) else none
  | _, _ => none
def am_sum (r : List Value) : Nat := (r.map fun v => v.category).sum
def am_cls (E : am_E) (h : am_H) (v : Value) : Option Nat := match v with
  | .ref a => match h[a]? with
    | some (.inr (.inr (ci, _))) => some ci
    | _ => none
  | .retAddr k => if k < E.2.1.length ∧ k < 1000 then some 1000 else none
  | _ => none
/-- the callee, its arguments, what lies below them -/
def am_call (E : am_E) (h : am_H) (i : Instr) (lk : am_K) (st : List Value) : Option (Nat × List Value × List Value) := match lk with
  | (_, j :: n :: _) :: _ => match i with
    | .invokestatic _ => if n ≤ st.length then some (j, (st.take n).reverse, st.drop n) else none
    | .invokespecial _ => match st.drop n with
      | .ref a :: r => some (j, .ref a :: (st.take n).reverse, r)
      | _ => none
    | .invokevirtual _ => match st.drop n with
      | v :: r => match am_cls E h v with
        | some ci => match am_key lk ci with
          | some (j' :: n' :: _) => if n' = n then some (j', v :: (st.take n).reverse, r) else none
          | _ => none
        | none => none
      | _ => none
    | _ => none
  | _ => none
/-- java.lang.Math by its own rows: max, min of ints, abs of a long -/
def am_isP (lk : am_K) : Bool := match lk with
  | (3000, _) :: _ => true
  | _ => false
def am_math (lk : am_K) (st : List Value) : Option (List Value × List Value) := match lk, st with
  | (_, 0 :: _) :: _, .int y :: .int x :: r => some (.int (if x < y then y else x) :: r, r)
  | (_, 1 :: _) :: _, .int y :: .int x :: r => some (.int (if y < x then y else x) :: r, r)
  | (_, 2 :: _) :: _, .long x :: r => some (.long (if 0 < x then x else -x) :: r, r)
  | _, _ => none
/-- THE RUN: fuel, frames left, method, program counter, locals, stack, cells; the answer and the cells behind it -/
def am_ex (E : am_E) (T : List am_M) : Nat → Nat → Nat → Nat → am_L → List Value → am_H → Option (Option Value × am_H)
  | 0, _, _, _, _, _, _ => none
  | n + 1, d, j, pc, ls, st, h =>
    match T[j]? with
    | none => none
    | some M => match am_find M.2.2.2.2 pc with
      | none => none
      | some q => match am_sort q.2.1 with
        | 0 => match am_step E pc q.2.1 q.2.2.1 q.2.2.2 ls st h with
          | none => none
          | some S => am_ex E T n d j S.1 S.2.1 S.2.2 h
        | 1 => match am_ret M.2.2.2.1 q.2.1 st with
          | none => none
          | some v => some (v, h)
        | 2 => match am_hs E q.2.1 q.2.2.2 st h with
          | none => none
          | some S => am_ex E T n d j (pc + am_len q.2.1 q.2.2.1) ls S.1 S.2
        | _ => match d with
          | 0 => none
          | d' + 1 => match q.2.2.2 with
            | [] => match st with
              | .ref _ :: r => if am_sum r ≤ 8 then am_ex E T n (d' + 1) j (pc + 3) ls r h else none
              | _ => none
            | _ => if am_isP q.2.2.2 = true then
                (match am_math q.2.2.2 st with
                | none => none
                | some P => if am_sum P.2 ≤ 8 then am_ex E T n (d' + 1) j (pc + 3) ls P.1 h else none)
              else match am_call E h q.2.1 q.2.2.2 st with
              | none => none
              | some C => match T[C.1]? with
                | none => none
                | some M2 => if am_sum C.2.2 ≤ 8 ∧ M2.2.2.1 ≤ 41 ∧ am_sum C.2.1 ≤ M2.2.2.1 then
                    match am_ex E T n d' C.1 0 (lv_args 0 C.2.1) [] h with
                    | none => none
                    | some Z => am_ex E T n (d' + 1) j (pc + 3) ls (Z.1.toList ++ C.2.2) Z.2
                  else none
