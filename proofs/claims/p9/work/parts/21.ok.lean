/-! WHAT THE TABLES MUST SAY of an entry: its place in a list of words, which is cut into lists of at most 256. -/
def am_at (Tc : List (List Cond)) (p : Nat) : Option Cond := match Tc[p / 256]? with
  | some l => l[p % 256]?
  | none => none
theorem am_at_mem {Tc : List (List Cond)} {p : Nat} {w : Cond} (h : am_at Tc p = some w) : w ∈ Tc.flatten := by
  unfold am_at at h
  split at h
  · rename_i l hl
    exact List.mem_flatten.mpr ⟨l, List.mem_of_getElem? hl, List.mem_of_getElem? h⟩
  · cases h
def am_okF (Tc : List (List Cond)) (Ns : List Cond) (cl : List vw_C) (own : String) (idx ci : Nat) (dat : List Nat) : Bool := match dat, cl[ci]? with
  | k :: _ :: kind :: p1 :: p2 :: _, some (_, F, N) => decide (k < N) && (match kind with
    | 0 => decide (am_at Tc p1 = some (.fieldLink own idx (F k).1 (F k).2.1 (F k).2.2.1))
    | 1 => (match am_at Tc p1 with
      | some (.fieldLink _ _ r _ _) => decide (am_at Tc p1 = some (.fieldLink own idx r (F k).2.1 (F k).2.2.1)) && decide (am_at Tc p2 = some (.sameField r (F k).1 (F k).2.1 (F k).2.2.1))
      | _ => false)
    | 2 => (match Ns[p1]? with
      | some (.fieldLinkNest _ _ _ _ _ ho) => decide (Ns[p1]? = some (.fieldLinkNest own idx (F k).1 (F k).2.1 (F k).2.2.1 ho))
      | _ => false)
    | _ => false)
  | _, _ => false
def am_okT (d : String) (tag : Nat) : Bool := match tag, parseFieldDescriptor d with
  | 0, some .int => true
  | 1, some .boolean => true
  | 2, some .long => true
  | 3, some (.object _) => true
  | 3, some (.array _) => true
  | _, _ => false
/-- a field that is written: it is no final one, or a final one of its own constructor -/
def am_okP (cl : List vw_C) (own nm : String) (ci : Nat) (dat : List Nat) : Bool := match dat, cl[ci]? with
  | k :: tag :: kind :: _, some (_, F, _) => am_okT (F k).2.2.1 tag && (if (F k).2.2.2 = true then decide (nm = "<init>") && decide ((F k).1 = own) && decide (kind = 0) else true)
  | _, _ => false
def am_okX (Tc : List (List Cond)) (own : String) (idx : Nat) (dat : List Nat) : Bool := match dat with
  | 0 :: p1 :: _ => decide (am_at Tc p1 = some (.fieldLink own idx "java/lang/String" "coder" "B"))
  | 1 :: p1 :: _ => decide (am_at Tc p1 = some (.fieldLink own idx "java/lang/String" "value" "[B"))
  | _ => false
/-- a class's name by its number; 1000: the texts' -/
def am_cn (cl : List vw_C) (ci : Nat) : Option String := if ci = 1000 then some "java/lang/String" else (cl[ci]?).map (fun q => q.1)
/-- a call of the method number j, with n parameters, for a receiver of the class ci -/
def am_okC (Tc : List (List Cond)) (Ns : List Cond) (cl : List vw_C) (T : List am_M) (own : String) (i : Instr) (ci : Nat) (dat : List Nat) : Bool := match dat with
  | j :: n :: kind :: p1 :: p2 :: p3 :: p4 :: p5 :: _ => (match T[j]? with
    | none => false
    | some M => decide (0 < j) && decide ((parseMethodDescriptor M.1.desc).map (fun d => d.parameters.length) = some n) && (match kind, i with
      | 0, .invokestatic idx => decide (am_at Tc p1 = some (.methodLink own idx M.1)) && decide (am_at Tc p2 = some (.static M.1))
      | 1, .invokestatic idx => (match Ns[p1]? with
        | some (.methodLinkNest _ _ _ ho) => decide (Ns[p1]? = some (.methodLinkNest own idx M.1 ho)) && decide (am_at Tc p2 = some (.static M.1))
        | _ => false)
      | 2, .invokespecial idx => decide (am_at Tc p1 = some (.methodLink own idx M.1)) && decide (am_at Tc p2 = some (.instanceMethod M.1)) && decide (M.1.name = "<init>") && decide (M.2.2.2.1 = none)
      | 3, .invokespecial idx => (match Ns[p1]? with
        | some (.methodLinkNest _ _ _ ho) => decide (Ns[p1]? = some (.methodLinkNest own idx M.1 ho)) && decide (am_at Tc p2 = some (.instanceMethod M.1)) && decide (M.1.name = "<init>") && decide (M.2.2.2.1 = none)
        | _ => false)
      | 4, .invokevirtual idx => (match am_cn cl ci with
        | some C => decide (am_at Tc p1 = some (.methodLink own idx M.1)) && decide (am_at Tc p2 = some (.instanceMethod M.1)) && decide (am_at Tc p3 = some (.selects C M.1 M.1))
        | none => false)
      | 5, .invokevirtual idx => (match am_cn cl ci, Ns[p1]? with
        | some C, some (.methodLinkNest _ _ _ ho) => decide (Ns[p1]? = some (.methodLinkNest own idx M.1 ho)) && decide (am_at Tc p2 = some (.instanceMethod M.1)) && decide (am_at Tc p3 = some (.selects C M.1 M.1))
        | _, _ => false)
      | 6, .invokevirtual idx => (match am_cn cl ci, am_at Tc p1, am_at Tc p4 with
        | some C, some (.methodLink _ _ x), some (.sameMethod _ o _ _) => decide (am_at Tc p1 = some (.methodLink own idx x)) && decide (am_at Tc p2 = some (.instanceMethod M.1)) && decide (am_at Tc p3 = some (.selects C x M.1)) && decide (am_at Tc p4 = some (.sameMethod x.cls o x.name x.desc)) && decide (M.1 = ⟨o, x.name, x.desc⟩)
        | _, _, _ => false)
      | 7, .invokevirtual idx => (match am_cn cl ci, am_at Tc p1, am_at Tc p4 with
        | some C, some (.methodLink _ _ x), some (.sameMethod _ o _ _) => decide (am_at Tc p1 = some (.methodLink own idx x)) && decide (am_at Tc p2 = some (.instanceMethod M.1)) && decide (am_at Tc p3 = some (.selects C x M.1)) && decide (am_at Tc p4 = some (.sameMethod x.cls o x.name x.desc)) && decide (Ns[p5]? = some (.declares ⟨o, x.name, x.desc⟩)) && decide (o ≠ "java/lang/invoke/MethodHandle") && decide (o ≠ "java/lang/invoke/VarHandle") && decide (M.1.desc = x.desc)
        | _, _, _ => false)
      | _, _ => false))
  | _ => false
def am_okM (Tc : List (List Cond)) (own : String) (idx : Nat) (lk : am_K) : Bool := match lk with
  | (_, 0 :: p1 :: p2 :: p3 :: p4 :: _) :: _ => decide (am_at Tc p1 = some (.methodLink own idx Lib.Math.max.name)) && decide (am_at Tc p2 = some (.static Lib.Math.max.name)) && decide (am_at Tc p3 = some (.initialized "java/lang/Math")) && decide (am_at Tc p4 = some (.code Lib.Math.max.name Lib.Math.max.code 2 (some .int)))
  | (_, 1 :: p1 :: p2 :: p3 :: p4 :: _) :: _ => decide (am_at Tc p1 = some (.methodLink own idx Lib.Math.min.name)) && decide (am_at Tc p2 = some (.static Lib.Math.min.name)) && decide (am_at Tc p3 = some (.initialized "java/lang/Math")) && decide (am_at Tc p4 = some (.code Lib.Math.min.name Lib.Math.min.code 2 (some .int)))
  | (_, 2 :: p1 :: p2 :: p3 :: p4 :: _) :: _ => decide (am_at Tc p1 = some (.methodLink own idx Lib.MathLoose.abs_long.x)) && decide (am_at Tc p2 = some (.static Lib.MathLoose.abs_long.x)) && decide (am_at Tc p3 = some (.initialized "java/lang/Math")) && decide (am_at Tc p4 = some (.code Lib.MathLoose.abs_long.x Lib.MathLoose.abs_long.code 2 (some .long)))
  | _ => false
abbrev am_Rs : Type := List (String × Nat × String × Nat)
abbrev am_Zs : Type := List (String × String × String)
def am_okI (Tc : List (List Cond)) (Ns : List Cond) (Rs : am_Rs) (Zs : am_Zs) (cl : List vw_C) (T : List am_M) (own nm : String) (maxL : Nat) (i : Instr) (num : Int) (lk : am_K) : Bool := match i with
  | .istore_n k => decide ((k : Nat) < maxL)
  | .istore k => decide (k < maxL)
  | .astore_n k => decide ((k : Nat) < maxL)
  | .astore k => decide (k < maxL)
  | .lstore_n k => decide ((k : Nat) + 1 < maxL)
  | .lstore k => decide (k + 1 < maxL)
  | .iinc k _ => decide (k < maxL)
  | .ldc idx => (match lk with
    | (0, p :: _) :: _ => decide (am_at Tc p = some (.constant own idx (Int32.ofInt num)))
    | (1, p :: _) :: _ => (match Rs[p]? with
      | some (o, ix, _, k) => decide (o = own) && decide (ix = idx) && decide (k = num.toNat)
      | none => false)
    | _ => false)
  | .ldc_w idx => (match lk with
    | (0, p :: _) :: _ => decide (am_at Tc p = some (.constant own idx (Int32.ofInt num)))
    | _ => false)
  | .ldc2_w idx => (match lk with
    | (0, p :: _) :: _ => decide (am_at Tc p = some (.constantLong own idx (Int64.ofInt num)))
    | _ => false)
  | .getfield idx => lk.all (fun q => if q.1 = 1000 then am_okX Tc own idx q.2 else am_okF Tc Ns cl own idx q.1 q.2)
  | .putfield idx => lk.all (fun q => am_okF Tc Ns cl own idx q.1 q.2 && am_okP cl own nm q.1 q.2)
  | .getstatic idx => (match lk with
    | (_, p :: _) :: _ => (match Zs[num.toNat]? with
      | some (C, n, d) => decide (am_at Tc p = some (.fieldLink own idx C n d))
      | none => false)
    | _ => false)
  | .new idx => (match lk with
    | (ci, p1 :: p2 :: p3 :: _) :: _ => (match cl[ci]? with
      | some (C, _, N) => decide (am_at Tc p1 = some (.classLink own idx C)) && decide (am_at Tc p2 = some (.instantiable C N)) && decide (am_at Tc p3 = some (.initialized C))
      | none => false)
    | _ => false)
  | .newarray t => (match lk with
    | (_, p :: _) :: _ => decide (am_at Tc p = some (.arrayClass (newarray.typeOf t)))
    | _ => false)
  | .invokestatic idx => if am_isP lk = true then am_okM Tc own idx lk else !lk.isEmpty && lk.all (fun q => am_okC Tc Ns cl T own i q.1 q.2)
  | .invokevirtual _ => !am_isP lk && !lk.isEmpty && lk.all (fun q => am_okC Tc Ns cl T own i q.1 q.2)
  | .invokespecial idx => (match lk with
    | [] => decide (am_at Tc num.toNat = some (.methodLink own idx objectInit))
    | _ => !am_isP lk && lk.all (fun q => am_okC Tc Ns cl T own i q.1 q.2))
  | _ => true
def am_okQ (Tc : List (List Cond)) (Ns : List Cond) (Rs : am_Rs) (Zs : am_Zs) (cl : List vw_C) (T : List am_M) (M : am_M) (q : am_Q) : Bool :=
  decide (decode M.2.1 q.1 = .ok (q.2.1, am_len q.2.1 q.2.2.1)) && am_okI Tc Ns Rs Zs cl T M.1.cls M.1.name M.2.2.1 q.2.1 q.2.2.1 q.2.2.2
