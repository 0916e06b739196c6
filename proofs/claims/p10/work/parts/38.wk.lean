/-! WALKS over states: what a run comes to. -/
section WKA
variable {E : am_E} {Sh : List sg_Sh} {np pc : Nat} {i : Instr} {num : Int} {lk : am_K} {ls : bm_L} {st : List bm_V} {σ : sg_S} {S : Nat × bm_L × List bm_V × sg_S}
theorem bm_step_ok (h : bm_step E Sh pc i num lk ls st σ = some S) : (am_sort i = 0 ∧ S.2.2.2 = σ ∧ am_step E pc i num lk (bm_ls ls) (bm_st st) (sg_H Sh σ) = some (S.1, bm_ls S.2.1, bm_st S.2.2.1)) ∨ (am_sort i = 2 ∧ S.1 = pc + am_len i num ∧ S.2.1 = ls ∧ am_hs E i lk (bm_st st) (sg_H Sh σ) = some (bm_st S.2.2.1, sg_H Sh S.2.2.2)) := by
  cases i
  case iconst n => cases h; exact Or.inl ⟨rfl, rfl, rfl⟩
  case bipush n =>
    simp only [bm_step] at h
    split at h
    · rename_i hx
      cases h
      exact Or.inl ⟨rfl, rfl, by simp only [am_step, bm_i8 hx]; rfl⟩
    · cases h
  case sipush n =>
    simp only [bm_step] at h
    split at h
    · rename_i hx
      cases h
      exact Or.inl ⟨rfl, rfl, by simp only [am_step, bm_i16 hx]; rfl⟩
    · cases h
  case lconst n => cases h; exact Or.inl ⟨rfl, rfl, by simp only [am_step, bm_st, List.map_cons, bm_v, sg_l]; rw [← Int64.ofInt_eq_ofNat]⟩
  case aconst_null => cases h; exact Or.inl ⟨rfl, rfl, rfl⟩
  case ldc n => exact Or.inl ⟨rfl, bm_ldc_ok h⟩
  case ldc_w n => cases h; exact Or.inl ⟨rfl, rfl, rfl⟩
  case ldc2_w n => cases h; exact Or.inl ⟨rfl, rfl, rfl⟩
  case iload_n k => exact Or.inl ⟨rfl, bm_ld_ok (fun _ q => bm_vI (t := fun _ => true) q) h⟩
  case iload k => exact Or.inl ⟨rfl, bm_ld_ok (fun _ q => bm_vI (t := fun _ => true) q) h⟩
  case lload_n k => exact Or.inl ⟨rfl, bm_ld_ok (fun _ q => bm_vL (t := fun _ => true) q) h⟩
  case lload k => exact Or.inl ⟨rfl, bm_ld_ok (fun _ q => bm_vL (t := fun _ => true) q) h⟩
  case aload_n k => exact Or.inl ⟨rfl, bm_ld_ok (fun _ q => bm_vA (t := fun _ => true) q) h⟩
  case aload k => exact Or.inl ⟨rfl, bm_ld_ok (fun _ q => bm_vA (t := fun _ => true) q) h⟩
  case istore_n k => exact Or.inl ⟨rfl, bm_st1_ok (fun _ q => bm_vI (t := fun _ => true) q) h⟩
  case istore k => exact Or.inl ⟨rfl, bm_st1_ok (fun _ q => bm_vI (t := fun _ => true) q) h⟩
  case astore_n k => exact Or.inl ⟨rfl, bm_st1_ok (fun _ q => bm_vA (t := fun _ => true) q) h⟩
  case astore k => exact Or.inl ⟨rfl, bm_st1_ok (fun _ q => bm_vA (t := fun _ => true) q) h⟩
  case lstore_n k => exact Or.inl ⟨rfl, bm_st2_ok h⟩
  case lstore k => exact Or.inl ⟨rfl, bm_st2_ok h⟩
  case iinc k n => exact Or.inl ⟨rfl, bm_inc_ok h⟩
  case iadd => exact Or.inl ⟨rfl, bm_i2_ok (fun x y => Int32.ofInt_add x y) h⟩
  case isub => exact Or.inl ⟨rfl, bm_i2_ok (fun x y => Int32.ofInt_sub x y) h⟩
  case imul => exact Or.inl ⟨rfl, bm_i2_ok (fun x y => Int32.ofInt_mul x y) h⟩
  case iand => exact Or.inl ⟨rfl, bm_i2_ok (fun x y => bm_ti _) h⟩
  case ior => exact Or.inl ⟨rfl, bm_i2_ok (fun x y => bm_ti _) h⟩
  case ixor => exact Or.inl ⟨rfl, bm_i2_ok (fun x y => bm_ti _) h⟩
  case ishl => exact Or.inl ⟨rfl, bm_i2_ok (fun x y => bm_ti _) h⟩
  case ishr => exact Or.inl ⟨rfl, bm_i2_ok (fun x y => bm_ti _) h⟩
  case ineg => exact Or.inl ⟨rfl, bm_i1_ok (fun x => Int32.ofInt_neg x) h⟩
  case i2b => exact Or.inl ⟨rfl, bm_i1_ok (fun x => bm_ti _) h⟩
  case i2c => exact Or.inl ⟨rfl, bm_i1_ok (fun x => bm_ti _) h⟩
  case i2l => exact Or.inl ⟨rfl, bm_il_ok h⟩
  case l2i => exact Or.inl ⟨rfl, bm_li_ok h⟩
  case ladd => exact Or.inl ⟨rfl, bm_l2_ok (fun x y => Int64.ofInt_add x y) h⟩
  case lsub => exact Or.inl ⟨rfl, bm_l2_ok (fun x y => Int64.ofInt_sub x y) h⟩
  case lmul => exact Or.inl ⟨rfl, bm_l2_ok (fun x y => Int64.ofInt_mul x y) h⟩
  case land => exact Or.inl ⟨rfl, bm_l2_ok (fun x y => bm_tl _) h⟩
  case lor => exact Or.inl ⟨rfl, bm_l2_ok (fun x y => bm_tl _) h⟩
  case lneg => exact Or.inl ⟨rfl, bm_l1_ok (fun x => Int64.ofInt_neg x) h⟩
  case lshl => exact Or.inl ⟨rfl, bm_s2_ok (fun x y => bm_tl _) h⟩
  case lshr => exact Or.inl ⟨rfl, bm_s2_ok (fun x y => bm_tl _) h⟩
  case lushr => exact Or.inl ⟨rfl, bm_s2_ok (fun x y => bm_tl _) h⟩
  case lcmp => exact Or.inl ⟨rfl, bm_c2_ok h⟩
  case dup => exact Or.inl ⟨rfl, bm_dup_ok h⟩
  case pop => exact Or.inl ⟨rfl, bm_pop_ok h⟩
  case pop2 => exact Or.inl ⟨rfl, bm_pop2_ok h⟩
  case dup_x1 => exact Or.inl ⟨rfl, bm_dupx1_ok h⟩
  case dup_x2 => exact Or.inl ⟨rfl, bm_dupx2_ok h⟩
  case dup2 => exact Or.inl ⟨rfl, bm_dup2_ok h⟩
  case goto off => exact Or.inl ⟨rfl, bm_jp_ok h⟩
  case arraylength => exact Or.inl ⟨rfl, bm_alen_ok h⟩
  case getfield n => exact Or.inl ⟨rfl, bm_gf_ok h⟩
  case getstatic n => exact Or.inl ⟨rfl, bm_gs_ok h⟩
  case putfield n =>
    obtain ⟨h1, h2, h3⟩ := bm_pf_ok h
    exact Or.inr ⟨rfl, h1, h2, h3⟩
  all_goals cases h
def bm_run (E : am_E) (Sh : List sg_Sh) (C : List am_Q) : Nat → Nat → bm_L → List bm_V → sg_S → bm_R
  | 0, pc, ls, st, σ => some (pc, ls, st, σ)
  | n + 1, pc, ls, st, σ => match am_find C pc with
    | none => none
    | some q => match bm_step E Sh pc q.2.1 q.2.2.1 q.2.2.2 ls st σ with
      | none => none
      | some S => bm_run E Sh C n S.1 S.2.1 S.2.2.1 S.2.2.2
end WKA
/-- a run ends, and what it answers and leaves is so -/
def wk (E : am_E) (T : List am_M) (Sh : List sg_Sh) (d j pc : Nat) (ls : bm_L) (st : List bm_V) (σ : sg_S) (Q : Option bm_V → sg_S → Prop) : Prop := ∃ v σ', am_run E T d j pc (bm_ls ls) (bm_st st) (sg_H Sh σ) (v.map bm_v) (sg_H Sh σ') ∧ Q v σ'
/-! What can be read of the locals is enough. -/
def am_le (a b : am_L) : Prop := (∀ q ∈ a, q ∈ b) ∧ (b.map (fun q => q.1)).Nodup
def am_loc (i : Instr) : Bool := match i with
  | .iload_n _ => true
  | .iload _ => true
  | .lload_n _ => true
  | .lload _ => true
  | .aload_n _ => true
  | .aload _ => true
  | .istore_n _ => true
  | .istore _ => true
  | .lstore_n _ => true
  | .lstore _ => true
  | .astore_n _ => true
  | .astore _ => true
  | .iinc _ _ => true
  | _ => false
section WKL
theorem am_gt_mem {a : am_L} {i : Nat} {v : Value} (h : am_get a i = some v) : (i, v) ∈ a := by
  induction a with
  | nil => cases h
  | cons q r ih =>
    simp only [am_get] at h
    split at h
    · rename_i e
      cases h
      subst e
      exact List.mem_cons_self
    · exact List.mem_cons_of_mem _ (ih h)
theorem am_mem_get {a : am_L} {i : Nat} {v : Value} (hd : (a.map (fun q => q.1)).Nodup) (h : (i, v) ∈ a) : am_get a i = some v := by
  induction a with
  | nil => cases h
  | cons q r ih =>
    simp only [List.map_cons, List.nodup_cons] at hd
    simp only [am_get]
    rcases List.mem_cons.mp h with e | e
    · subst e
      simp
    · have : ¬ q.1 = i := by
        intro e2
        subst e2
        exact hd.1 (List.mem_map.mpr ⟨_, e, rfl⟩)
      simp only [this, if_false]
      exact ih hd.2 e
theorem am_le_get {a b : am_L} (h : am_le a b) {i : Nat} {v : Value} (hg : am_get a i = some v) : am_get b i = some v := am_mem_get h.2 (h.1 _ (am_gt_mem hg))
theorem am_le_filter {a b : am_L} (h : am_le a b) (i : Nat) (v : Value) (f : Nat × Value → Bool) (hf : ∀ q, q.1 = i → f q = false) : am_le ((i, v) :: a.filter f) ((i, v) :: b.filter f) := by
  refine ⟨fun q hq => ?_, ?_⟩
  · rcases List.mem_cons.mp hq with e | e
    · rw [e]
      exact List.mem_cons_self
    · obtain ⟨e1, e2⟩ := List.mem_filter.mp e
      exact List.mem_cons_of_mem _ (List.mem_filter.mpr ⟨h.1 _ e1, e2⟩)
  · simp only [List.map_cons, List.nodup_cons]
    refine ⟨?_, ?_⟩
    · intro hm
      obtain ⟨q, hq, e⟩ := List.mem_map.mp hm
      have := (List.mem_filter.mp hq).2
      rw [hf q e] at this
      cases this
    · exact List.Nodup.sublist (List.Sublist.map _ List.filter_sublist) h.2
theorem am_le_put1 {a b : am_L} (h : am_le a b) (i : Nat) (v : Value) : am_le (am_put1 a i v) (am_put1 b i v) := am_le_filter h i v _ (fun q e => by simp [e])
theorem am_le_put2 {a b : am_L} (h : am_le a b) (i : Nat) (v : Value) : am_le (am_put2 a i v) (am_put2 b i v) := am_le_filter h i v _ (fun q e => by simp [e])
theorem am_step_nl {E : am_E} {pc : Nat} {i : Instr} {num : Int} {lk : am_K} {ls : am_L} {st : List Value} {h : am_H} (hl : am_loc i = false) : am_step E pc i num lk ls st h = (am_step E pc i num lk [] st h).map (fun S => (S.1, ls, S.2.2)) := by
  cases i <;> first
    | (cases hl; done)
    | rfl
    | (simp only [am_step, am_i2, am_d2, am_l2, am_dl2, am_l1, am_s2, am_c2, am_i1, am_il, am_li, am_jp, am_br, am_if, am_if2, am_rdI, am_rdL, am_alen, am_gf, am_sw, am_lsw, am_dup, am_pop, am_pop2, am_dupx1, am_dupx2, am_dup2, am_ldc, am_nul, am_gs]; (repeat' split) <;> rfl)
theorem am_step_le {E : am_E} {pc : Nat} {i : Instr} {num : Int} {lk : am_K} {a b : am_L} {st : List Value} {h : am_H} {S : Nat × am_L × List Value} (hab : am_le a b) (hs : am_step E pc i num lk a st h = some S) : ∃ b', am_step E pc i num lk b st h = some (S.1, b', S.2.2) ∧ am_le S.2.1 b' := by
  by_cases hl : am_loc i = false
  · rw [am_step_nl hl] at hs
    obtain ⟨S0, h0, rfl⟩ := Option.map_eq_some_iff.mp hs
    refine ⟨b, ?_, hab⟩
    rw [am_step_nl hl, h0]
    rfl
  · have hld : ∀ np t k, am_ld np t a k st = some S → ∃ b', am_ld np t b k st = some (S.1, b', S.2.2) ∧ am_le S.2.1 b' := by
      intro np t k hs
      unfold am_ld at hs
      split at hs
      · rename_i v hv
        split at hs
        · rename_i ht
          cases hs
          exact ⟨b, by simp only [am_ld, am_le_get hab hv, ht, if_true], hab⟩
        · cases hs
      · cases hs
    have hs1 : ∀ np t k, am_st1 np t a k st = some S → ∃ b', am_st1 np t b k st = some (S.1, b', S.2.2) ∧ am_le S.2.1 b' := by
      intro np t k hs
      unfold am_st1 at hs
      split at hs
      · split at hs
        · rename_i ht
          cases hs
          exact ⟨am_put1 b k _, by simp only [am_st1, ht, if_true], am_le_put1 hab k _⟩
        · cases hs
      · cases hs
    have hs2 : ∀ np k, am_st2 np a k st = some S → ∃ b', am_st2 np b k st = some (S.1, b', S.2.2) ∧ am_le S.2.1 b' := by
      intro np k hs
      unfold am_st2 at hs
      split at hs
      · split at hs
        · rename_i ht
          cases hs
          exact ⟨am_put2 b k _, by simp only [am_st2, ht, if_true], am_le_put2 hab k _⟩
        · cases hs
      · cases hs
    have hin : ∀ np k n, am_inc np a k n st = some S → ∃ b', am_inc np b k n st = some (S.1, b', S.2.2) ∧ am_le S.2.1 b' := by
      intro np k n hs
      unfold am_inc at hs
      split at hs
      · rename_i x hx
        cases hs
        exact ⟨am_put1 b k _, by simp only [am_inc, am_le_get hab hx], am_le_put1 hab k _⟩
      · cases hs
    cases i <;> first | exact absurd rfl hl | exact hld _ _ _ hs | exact hs1 _ _ _ hs | exact hs2 _ _ hs | exact hin _ _ _ hs
theorem am_ex_le {E : am_E} {T : List am_M} : ∀ (n d j pc : Nat) (a b : am_L) (st : List Value) (h : am_H) (r : Option Value × am_H), am_le a b → am_ex E T n d j pc a st h = some r → am_ex E T n d j pc b st h = some r := by
  intro n
  induction n with
  | zero => intro d j pc a b st h r _ hs; cases hs
  | succ n ih =>
    intro d j pc a b st h r hab hs
    unfold am_ex at hs ⊢
    split at hs
    · cases hs
    · rename_i M hM
      try simp only [hM]
      split at hs
      · cases hs
      · rename_i q hq
        try simp only [hq]
        split at hs
        · rename_i hso
          try simp only [hso]
          split at hs
          · cases hs
          · rename_i S hS
            obtain ⟨b', hb, hle⟩ := am_step_le hab hS
            try simp only [hb]
            exact ih _ _ _ _ _ _ _ _ hle hs
        · rename_i hso
          try simp only [hso]
          exact hs
        · rename_i hso
          try simp only [hso]
          split at hs
          · cases hs
          · rename_i S hS
            try simp only [hS]
            exact ih _ _ _ _ _ _ _ _ hab hs
        · rename_i s0 s1 s2
          split at hs
          · cases hs
          · rename_i d1
            try simp only
            split at hs
            · rename_i hlk
              try simp only [hlk]
              split at hs
              · split at hs
                · rename_i h8
                  try simp only [h8, if_true]
                  exact ih _ _ _ _ _ _ _ _ hab hs
                · cases hs
              · cases hs
            · rename_i hlk
              try simp only
              split at hs
              · rename_i hp
                try simp only [hp, if_true]
                split at hs
                · cases hs
                · rename_i P hP
                  try simp only [hP]
                  split at hs
                  · rename_i h8
                    try simp only [h8, if_true]
                    exact ih _ _ _ _ _ _ _ _ hab hs
                  · cases hs
              · rename_i hp
                try simp only [hp, if_false]
                split at hs
                · cases hs
                · rename_i C hC
                  try simp only [hC]
                  split at hs
                  · cases hs
                  · rename_i M2 hM2
                    try simp only [hM2]
                    split at hs
                    · rename_i hc
                      try rw [if_pos hc]
                      split at hs
                      · cases hs
                      · rename_i Z hZ
                        try simp only [hZ]
                        exact ih _ _ _ _ _ _ _ _ hab hs
                    · cases hs
def bm_sb : bm_L → bm_L → Prop
  | [], _ => True
  | q :: r, ls => bm_get ls q.1 = some q.2 ∧ bm_sb r ls
def bm_nd : bm_L → Bool
  | [] => true
  | q :: r => r.all (fun p => !(p.1 == q.1)) && bm_nd r
theorem bm_nd_ok : ∀ {ls : bm_L}, bm_nd ls = true → ((bm_ls ls).map (fun q => q.1)).Nodup
  | [], _ => List.nodup_nil
  | q :: r, h => by
    simp only [bm_nd, Bool.and_eq_true, List.all_eq_true] at h
    simp only [bm_ls, List.map_cons, List.nodup_cons]
    refine ⟨?_, ?_⟩
    · intro hm
      obtain ⟨p, hp, e⟩ := List.mem_map.mp hm
      obtain ⟨p', hp', rfl⟩ := List.mem_map.mp hp
      have := h.1 p' hp'
      simp only at e
      simp [e] at this
    · have := bm_nd_ok h.2
      unfold bm_ls at this
      exact this
theorem bm_sb_mem : ∀ {a b : bm_L}, bm_sb a b → ∀ q ∈ bm_ls a, q ∈ bm_ls b
  | [], _, _, q, hq => by cases hq
  | p :: r, b, h, q, hq => by
    simp only [bm_ls, List.map_cons] at hq
    rcases List.mem_cons.mp hq with e | e
    · have h1 : am_get (bm_ls b) p.1 = some (bm_v p.2) := by rw [bm_get_eq, h.1]; rfl
      rw [e]
      exact am_gt_mem h1
    · exact bm_sb_mem h.2 q e
end WKL
/-! THE ROWS of a walk. -/
def sg_c (c : ClassFile.Cond) (x y : Int) : Prop := match c with
  | .eq => x = y
  | .ne => ¬ x = y
  | .lt => x < y
  | .ge => y ≤ x
  | .gt => y < x
  | .le => x ≤ y
def sg_nc (c : ClassFile.Cond) (x y : Int) : Prop := match c with
  | .eq => ¬ x = y
  | .ne => x = y
  | .lt => y ≤ x
  | .ge => x < y
  | .gt => x ≤ y
  | .le => y < x
theorem sg_cT {c : ClassFile.Cond} {x y : Int} (h : sg_c c (sg_n x) (sg_n y)) : am_cmp c (sg_i x) (sg_i y) = true := by
  unfold sg_n at h
  cases c <;> simp only [sg_c, am_cmp, decide_eq_true_eq, Int32.lt_iff_toInt_lt, Int32.le_iff_toInt_le, ← Int32.toInt_inj] at h ⊢ <;> exact h
theorem sg_cF {c : ClassFile.Cond} {x y : Int} (h : sg_nc c (sg_n x) (sg_n y)) : am_cmp c (sg_i x) (sg_i y) = false := by
  unfold sg_n at h
  cases c <;> simp only [sg_nc, am_cmp, decide_eq_false_iff_not, Int32.lt_iff_toInt_lt, Int32.le_iff_toInt_le, ← Int32.toInt_inj, Int.not_lt, Int.not_le] at h ⊢ <;> first | exact h | exact fun q => q h
theorem sg_cnc (c : ClassFile.Cond) (x y : Int) : sg_c c x y ∨ sg_nc c x y := by
  cases c <;> simp only [sg_c, sg_nc] <;> omega
section WKR
variable {E : am_E} {T : List am_M} {Sh : List sg_Sh} {d j pc : Nat} {ls : bm_L} {st : List bm_V} {σ : sg_S} {Q : Option bm_V → sg_S → Prop} {M : am_M}
theorem wk_post {Q' : Option bm_V → sg_S → Prop} (h : wk E T Sh d j pc ls st σ Q) (k : ∀ v σ', Q v σ' → Q' v σ') : wk E T Sh d j pc ls st σ Q' := by
  obtain ⟨v, σ', h1, h2⟩ := h
  exact ⟨v, σ', h1, k _ _ h2⟩
theorem wk_d {d' : Nat} (hd : d ≤ d') (h : wk E T Sh d j pc ls st σ Q) : wk E T Sh d' j pc ls st σ Q := by
  obtain ⟨v, σ', ⟨n, hn⟩, h2⟩ := h
  exact ⟨v, σ', ⟨n, am_ex_same (Nat.le_refl n) hd hn⟩, h2⟩
theorem wk_ls (a : bm_L) (hn : bm_nd ls = true) (hs : bm_sb a ls) (h : wk E T Sh d j pc a st σ Q) : wk E T Sh d j pc ls st σ Q := by
  obtain ⟨v, σ', ⟨n, hn'⟩, h2⟩ := h
  exact ⟨v, σ', ⟨n, am_ex_le _ _ _ _ _ _ _ _ _ ⟨bm_sb_mem hs, bm_nd_ok hn⟩ hn'⟩, h2⟩
theorem wk_b (hM : T[j]? = some M) (n : Nat) {pc' : Nat} {ls' : bm_L} {st' : List bm_V} {σ' : sg_S} (h : bm_run E Sh M.2.2.2.2 n pc ls st σ = some (pc', ls', st', σ')) (k : wk E T Sh d j pc' ls' st' σ' Q) : wk E T Sh d j pc ls st σ Q := by
  induction n generalizing pc ls st σ with
  | zero => cases h; exact k
  | succ n ih =>
    unfold bm_run at h
    split at h
    · cases h
    · rename_i q hq
      split at h
      · cases h
      · rename_i S hS
        obtain ⟨v, σ2, h1, h2⟩ := ih h
        rcases bm_step_ok hS with ⟨e0, e1, e2⟩ | ⟨e0, e1, e2, e3⟩
        · rw [e1] at h1
          exact ⟨v, σ2, am_r0 hM hq e0 e2 h1, h2⟩
        · rw [e1, e2] at h1
          exact ⟨v, σ2, am_r2 hM hq e0 e3 h1, h2⟩
theorem wk_if2 {x y : Int} {c : ClassFile.Cond} {off num : Int} {lk : am_K} {tgt : Nat} (hM : T[j]? = some M) (hq : am_find M.2.2.2.2 pc = some (pc, .if_icmp c off, num, lk)) (ht : (pc : Int) + off = (tgt : Int)) (hx : sg_R x) (hy : sg_R y) (k1 : sg_c c x y → wk E T Sh d j tgt ls st σ Q) (k2 : sg_nc c x y → wk E T Sh d j (pc + 3) ls st σ Q) : wk E T Sh d j pc ls (.inl y :: .inl x :: st) σ Q := by
  rcases sg_cnc c x y with h | h
  · obtain ⟨v, σ', h1, h2⟩ := k1 h
    refine ⟨v, σ', am_rT2 hM hq (sg_cT ?_) ht h1, h2⟩
    rw [sg_id hx, sg_id hy]
    exact h
  · obtain ⟨v, σ', h1, h2⟩ := k2 h
    refine ⟨v, σ', am_rF2 hM hq (sg_cF ?_) ht h1, h2⟩
    rw [sg_id hx, sg_id hy]
    exact h
theorem wk_if {x : Int} {c : ClassFile.Cond} {off num : Int} {lk : am_K} {tgt : Nat} (hM : T[j]? = some M) (hq : am_find M.2.2.2.2 pc = some (pc, .ifCond c off, num, lk)) (ht : (pc : Int) + off = (tgt : Int)) (hx : sg_R x) (k1 : sg_c c x 0 → wk E T Sh d j tgt ls st σ Q) (k2 : sg_nc c x 0 → wk E T Sh d j (pc + 3) ls st σ Q) : wk E T Sh d j pc ls (.inl x :: st) σ Q := by
  have h0 : sg_R 0 := ⟨by decide, by decide⟩
  rcases sg_cnc c x 0 with h | h
  · obtain ⟨v, σ', h1, h2⟩ := k1 h
    refine ⟨v, σ', am_rT hM hq (sg_cT (y := 0) ?_) ht h1, h2⟩
    rw [sg_id hx, sg_id h0]
    exact h
  · obtain ⟨v, σ', h1, h2⟩ := k2 h
    refine ⟨v, σ', am_rF hM hq (sg_cF (y := 0) ?_) ht h1, h2⟩
    rw [sg_id hx, sg_id h0]
    exact h
theorem wk_if2b {x y : Int} {c : ClassFile.Cond} {off num : Int} {lk : am_K} {tgt : Nat} (hM : T[j]? = some M) (hq : am_find M.2.2.2.2 pc = some (pc, .if_icmp c off, num, lk)) (ht : (pc : Int) + off = (tgt : Int)) (k1 : wk E T Sh d j tgt ls st σ Q) (k2 : wk E T Sh d j (pc + 3) ls st σ Q) : wk E T Sh d j pc ls (.inl y :: .inl x :: st) σ Q := by
  rcases sg_cnc c (sg_n x) (sg_n y) with h | h
  · obtain ⟨v, σ', h1, h2⟩ := k1
    exact ⟨v, σ', am_rT2 hM hq (sg_cT h) ht h1, h2⟩
  · obtain ⟨v, σ', h1, h2⟩ := k2
    exact ⟨v, σ', am_rF2 hM hq (sg_cF h) ht h1, h2⟩
theorem wk_ifb {x : Int} {c : ClassFile.Cond} {off num : Int} {lk : am_K} {tgt : Nat} (hM : T[j]? = some M) (hq : am_find M.2.2.2.2 pc = some (pc, .ifCond c off, num, lk)) (ht : (pc : Int) + off = (tgt : Int)) (k1 : wk E T Sh d j tgt ls st σ Q) (k2 : wk E T Sh d j (pc + 3) ls st σ Q) : wk E T Sh d j pc ls (.inl x :: st) σ Q := by
  rcases sg_cnc c (sg_n x) (sg_n 0) with h | h
  · obtain ⟨v, σ', h1, h2⟩ := k1
    exact ⟨v, σ', am_rT hM hq (sg_cT (y := 0) h) ht h1, h2⟩
  · obtain ⟨v, σ', h1, h2⟩ := k2
    exact ⟨v, σ', am_rF hM hq (sg_cF (y := 0) h) ht h1, h2⟩
/-- a number may be told by its rest -/
theorem wk_n {x : Int} (h : wk E T Sh d j pc ls (.inl (sg_n x) :: st) σ Q) : wk E T Sh d j pc ls (.inl x :: st) σ Q := by
  obtain ⟨v, σ', h1, h2⟩ := h
  refine ⟨v, σ', ?_, h2⟩
  simp only [bm_st, List.map_cons, bm_v, sg_in] at h1 ⊢
  exact h1
/-- rows are read -/
theorem sg_ix {n : Nat} {i : Int} (hi : 0 ≤ i) (hn : i < (n : Int)) (hR : sg_R i) : (¬ (sg_i i < 0 ∨ n ≤ (sg_i i).toNatClampNeg)) ∧ (((sg_i i).toNatClampNeg : Nat) : Int) = i := by
  have e : (sg_i i).toInt = i := sg_id hR
  have e2 : (sg_i i).toNatClampNeg = i.toNat := by unfold Int32.toNatClampNeg; rw [e]
  rw [e2]
  refine ⟨?_, Int.toNat_of_nonneg hi⟩
  rintro (h | h)
  · rw [Int32.lt_iff_toInt_lt, e] at h
    have : (0 : Int32).toInt = 0 := rfl
    omega
  · omega
theorem wk_ia {a n : Nat} {i : Int} {num : Int} {lk : am_K} (hM : T[j]? = some M) (hq : am_find M.2.2.2.2 pc = some (pc, .iaload, num, lk)) (hh : sg_sh Sh a = some (.inl (0, n))) (hi : 0 ≤ i) (hn : i < (n : Int)) (hR : sg_R i) (k : wk E T Sh d j (pc + 1) ls (.inl (sg_g σ a i) :: st) σ Q) : wk E T Sh d j pc ls (.inl i :: .inr (.inr (.ref a)) :: st) σ Q := by
  obtain ⟨v, σ', h1, h2⟩ := k
  obtain ⟨e1, e2⟩ := sg_ix hi hn hR
  refine ⟨v, σ', am_r0 (S := (pc + 1, bm_ls ls, bm_st (.inl (sg_g σ a i) :: st))) hM hq rfl ?_ h1, h2⟩
  simp only [bm_st, List.map_cons, bm_v, am_step, am_rdI, am_rowI, sg_at hh, sg_cell, if_neg (show ¬ (0 : Nat) = 2 by decide), true_or, if_true, if_neg e1, e2, sg_ig]
theorem wk_ba {a t n : Nat} {i : Int} {num : Int} {lk : am_K} (ht : t = 1 ∨ t = 3) (hM : T[j]? = some M) (hq : am_find M.2.2.2.2 pc = some (pc, .baload, num, lk)) (hh : sg_sh Sh a = some (.inl (t, n))) (hi : 0 ≤ i) (hn : i < (n : Int)) (hR : sg_R i) (k : wk E T Sh d j (pc + 1) ls (.inl (sg_g σ a i) :: st) σ Q) : wk E T Sh d j pc ls (.inl i :: .inr (.inr (.ref a)) :: st) σ Q := by
  obtain ⟨v, σ', h1, h2⟩ := k
  obtain ⟨e1, e2⟩ := sg_ix hi hn hR
  refine ⟨v, σ', am_r0 (S := (pc + 1, bm_ls ls, bm_st (.inl (sg_g σ a i) :: st))) hM hq rfl ?_ h1, h2⟩
  have h3 : t = 1 ∨ True ∧ t = 3 := by rcases ht with h | h; exact Or.inl h; exact Or.inr ⟨trivial, h⟩
  simp only [bm_st, List.map_cons, bm_v, am_step, am_rdI, am_rowI, sg_at hh, sg_cell, if_neg (show ¬ t = 2 by omega), if_pos h3, if_neg e1, e2, sg_ig]
theorem wk_la {a n : Nat} {i : Int} {num : Int} {lk : am_K} (hM : T[j]? = some M) (hq : am_find M.2.2.2.2 pc = some (pc, .laload, num, lk)) (hh : sg_sh Sh a = some (.inl (2, n))) (hi : 0 ≤ i) (hn : i < (n : Int)) (hR : sg_R i) (k : wk E T Sh d j (pc + 1) ls (.inr (.inl (sg_gl σ a i)) :: st) σ Q) : wk E T Sh d j pc ls (.inl i :: .inr (.inr (.ref a)) :: st) σ Q := by
  obtain ⟨v, σ', h1, h2⟩ := k
  obtain ⟨e1, e2⟩ := sg_ix hi hn hR
  refine ⟨v, σ', am_r0 (S := (pc + 1, bm_ls ls, bm_st (.inr (.inl (sg_gl σ a i)) :: st))) hM hq rfl ?_ h1, h2⟩
  simp only [bm_st, List.map_cons, bm_v, am_step, am_rdL, am_rowL, sg_at hh, sg_cell, if_true, if_neg e1, e2, sg_lg]
/-- rows are written -/
theorem wk_is {a n : Nat} {x i : Int} {num : Int} {lk : am_K} (hM : T[j]? = some M) (hq : am_find M.2.2.2.2 pc = some (pc, .iastore, num, lk)) (hh : sg_sh Sh a = some (.inl (0, n))) (hi : 0 ≤ i) (hn : i < (n : Int)) (hR : sg_R i) (k : wk E T Sh d j (pc + 1) ls st (sg_w σ a i x) Q) : wk E T Sh d j pc ls (.inl x :: .inl i :: .inr (.inr (.ref a)) :: st) σ Q := by
  obtain ⟨v, σ', h1, h2⟩ := k
  obtain ⟨e1, e2⟩ := sg_ix hi hn hR
  refine ⟨v, σ', am_r2 (S := (bm_st st, sg_H Sh (sg_w σ a i x))) hM hq rfl ?_ h1, h2⟩
  have e3 := sg_setI (Sh := Sh) (σ := σ) (k := (sg_i i).toNatClampNeg) (z := x) hh (by decide)
  rw [e2] at e3
  simp only [bm_st, List.map_cons, bm_v, am_hs, am_wrI, sg_at hh, sg_cell, if_neg (show ¬ (0 : Nat) = 2 by decide), true_or, if_true, if_neg e1, am_nb, e3]
theorem wk_bs {a t n : Nat} {x i : Int} {num : Int} {lk : am_K} (ht : t = 1 ∨ t = 3) (hM : T[j]? = some M) (hq : am_find M.2.2.2.2 pc = some (pc, .bastore, num, lk)) (hh : sg_sh Sh a = some (.inl (t, n))) (hi : 0 ≤ i) (hn : i < (n : Int)) (hR : sg_R i) (k : wk E T Sh d j (pc + 1) ls st (sg_w σ a i (am_nb t (sg_i x)).toInt) Q) : wk E T Sh d j pc ls (.inl x :: .inl i :: .inr (.inr (.ref a)) :: st) σ Q := by
  obtain ⟨v, σ', h1, h2⟩ := k
  obtain ⟨e1, e2⟩ := sg_ix hi hn hR
  refine ⟨v, σ', am_r2 (S := (bm_st st, sg_H Sh (sg_w σ a i (am_nb t (sg_i x)).toInt))) hM hq rfl ?_ h1, h2⟩
  have e3 := sg_setI (Sh := Sh) (σ := σ) (k := (sg_i i).toNatClampNeg) (z := (am_nb t (sg_i x)).toInt) hh (by omega)
  rw [e2, bm_ti] at e3
  have h3 : t = 1 ∨ True ∧ t = 3 := by rcases ht with h | h; exact Or.inl h; exact Or.inr ⟨trivial, h⟩
  simp only [bm_st, List.map_cons, bm_v, am_hs, am_wrI, sg_at hh, sg_cell, if_neg (show ¬ t = 2 by omega), if_pos h3, if_neg e1, e3]
theorem wk_lS {a n : Nat} {x i : Int} {num : Int} {lk : am_K} (hM : T[j]? = some M) (hq : am_find M.2.2.2.2 pc = some (pc, .lastore, num, lk)) (hh : sg_sh Sh a = some (.inl (2, n))) (hi : 0 ≤ i) (hn : i < (n : Int)) (hR : sg_R i) (k : wk E T Sh d j (pc + 1) ls st (sg_wl σ a i x) Q) : wk E T Sh d j pc ls (.inr (.inl x) :: .inl i :: .inr (.inr (.ref a)) :: st) σ Q := by
  obtain ⟨v, σ', h1, h2⟩ := k
  obtain ⟨e1, e2⟩ := sg_ix hi hn hR
  refine ⟨v, σ', am_r2 (S := (bm_st st, sg_H Sh (sg_wl σ a i x))) hM hq rfl ?_ h1, h2⟩
  have e3 := sg_setL (Sh := Sh) (σ := σ) (k := (sg_i i).toNatClampNeg) (z := x) hh
  rw [e2] at e3
  simp only [bm_st, List.map_cons, bm_v, am_hs, am_wrL, sg_at hh, sg_cell, if_true, if_neg e1, e3]
/-- a boolean field is written -/
theorem wk_pz {a ci k : Nat} {tp : List Value} {x : Int} {y : Int32} {idx : Nat} {num : Int} {lk : am_K} {dat : List Nat} (hM : T[j]? = some M) (hq : am_find M.2.2.2.2 pc = some (pc, .putfield idx, num, lk)) (hh : sg_sh Sh a = some (.inr (ci, tp))) (hk : am_key lk ci = some (k :: 1 :: dat)) (hf : tp[k]? = some (.int y)) (hx : x = 0 ∨ x = 1) (kk : wk E T Sh d j (pc + 3) ls st (sg_w σ a (k : Int) x) Q) : wk E T Sh d j pc ls (.inl x :: .inr (.inr (.ref a)) :: st) σ Q := by
  obtain ⟨v, σ', h1, h2⟩ := kk
  refine ⟨v, σ', am_r2 (S := (bm_st st, sg_H Sh (sg_w σ a (k : Int) x))) hM hq rfl ?_ h1, h2⟩
  have hl : k < (tp.mapIdx (fun k v => sg_fd σ a k v)).length := by rw [List.length_mapIdx]; exact (List.getElem?_eq_some_iff.mp hf).1
  simp only [bm_st, List.map_cons, bm_v, am_hs, am_pf, sg_at hh, sg_cell, hk, am_fit, bm_i01 hx, decide_true, hl, and_self, if_true, sg_setF hh hf]
/-- quotients and rests -/
theorem wk_div {x y : Int} {num : Int} {lk : am_K} (hM : T[j]? = some M) (hq : am_find M.2.2.2.2 pc = some (pc, .idiv, num, lk)) (hy : ¬ sg_n y = 0) (k : wk E T Sh d j (pc + 1) ls (.inl (sg_i x / sg_i y).toInt :: st) σ Q) : wk E T Sh d j pc ls (.inl y :: .inl x :: st) σ Q := by
  obtain ⟨v, σ', h1, h2⟩ := k
  refine ⟨v, σ', am_r0 (S := (pc + 1, bm_ls ls, bm_st (.inl (sg_i x / sg_i y).toInt :: st))) hM hq rfl ?_ h1, h2⟩
  have h3 : ¬ sg_i y = 0 := by intro h; apply hy; unfold sg_n; rw [h]; rfl
  simp only [bm_st, List.map_cons, bm_v, am_step, am_d2, if_neg h3, bm_ti]
theorem wk_rem {x y : Int} {num : Int} {lk : am_K} (hM : T[j]? = some M) (hq : am_find M.2.2.2.2 pc = some (pc, .irem, num, lk)) (hy : ¬ sg_n y = 0) (k : wk E T Sh d j (pc + 1) ls (.inl (sg_i x - sg_i x / sg_i y * sg_i y).toInt :: st) σ Q) : wk E T Sh d j pc ls (.inl y :: .inl x :: st) σ Q := by
  obtain ⟨v, σ', h1, h2⟩ := k
  refine ⟨v, σ', am_r0 (S := (pc + 1, bm_ls ls, bm_st (.inl (sg_i x - sg_i x / sg_i y * sg_i y).toInt :: st))) hM hq rfl ?_ h1, h2⟩
  have h3 : ¬ sg_i y = 0 := by intro h; apply hy; unfold sg_n; rw [h]; rfl
  simp only [bm_st, List.map_cons, bm_v, am_step, am_d2, if_neg h3, bm_ti]
theorem wk_ldiv {x y : Int} {num : Int} {lk : am_K} (hM : T[j]? = some M) (hq : am_find M.2.2.2.2 pc = some (pc, .ldiv, num, lk)) (hy : ¬ sg_nl y = 0) (k : wk E T Sh d j (pc + 1) ls (.inr (.inl (sg_l x / sg_l y).toInt) :: st) σ Q) : wk E T Sh d j pc ls (.inr (.inl y) :: .inr (.inl x) :: st) σ Q := by
  obtain ⟨v, σ', h1, h2⟩ := k
  refine ⟨v, σ', am_r0 (S := (pc + 1, bm_ls ls, bm_st (.inr (.inl (sg_l x / sg_l y).toInt) :: st))) hM hq rfl ?_ h1, h2⟩
  have h3 : ¬ sg_l y = 0 := by intro h; apply hy; unfold sg_nl; rw [h]; rfl
  simp only [bm_st, List.map_cons, bm_v, am_step, am_dl2, if_neg h3, bm_tl]
theorem wk_lrem {x y : Int} {num : Int} {lk : am_K} (hM : T[j]? = some M) (hq : am_find M.2.2.2.2 pc = some (pc, .lrem, num, lk)) (hy : ¬ sg_nl y = 0) (k : wk E T Sh d j (pc + 1) ls (.inr (.inl (sg_l x - sg_l x / sg_l y * sg_l y).toInt) :: st) σ Q) : wk E T Sh d j pc ls (.inr (.inl y) :: .inr (.inl x) :: st) σ Q := by
  obtain ⟨v, σ', h1, h2⟩ := k
  refine ⟨v, σ', am_r0 (S := (pc + 1, bm_ls ls, bm_st (.inr (.inl (sg_l x - sg_l x / sg_l y * sg_l y).toInt) :: st))) hM hq rfl ?_ h1, h2⟩
  have h3 : ¬ sg_l y = 0 := by intro h; apply hy; unfold sg_nl; rw [h]; rfl
  simp only [bm_st, List.map_cons, bm_v, am_step, am_dl2, if_neg h3, bm_tl]
/-- calls -/
def bm_cls (E : am_E) (Sh : List sg_Sh) (v : bm_V) : Option Nat := match v with
  | .inr (.inr (.ref a)) => match sg_sh Sh a with
    | some (.inr (ci, _)) => some ci
    | _ => none
  | .inr (.inr (.retAddr k)) => if k < E.2.1.length ∧ k < 1000 then some 1000 else none
  | _ => none
def bm_call (E : am_E) (Sh : List sg_Sh) (i : Instr) (lk : am_K) (st : List bm_V) : Option (Nat × List bm_V × List bm_V) := match lk with
  | (_, j :: n :: _) :: _ => match i with
    | .invokestatic _ => if n ≤ st.length then some (j, (st.take n).reverse, st.drop n) else none
    | .invokespecial _ => match st.drop n with
      | .inr (.inr (.ref a)) :: r => some (j, .inr (.inr (.ref a)) :: (st.take n).reverse, r)
      | _ => none
    | .invokevirtual _ => match st.drop n with
      | v :: r => match bm_cls E Sh v with
        | some ci => match am_key lk ci with
          | some (j' :: n' :: _) => if n' = n then some (j', v :: (st.take n).reverse, r) else none
          | _ => none
        | none => none
      | _ => none
    | _ => none
  | _ => none
def bm_args : Nat → List bm_V → bm_L
  | _, [] => []
  | i, v :: vs => (i, v) :: bm_args (if bm_cat v = 2 then i + 2 else i + 1) vs
theorem bm_args_eq : ∀ (i : Nat) (as : List bm_V), bm_ls (bm_args i as) = lv_args i (bm_st as)
  | _, [] => rfl
  | i, v :: vs => by
    have := bm_args_eq (if bm_cat v = 2 then i + 2 else i + 1) vs
    unfold bm_ls bm_st at this ⊢
    simp only [bm_args, List.map_cons, lv_args, this]
    rw [bm_cat_eq]
theorem bm_cls_ok {v : bm_V} {ci : Nat} (h : bm_cls E Sh v = some ci) : am_cls E (sg_H Sh σ) (bm_v v) = some ci := by
  unfold bm_cls at h
  split at h
  · split at h
    · rename_i hs
      cases h
      simp only [bm_v, am_cls, sg_at hs, sg_cell]
    · cases h
  · split at h
    · rename_i hx
      cases h
      simp only [bm_v, am_cls, if_pos hx]
    · cases h
  · cases h
theorem bm_call_ok {i : Instr} {lk : am_K} {C : Nat × List bm_V × List bm_V} (h : bm_call E Sh i lk st = some C) : am_call E (sg_H Sh σ) i lk (bm_st st) = some (C.1, bm_st C.2.1, bm_st C.2.2) := by
  unfold bm_call at h
  split at h
  · rename_i x0 j0 n0 x1 x2
    split at h
    · split at h
      · rename_i hx
        cases h
        have : n0 ≤ (bm_st st).length := by unfold bm_st; rw [List.length_map]; exact hx
        simp only [am_call, if_pos this]
        simp only [bm_st, List.map_reverse, List.map_take, List.map_drop]
      · cases h
    · split at h
      · rename_i a r hd
        cases h
        have : (bm_st st).drop n0 = .ref a :: bm_st r := by unfold bm_st; rw [← List.map_drop, hd]; rfl
        simp only [am_call, this]
        simp only [bm_st, List.map_cons, List.map_reverse, List.map_take, bm_v]
      · cases h
    · split at h
      · rename_i v r hd
        split at h
        · rename_i ci hc
          split at h
          · rename_i j' n' x3 hk
            split at h
            · rename_i e
              cases h
              have : (bm_st st).drop n0 = bm_v v :: bm_st r := by unfold bm_st; rw [← List.map_drop, hd]; rfl
              simp only [am_call, this, bm_cls_ok hc, hk, if_pos e]
              simp only [bm_st, List.map_cons, List.map_reverse, List.map_take]
            · cases h
          · cases h
        · cases h
      · cases h
    · cases h
  · cases h
def bm_sum (r : List bm_V) : Nat := (r.map bm_cat).sum
theorem bm_sum_eq (r : List bm_V) : am_sum (bm_st r) = bm_sum r := by
  unfold am_sum bm_st bm_sum
  rw [List.map_map]
  congr 2
  funext v
  simp only [Function.comp, bm_cat_eq]
def bm_may (n : Nat) (as r : List bm_V) : Bool := Nat.ble (bm_sum r) 8 && (Nat.ble n 41 && Nat.ble (bm_sum as) n)
theorem wk_call {j2 d2 : Nat} {i : Instr} {num : Int} {lk : am_K} {as r : List bm_V} {M2 : am_M} {Q2 : Option bm_V → sg_S → Prop} (hM : T[j]? = some M) (hq : am_find M.2.2.2.2 pc = some (pc, i, num, lk)) (hso : am_sort i = 3) (hlk : lk.isEmpty = false) (hp : am_isP lk = false) (hc : bm_call E Sh i lk st = some (j2, as, r)) (hM2 : T[j2]? = some M2) (hcond : bm_may M2.2.2.1 as r = true) (hd : d2 ≤ d) (k1 : wk E T Sh d2 j2 0 (bm_args 0 as) [] σ Q2) (k2 : ∀ v σ', Q2 v σ' → wk E T Sh (d + 1) j (pc + 3) ls (v.toList ++ r) σ' Q) : wk E T Sh (d + 1) j pc ls st σ Q := by
  obtain ⟨v2, σ2, h1, h2⟩ := wk_d hd k1
  obtain ⟨v, σ', h3, h4⟩ := k2 _ _ h2
  rw [bm_args_eq] at h1
  unfold bm_may at hcond
  simp only [Bool.and_eq_true, Nat.ble_eq] at hcond
  refine ⟨v, σ', am_rC hM hq hso hlk hp (bm_call_ok hc) hM2 ?_ h1 ?_, h4⟩
  · rw [bm_sum_eq, bm_sum_eq]
    exact hcond
  · have e : bm_st (v2.toList ++ r) = (v2.map bm_v).toList ++ bm_st r := by cases v2 <;> rfl
    rw [e] at h3
    exact h3
/-- returns -/
theorem wk_rV {num : Int} {lk : am_K} (hM : T[j]? = some M) (hq : am_find M.2.2.2.2 pc = some (pc, .return_, num, lk)) (hr : M.2.2.2.1 = none) (k : Q none σ) : wk E T Sh d j pc ls [] σ Q :=
  ⟨none, σ, am_r1 hM hq rfl (by simp only [bm_st, List.map_nil, am_ret, hr, if_true, Option.map_none]), k⟩
theorem wk_rI {x num : Int} {lk : am_K} (hM : T[j]? = some M) (hq : am_find M.2.2.2.2 pc = some (pc, .ireturn, num, lk)) (hr : M.2.2.2.1 = some .int) (k : Q (some (.inl x)) σ) : wk E T Sh d j pc ls [.inl x] σ Q :=
  ⟨some (.inl x), σ, am_r1 hM hq rfl (by simp only [bm_st, List.map_cons, List.map_nil, bm_v, am_ret, hr, Option.map_some]), k⟩
theorem wk_rZ {x num : Int} {lk : am_K} (hM : T[j]? = some M) (hq : am_find M.2.2.2.2 pc = some (pc, .ireturn, num, lk)) (hr : M.2.2.2.1 = some .boolean) (hx : x = 0 ∨ x = 1) (k : Q (some (.inl x)) σ) : wk E T Sh d j pc ls [.inl x] σ Q :=
  ⟨some (.inl x), σ, am_r1 hM hq rfl (by simp only [bm_st, List.map_cons, List.map_nil, bm_v, am_ret, hr, bm_i01 hx, if_true, Option.map_some]), k⟩
theorem wk_rL {x num : Int} {lk : am_K} (hM : T[j]? = some M) (hq : am_find M.2.2.2.2 pc = some (pc, .lreturn, num, lk)) (hr : M.2.2.2.1 = some .long) (k : Q (some (.inr (.inl x))) σ) : wk E T Sh d j pc ls [.inr (.inl x)] σ Q :=
  ⟨some (.inr (.inl x)), σ, am_r1 hM hq rfl (by simp only [bm_st, List.map_cons, List.map_nil, bm_v, am_ret, hr, if_true, Option.map_some]), k⟩
end WKR
