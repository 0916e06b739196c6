/-! RUNS, by rows: a run from a state, out of a run from the next one. -/
theorem am_ex_up {E E' : am_E} {T : List am_M} (h1 : ∀ pc i num lk ls st h S, am_step E pc i num lk ls st h = some S → am_step E' pc i num lk ls st h = some S) (h2 : ∀ i lk st h S, am_hs E i lk st h = some S → am_hs E' i lk st h = some S) (h3 : ∀ h i lk st C, am_call E h i lk st = some C → am_call E' h i lk st = some C) :
    ∀ (n n' d d' j pc : Nat) (ls : am_L) (st : List Value) (h : am_H) (r : Option Value × am_H), n ≤ n' → d ≤ d' → am_ex E T n d j pc ls st h = some r → am_ex E' T n' d' j pc ls st h = some r := by
  intro n
  induction n with
  | zero => intro n' d d' j pc ls st h r _ _ hs; cases hs
  | succ n ih =>
    intro n' d d' j pc ls st h r hn hd hs
    obtain ⟨m, rfl⟩ : ∃ m, n' = m + 1 := ⟨n' - 1, by omega⟩
    have hn : n ≤ m := by omega
    unfold am_ex at hs ⊢
    split at hs
    · cases hs
    · rename_i M hM
      try simp only [hM]
      split at hs
      · cases hs
      · rename_i q hq
        try simp only [hq]
        split at hs
        · rename_i hso
          try simp only [hso]
          split at hs
          · cases hs
          · rename_i S hS
            try simp only [h1 _ _ _ _ _ _ _ _ hS]
            exact ih _ _ _ _ _ _ _ _ _ hn hd hs
        · rename_i hso
          try simp only [hso]
          exact hs
        · rename_i hso
          try simp only [hso]
          split at hs
          · cases hs
          · rename_i S hS
            try simp only [h2 _ _ _ _ _ hS]
            exact ih _ _ _ _ _ _ _ _ _ hn hd hs
        · rename_i s0 s1 s2
          split at hs
          · cases hs
          · rename_i d1
            obtain ⟨e', rfl⟩ : ∃ e', d' = e' + 1 := ⟨d' - 1, by omega⟩
            have hd1 : d1 ≤ e' := by omega
            try simp only
            split at hs
            · rename_i hlk
              try simp only [hlk]
              split at hs
              · split at hs
                · rename_i h8
                  try simp only [h8, if_true]
                  exact ih _ _ _ _ _ _ _ _ _ hn hd hs
                · cases hs
              · cases hs
            · rename_i hlk
              try simp only
              split at hs
              · rename_i hp
                try simp only [hp, if_true]
                split at hs
                · cases hs
                · rename_i P hP
                  try simp only [hP]
                  split at hs
                  · rename_i h8
                    try simp only [h8, if_true]
                    exact ih _ _ _ _ _ _ _ _ _ hn hd hs
                  · cases hs
              · rename_i hp
                try simp only [hp, if_false]
                split at hs
                · cases hs
                · rename_i C hC
                  try simp only [h3 _ _ _ _ _ hC]
                  split at hs
                  · cases hs
                  · rename_i M2 hM2
                    try simp only [hM2]
                    split at hs
                    · rename_i hc
                      try rw [if_pos hc]
                      split at hs
                      · cases hs
                      · rename_i Z hZ
                        try simp only [ih _ _ _ _ _ _ _ _ _ hn hd1 hZ]
                        exact ih _ _ _ _ _ _ _ _ _ hn hd hs
                    · cases hs
theorem am_ex_same {E : am_E} {T : List am_M} {n n' d d' j pc : Nat} {ls : am_L} {st : List Value} {h : am_H} {r : Option Value × am_H} (hn : n ≤ n') (hd : d ≤ d') (hs : am_ex E T n d j pc ls st h = some r) : am_ex E T n' d' j pc ls st h = some r :=
  am_ex_up (fun _ _ _ _ _ _ _ _ z => z) (fun _ _ _ _ _ z => z) (fun _ _ _ _ _ z => z) n n' d d' j pc ls st h r hn hd hs
theorem am_step_sc {a : List (List Value)} {t : List (List Int32)} {z : List Value} {sc : Option (Nat × (Nat → Int32))} {pc : Nat} {i : Instr} {num : Int} {lk : am_K} {ls : am_L} {st : List Value} {h : am_H} {S : Nat × am_L × List Value} (hs : am_step (a, t, z, none) pc i num lk ls st h = some S) : am_step (a, t, z, sc) pc i num lk ls st h = some S := by
  have hrow : ∀ (k : Nat) (v : Value) (r : Nat × (Nat → Int32)), am_rowI (a, t, z, none) h k v = some r → am_rowI (a, t, z, sc) h k v = some r := by
    intro k v r hr
    unfold am_rowI at hr ⊢
    split at hr
    · exact hr
    · split at hr
      · split at hr
        · cases hr
        · cases hr
      · rename_i h9
        simp only [h9, if_false]
        exact hr
    · cases hr
  have hrd : ∀ np k, am_rdI (a, t, z, none) np k ls h st = some S → am_rdI (a, t, z, sc) np k ls h st = some S := by
    intro np k hr
    unfold am_rdI at hr ⊢
    split at hr
    · split at hr
      · rename_i hq
        simp only [hrow _ _ _ hq]
        exact hr
      · cases hr
    · cases hr
  have hln : ∀ np, am_alen (a, t, z, none) np ls h st = some S → am_alen (a, t, z, sc) np ls h st = some S := by
    intro np hr
    unfold am_alen at hr ⊢
    split at hr
    · rename_i v0 r0
      split at hr
      · rename_i n hq
        have h2 : am_len0 (a, t, z, sc) h v0 = some n := by
          unfold am_len0 at hq ⊢
          split at hq
          · exact hq
          · split at hq
            · cases hq
            · rename_i h9
              simp only [h9, if_false]
              exact hq
          · cases hq
        simp only [h2]
        exact hr
      · cases hr
    · cases hr
  cases i <;> first | exact hs | exact hrd _ _ hs | exact hln _ hs
theorem am_ex_sc {a : List (List Value)} {t : List (List Int32)} {z : List Value} (sc : Option (Nat × (Nat → Int32))) {T : List am_M} {n n' d d' j pc : Nat} {ls : am_L} {st : List Value} {h : am_H} {r : Option Value × am_H} (hn : n ≤ n') (hd : d ≤ d') (hs : am_ex (a, t, z, none) T n d j pc ls st h = some r) : am_ex (a, t, z, sc) T n' d' j pc ls st h = some r :=
  am_ex_up (E := (a, t, z, none)) (E' := (a, t, z, sc)) (fun _ _ _ _ _ _ _ _ q => am_step_sc q) (fun _ _ _ _ _ q => q) (fun _ _ _ _ _ q => q) n n' d d' j pc ls st h r hn hd hs
def am_run (E : am_E) (T : List am_M) (d j pc : Nat) (ls : am_L) (st : List Value) (h : am_H) (v : Option Value) (h' : am_H) : Prop := ∃ n, am_ex E T n d j pc ls st h = some (v, h')
section AMR2
variable {E : am_E} {T : List am_M} {d j pc : Nat} {ls : am_L} {st : List Value} {h : am_H} {v : Option Value} {h' : am_H} {M : am_M} {q : am_Q}
theorem am_r0 {S : Nat × am_L × List Value} (hM : T[j]? = some M) (hq : am_find M.2.2.2.2 pc = some q) (hso : am_sort q.2.1 = 0) (hs : am_step E pc q.2.1 q.2.2.1 q.2.2.2 ls st h = some S) (k : am_run E T d j S.1 S.2.1 S.2.2 h v h') : am_run E T d j pc ls st h v h' := by
  obtain ⟨n, hn⟩ := k
  exact ⟨n + 1, by simp only [am_ex, hM, hq, hso, hs]; exact hn⟩
theorem am_r2 {S : List Value × am_H} (hM : T[j]? = some M) (hq : am_find M.2.2.2.2 pc = some q) (hso : am_sort q.2.1 = 2) (hs : am_hs E q.2.1 q.2.2.2 st h = some S) (k : am_run E T d j (pc + am_len q.2.1 q.2.2.1) ls S.1 S.2 v h') : am_run E T d j pc ls st h v h' := by
  obtain ⟨n, hn⟩ := k
  exact ⟨n + 1, by simp only [am_ex, hM, hq, hso, hs]; exact hn⟩
theorem am_r1 (hM : T[j]? = some M) (hq : am_find M.2.2.2.2 pc = some q) (hso : am_sort q.2.1 = 1) (hs : am_ret M.2.2.2.1 q.2.1 st = some v) : am_run E T d j pc ls st h v h :=
  ⟨1, by simp only [am_ex, hM, hq, hso, hs]⟩
/-- a call -/
theorem am_rC {j2 : Nat} {as r : List Value} {M2 : am_M} {v2 : Option Value} {h2 : am_H} (hM : T[j]? = some M) (hq : am_find M.2.2.2.2 pc = some q) (hso : am_sort q.2.1 = 3) (hlk : q.2.2.2.isEmpty = false) (hp : am_isP q.2.2.2 = false) (hc : am_call E h q.2.1 q.2.2.2 st = some (j2, as, r)) (hM2 : T[j2]? = some M2) (hcond : am_sum r ≤ 8 ∧ M2.2.2.1 ≤ 41 ∧ am_sum as ≤ M2.2.2.1) (k1 : am_run E T d j2 0 (lv_args 0 as) [] h v2 h2) (k2 : am_run E T (d + 1) j (pc + 3) ls (v2.toList ++ r) h2 v h') : am_run E T (d + 1) j pc ls st h v h' := by
  obtain ⟨n1, hn1⟩ := k1
  obtain ⟨n2, hn2⟩ := k2
  refine ⟨max n1 n2 + 1, ?_⟩
  have g1 := am_ex_same (Nat.le_max_left n1 n2) (Nat.le_refl d) hn1
  have g2 := am_ex_same (Nat.le_max_right n1 n2) (Nat.le_refl (d + 1)) hn2
  unfold am_ex
  simp only [hM, hq, hso]
  cases hl : q.2.2.2 with
  | nil => rw [hl] at hlk; cases hlk
  | cons x y =>
    rw [hl] at hc hp
    simp only [hp, hc, hM2, if_pos hcond, g1, g2]
    rfl
/-- a field is read -/
theorem am_rG {a ci k : Nat} {fs : List Value} {w : Value} {idx : Nat} {num : Int} {lk : am_K} {dat : List Nat} (hM : T[j]? = some M) (hq : am_find M.2.2.2.2 pc = some (pc, .getfield idx, num, lk)) (hh : h[a]? = some (.inr (.inr (ci, fs)))) (hk : am_key lk ci = some (k :: dat)) (hf : fs[k]? = some w) (kk : am_run E T d j (pc + 3) ls (w :: st) h v h') : am_run E T d j pc ls (.ref a :: st) h v h' :=
  am_r0 (S := (pc + 3, ls, w :: st)) hM hq rfl (by simp only [am_step, am_gf, am_fld, hh, hk, hf]) kk
/-- a field is written -/
theorem am_rW {a ci k tag : Nat} {fs : List Value} {w : Value} {idx : Nat} {num : Int} {lk : am_K} {dat : List Nat} (hM : T[j]? = some M) (hq : am_find M.2.2.2.2 pc = some (pc, .putfield idx, num, lk)) (hh : h[a]? = some (.inr (.inr (ci, fs)))) (hk : am_key lk ci = some (k :: tag :: dat)) (ht : am_fit tag w = true) (hf : k < fs.length) (kk : am_run E T d j (pc + 3) ls st (h.set a (.inr (.inr (ci, fs.set k w)))) v h') : am_run E T d j pc ls (w :: .ref a :: st) h v h' :=
  am_r2 (S := (st, h.set a (.inr (.inr (ci, fs.set k w))))) hM hq rfl (by simp only [am_hs, am_pf, hh, hk, ht, hf, and_self, if_true]) kk
/-- branches -/
theorem am_rT {x : Int32} {c : ClassFile.Cond} {off num : Int} {lk : am_K} {tgt : Nat} (hM : T[j]? = some M) (hq : am_find M.2.2.2.2 pc = some (pc, .ifCond c off, num, lk)) (hc : am_cmp c x 0 = true) (ht : (pc : Int) + off = (tgt : Int)) (kk : am_run E T d j tgt ls st h v h') : am_run E T d j pc ls (.int x :: st) h v h' :=
  am_r0 (S := (tgt, ls, st)) hM hq rfl (by simp only [am_step, am_if, am_br, hc, ht]; simp) kk
theorem am_rF {x : Int32} {c : ClassFile.Cond} {off num : Int} {lk : am_K} {tgt : Nat} (hM : T[j]? = some M) (hq : am_find M.2.2.2.2 pc = some (pc, .ifCond c off, num, lk)) (hc : am_cmp c x 0 = false) (ht : (pc : Int) + off = (tgt : Int)) (kk : am_run E T d j (pc + 3) ls st h v h') : am_run E T d j pc ls (.int x :: st) h v h' :=
  am_r0 (S := (pc + 3, ls, st)) hM hq rfl (by simp only [am_step, am_if, am_br, hc, ht]; simp) kk
theorem am_rT2 {x y : Int32} {c : ClassFile.Cond} {off num : Int} {lk : am_K} {tgt : Nat} (hM : T[j]? = some M) (hq : am_find M.2.2.2.2 pc = some (pc, .if_icmp c off, num, lk)) (hc : am_cmp c x y = true) (ht : (pc : Int) + off = (tgt : Int)) (kk : am_run E T d j tgt ls st h v h') : am_run E T d j pc ls (.int y :: .int x :: st) h v h' :=
  am_r0 (S := (tgt, ls, st)) hM hq rfl (by simp only [am_step, am_if2, am_br, hc, ht]; simp) kk
theorem am_rF2 {x y : Int32} {c : ClassFile.Cond} {off num : Int} {lk : am_K} {tgt : Nat} (hM : T[j]? = some M) (hq : am_find M.2.2.2.2 pc = some (pc, .if_icmp c off, num, lk)) (hc : am_cmp c x y = false) (ht : (pc : Int) + off = (tgt : Int)) (kk : am_run E T d j (pc + 3) ls st h v h') : am_run E T d j pc ls (.int y :: .int x :: st) h v h' :=
  am_r0 (S := (pc + 3, ls, st)) hM hq rfl (by simp only [am_step, am_if2, am_br, hc, ht]; simp) kk
theorem am_rJ {off num : Int} {lk : am_K} {tgt : Nat} (hM : T[j]? = some M) (hq : am_find M.2.2.2.2 pc = some (pc, .goto off, num, lk)) (ht : (pc : Int) + off = (tgt : Int)) (kk : am_run E T d j tgt ls st h v h') : am_run E T d j pc ls st h v h' :=
  am_r0 (S := (tgt, ls, st)) hM hq rfl (by simp only [am_step, am_jp, ht]; simp) kk
end AMR2
