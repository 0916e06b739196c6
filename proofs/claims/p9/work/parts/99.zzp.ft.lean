/-! WHAT A FLAT RUN KEEPS: nodes with their trees, binders they may bind, binders in scope. -/
theorem fT_mem {A : aT} {x : Int} {R L : List Int} (hx : x ∈ R) (h : fT A R L) : ∃ L', fT A [x] L' ∧ (∀ y ∈ L', y ∈ L) ∧ (L.Nodup → L'.Nodup) := by
  obtain ⟨R1, R2, e⟩ := List.append_of_mem hx
  subst e
  obtain ⟨La, Lb, e1, f1, f2⟩ := fT_spl R1 (x :: R2) L h
  obtain ⟨Lc, Ld, e2, f3, f4⟩ := fT_spl [x] R2 Lb f2
  subst e2
  subst e1
  refine ⟨Lc, f3, fun y hy => by simp [hy], fun n => ?_⟩
  exact (List.nodup_append.mp (List.nodup_append.mp n).2.1).1
theorem fT_in {A : aT} {R L : List Int} (h : fT A R L) : ∀ y ∈ L, ∃ z ∈ R, ∃ L', fT A [z] L' ∧ y ∈ L' ∧ ∀ w ∈ L', w ∈ L := by
  refine fT_ind (M := fun R L => ∀ y ∈ L, ∃ z ∈ R, ∃ L', fT A [z] L' ∧ y ∈ L' ∧ ∀ w ∈ L', w ∈ L) (fun y hy => by cases hy) (fun n ns L1 L2 hw h1 h2 _ ih2 y hy => ?_) h
  rcases List.mem_cons.mp hy with e | e
  · exact ⟨n, by simp, n :: L1, fT_one hw h1, by simp [e], fun w hw => by rcases List.mem_cons.mp hw with q | q <;> simp [q]⟩
  · rcases List.mem_append.mp e with e | e
    · exact ⟨n, by simp, n :: L1, fT_one hw h1, by simp [e], fun w hw => by rcases List.mem_cons.mp hw with q | q <;> simp [q]⟩
    · obtain ⟨z, z1, L', z2, z3, z4⟩ := ih2 y e
      exact ⟨z, by simp [z1], L', z2, z3, fun w hw => by simp [z4 w hw]⟩
/-- binder b belongs to a node of L -/
def insL (L : List Int) (b : Int) : Prop := (b < 210 ∧ b ∈ L) ∨ (210 ≤ b ∧ b < 1100 ∧ (b - 210) / 4 ∈ L)
theorem insL_s {L L' : List Int} {b : Int} (h : ∀ y ∈ L', y ∈ L) (a : insL L' b) : insL L b := by
  rcases a with ⟨a1, a2⟩ | ⟨a1, a2, a3⟩
  · exact Or.inl ⟨a1, h _ a2⟩
  · exact Or.inr ⟨a1, a2, h _ a3⟩
section FTS
variable {A : aT} {ds : kD} {T B : Int → Int}
theorem tyN_v (hA : A.1 ≤ 200) : ∀ (f : Nat) (sc : List (Int × Int)) (x : Int) (L : List Int), tyN A ds T B f sc x → fT A [x] L → ∀ y ∈ L, A.2.1 y = 1 → (B y, T y) ∈ sc ∨ insL L (B y)
  | 0, sc, x, L, h, _, _, _, _ => by cases h
  | f + 1, sc, x, L, h, hf, y, hy, ky => by
    obtain ⟨a1, a2, a3, a4, a5, a6, a7, a8, a9⟩ := h
    obtain ⟨L1, L2, e1, w1, w2, w3⟩ := fT_inv hf
    have e2 := fT_nil w3
    subst e2
    rw [List.append_nil] at e1
    subst e1
    rcases List.mem_cons.mp hy with e | e
    · rw [e] at ky ⊢
      exact Or.inl (a4 ky)
    · obtain ⟨z, z1, L', z2, z3, z4⟩ := fT_in w2 y e
      have sub : ∀ w ∈ L', w ∈ x :: L1 := fun w hw => by simp [z4 w hw]
      by_cases k2 : A.2.1 x = 2
      · obtain ⟨a, c, ea⟩ : ∃ a c, A.2.2.2.2.1 x = [a, c] := kid2 (a1.2.2.1 (Or.inl k2))
        obtain ⟨b1, b2⟩ := a7 k2 a c ea
        rw [ea] at z1
        rcases List.mem_cons.mp z1 with q | q
        · subst q
          rcases tyN_v hA f _ _ _ b1 z2 y z3 ky with r | r
          · exact Or.inl r
          · exact Or.inr (insL_s sub r)
        · have q' : z = c := by simpa using q
          subst q'
          rcases tyN_v hA f _ _ _ b2 z2 y z3 ky with r | r
          · rcases List.mem_cons.mp r with r | r
            · have : B y = x := by have := congrArg (·.1) r; exact this
              refine Or.inr (Or.inl ⟨by omega, by rw [this]; simp⟩)
            · exact Or.inl r
          · exact Or.inr (insL_s sub r)
      · by_cases k15 : A.2.1 x = 15
        · have l7 := a1.2.2.2.2.2.2.1 k15
          obtain ⟨bd, tl, ea⟩ : ∃ bd tl, A.2.2.2.2.1 x = bd :: tl := by
            cases e : A.2.2.2.2.1 x with
            | nil => rw [e] at l7; simp at l7; omega
            | cons p q => exact ⟨p, q, rfl⟩
          obtain ⟨b1, b2⟩ := a8 k15 bd tl ea
          rw [ea] at z1
          have hz : z ∈ tl.take (A.2.2.2.2.2 x).length ∨ z ∈ tl.drop (A.2.2.2.2.2 x).length ++ [bd] := by
            rcases List.mem_cons.mp z1 with q | q
            · exact Or.inr (by simp [q])
            · rw [← List.take_append_drop (A.2.2.2.2.2 x).length tl] at q
              rcases List.mem_append.mp q with q | q
              · exact Or.inl q
              · exact Or.inr (by simp [q])
          rcases hz with q | q
          · rcases tyN_v hA f _ _ _ (b1 z q).1 z2 y z3 ky with r | r
            · exact Or.inl r
            · exact Or.inr (insL_s sub r)
          · rcases tyN_v hA f _ _ _ (b2 z q) z2 y z3 ky with r | r
            · rcases List.mem_append.mp r with r | r
              · obtain ⟨i, u, hu, ep⟩ := gsc_m _ _ _ r
                have hi := lt_of_get hu
                rw [List.length_take] at hi
                have : B y = 210 + 4 * x + i := by
                  have := congrArg (·.1) ep
                  simp only at this
                  omega
                refine Or.inr (Or.inr ⟨by omega, by omega, ?_⟩)
                rw [show (B y - 210) / 4 = x by omega]
                simp
              · exact Or.inl r
            · exact Or.inr (insL_s sub r)
        · rcases tyN_v hA f _ _ _ (a9 k2 k15 z z1) z2 y z3 ky with r | r
          · exact Or.inl r
          · exact Or.inr (insL_s sub r)
theorem tyN_res : ∀ (f : Nat) (I sc sc' : List (Int × Int)) (x : Int) (L : List Int), tyN A ds T B f (I ++ sc) x → fT A [x] L → (∀ y ∈ L, A.2.1 y = 1 → ∀ p ∈ sc, p.1 = B y → p ∈ sc') → tyN A ds T B f (I ++ sc') x
  | 0, I, sc, sc', x, L, h, _, _ => h
  | f + 1, I, sc, sc', x, L, h, hf, hk => by
    obtain ⟨a1, a2, a3, a4, a5, a6, a7, a8, a9⟩ := h
    obtain ⟨L1, L2, e1, w1, w2, w3⟩ := fT_inv hf
    have e2 := fT_nil w3
    subst e2
    rw [List.append_nil] at e1
    subst e1
    have kid : ∀ z ∈ A.2.2.2.2.1 x, ∃ L', fT A [z] L' ∧ ∀ y ∈ L', A.2.1 y = 1 → ∀ p ∈ sc, p.1 = B y → p ∈ sc' := fun z hz => by
      obtain ⟨L', f1, f2, -⟩ := fT_mem hz w2
      exact ⟨L', f1, fun y hy => hk y (by simp [f2 y hy])⟩
    refine ⟨a1, a2, a3, fun z => ?_, a5, a6, fun z a b ea => ?_, fun z bd tl ea => ⟨fun y hy => ?_, fun y hy => ?_⟩, fun z1 z2 y hy => ?_⟩
    · rcases List.mem_append.mp (a4 z) with q | q
      · exact List.mem_append_left _ q
      · exact List.mem_append_right _ (hk x (by simp) z _ q rfl)
    · obtain ⟨La, fa, ka⟩ := kid a (by rw [ea]; simp)
      obtain ⟨Lb, fb, kb⟩ := kid b (by rw [ea]; simp)
      obtain ⟨b1, b2⟩ := a7 z a b ea
      exact ⟨tyN_res f I sc sc' a La b1 fa ka, tyN_res f ((x, T a) :: I) sc sc' b Lb b2 fb kb⟩
    · obtain ⟨Ly, fy, ky⟩ := kid y (by rw [ea]; exact List.mem_cons_of_mem _ (List.mem_of_mem_take hy))
      obtain ⟨b1, b2⟩ := (a8 z bd tl ea).1 y hy
      exact ⟨tyN_res f I sc sc' y Ly b1 fy ky, b2⟩
    · obtain ⟨Ly, fy, ky⟩ := kid y (by
        rw [ea]
        rcases List.mem_append.mp hy with q | q
        · exact List.mem_cons_of_mem _ (List.mem_of_mem_drop q)
        · have : y = bd := by simpa using q
          simp [this])
      have b2 := (a8 z bd tl ea).2 y hy
      rw [← List.append_assoc] at b2 ⊢
      exact tyN_res f _ sc sc' y Ly b2 fy ky
    · obtain ⟨Ly, fy, ky⟩ := kid y hy
      exact tyN_res f I sc sc' y Ly (a9 z1 z2 y hy) fy ky
end FTS
/-- binder b may be bound while a node of DEF j with tree L runs -/
def ow (lev : Int → Nat) (j : Nat) (L : List Int) (b : Int) : Prop := insL L b ∨ (b < 210 ∧ lev b < j) ∨ (210 ≤ b ∧ b < 1100 ∧ lev ((b - 210) / 4) < j) ∨ (1100 ≤ b ∧ (b - 1100) / 6 < j)
theorem ow_s {lev : Int → Nat} {j : Nat} {L L' : List Int} {b : Int} (h : ∀ y ∈ L', y ∈ L) (a : ow lev j L' b) : ow lev j L b := by
  rcases a with a | a
  · exact Or.inl (insL_s h a)
  · exact Or.inr a
theorem ow_d {lev : Int → Nat} {j d : Nat} {L L' : List Int} {b : Int} (hd : d < j) (h : ∀ y ∈ L', lev y = d) (a : ow lev d L' b) : ow lev j L b := by
  rcases a with a | a | a | a
  · rcases a with ⟨a1, a2⟩ | ⟨a1, a2, a3⟩
    · exact Or.inr (Or.inl ⟨a1, by rw [h _ a2]; exact hd⟩)
    · exact Or.inr (Or.inr (Or.inl ⟨a1, a2, by rw [h _ a3]; exact hd⟩))
  · exact Or.inr (Or.inl ⟨a.1, by omega⟩)
  · exact Or.inr (Or.inr (Or.inl ⟨a.1, a.2.1, by omega⟩))
  · exact Or.inr (Or.inr (Or.inr ⟨a.1, by omega⟩))
/-- a binder's number -/
def rb (A : aT) (b : Int) : Prop := (0 ≤ b ∧ b < 1200) ∧ (b < 210 → b < A.1) ∧ (210 ≤ b → b < 1100 → (b - 210) / 4 < A.1)
section FTD
variable (A : aT) (D : List aDf) (T B : Int → Int) (lev : Int → Nat)
def stN (j f : Nat) (L : List Int) (sc : List (Int × Int)) (x : Int) : Prop := tyN A (kDl (D.take j) []) T B f sc x ∧ fT A [x] L ∧ L.Nodup ∧ (∀ y ∈ L, (0 ≤ y ∧ y < A.1) ∧ lev y = j) ∧ ∀ p ∈ sc, rb A p.1 ∧ ¬ ow lev j L p.1
/-- each tree has its DEF's number -/
def lvP (d : Nat) (r : Int) : Prop := (∀ (j : Nat) (x : aDf), D[j]? = some x → ∃ L, fT A [x.2.2.2] L ∧ L.Nodup ∧ ∀ y ∈ L, (0 ≤ y ∧ y < A.1) ∧ lev y = d + j) ∧ ∃ L, fT A [r] L ∧ L.Nodup ∧ ∀ y ∈ L, (0 ≤ y ∧ y < A.1) ∧ lev y = d + D.length
end FTD
section FTE
variable {A : aT} {T B : Int → Int} {lev : Int → Nat}
theorem lv_ex {r : Int} : ∀ (D : List aDf) (d : Nat) (La : List Int), fT A (aRt D ++ [r]) La → La.Nodup → (∀ y ∈ La, 0 ≤ y ∧ y < A.1) → ∃ lev : Int → Nat, (∀ (j : Nat) (x : aDf), D[j]? = some x → ∃ L, fT A [x.2.2.2] L ∧ L.Nodup ∧ ∀ y ∈ L, y ∈ La ∧ lev y = d + j) ∧ ∃ L, fT A [r] L ∧ L.Nodup ∧ ∀ y ∈ L, y ∈ La ∧ lev y = d + D.length
  | [], d, La, hf, hn, hr => ⟨fun _ => d, fun j x h => (by cases h), La, hf, hn, fun y hy => ⟨hy, rfl⟩⟩
  | x :: D, d, La, hf, hn, hr => by
    obtain ⟨L1, L2, e, f1, f2⟩ := fT_spl [x.2.2.2] (aRt D ++ [r]) La hf
    subst e
    have nd := List.nodup_append.mp hn
    obtain ⟨lev, h1, L, h2, h3, h4⟩ := lv_ex D (d + 1) L2 f2 nd.2.1 (fun y hy => hr y (by simp [hy]))
    have nl : ∀ y, y ∈ L2 → y ∉ L1 := fun y a b => nd.2.2 y b y a rfl
    refine ⟨fun y => if y ∈ L1 then d else lev y, fun j y hj => ?_, L, h2, h3, fun y hy => ?_⟩
    · cases j with
      | zero =>
        simp only [List.getElem?_cons_zero, Option.some.injEq] at hj
        subst hj
        exact ⟨L1, f1, nd.1, fun z hz => ⟨by simp [hz], by simp [hz]⟩⟩
      | succ j =>
        obtain ⟨L', g1, g2, g3⟩ := h1 j y hj
        refine ⟨L', g1, g2, fun z hz => ⟨by simp [(g3 z hz).1], ?_⟩⟩
        simp only
        rw [if_neg (nl z (g3 z hz).1), (g3 z hz).2]
        omega
    · refine ⟨by simp [(h4 y hy).1], ?_⟩
      simp only
      rw [if_neg (nl y (h4 y hy).1), (h4 y hy).2]
      simp only [List.length_cons]
      omega
theorem lvP_ex {D : List aDf} {r : Int} (h : frA A (aRt D ++ [r])) : ∃ lev, lvP A D lev 0 r := by
  obtain ⟨La, h1, h2, h3, -⟩ := h
  obtain ⟨lev, g1, L, g2, g3, g4⟩ := lv_ex D 0 La h1 h2 h3
  refine ⟨lev, fun j x hj => ?_, L, g2, g3, fun y hy => ⟨h3 y (g4 y hy).1, (g4 y hy).2⟩⟩
  obtain ⟨L', k1, k2, k3⟩ := g1 j x hj
  exact ⟨L', k1, k2, fun y hy => ⟨h3 y (k3 y hy).1, (k3 y hy).2⟩⟩
end FTE
