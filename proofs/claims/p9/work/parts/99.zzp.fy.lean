/-! THE PILE of a flat run. -/
def vW (σ : sg_S) (b : Int) (tys : List (Int × Int × Int)) : Prop := ∀ (i : Nat) (x : Int × Int × Int), tys[i]? = some x → fLx σ x.1.toNat x.2.1 (sg_g σ 88 85 + x.2.2) (sg_g σ 133 (b + i))
/-- binders sc, none in W, are bound to values of their types with l lanes, once all saved from s on is put back; of so many cells at most as are told, and X -/
def scF (σ : sg_S) (s l X : Int) (W : Int → Prop) (sc : List (Int × Int)) : Prop := ∀ p ∈ sc, ¬ W p.1 ∧ fLx σ p.2.toNat l (sg_g σ 88 85 + X) (und σ s p.1)
def cwT (σ : sg_S) (b l : Int) : Int := cw σ (sg_g σ 140 (4 * sg_g σ 133 b)) l.toNat
def csT (σ : sg_S) (b l : Int) : Int := cs σ (sg_g σ 140 (4 * sg_g σ 133 b)) l.toNat
section FY
variable (A : aT) (D : List aDf) (T B : Int → Int) (lev : Int → Nat) (r : Int)
/-- node n at stage st, base b, l lanes, saved s and now sv, has values tys -/
def fK (σ : sg_S) (n st b l X s sv al : Int) (j : Nat) (L : List Int) (sc : List (Int × Int)) (W : Int → Prop) (tys : List (Int × Int × Int)) : Prop :=
  if A.2.1 n = 2 then sv = s ∧ ∃ a c, A.2.2.2.2.1 n = [a, c] ∧ ((st = 0 ∧ tys = [] ∧ scF σ s l X W sc) ∨ (st = 1 ∧ tys = [(T a, l, X)] ∧ scF σ s l X W sc) ∨ (st = 2 ∧ tys = [(T c, l, X)]))
  else if A.2.1 n = 3 then ∃ a c d, A.2.2.2.2.1 n = [a, c, d] ∧ ((st = 0 ∧ sv = s ∧ tys = [] ∧ scF σ s l X W sc) ∨ (st = 1 ∧ sv = s ∧ tys = [(T a, l, X)] ∧ scF σ s l X W sc) ∨ (st = 2 ∧ tys = [(T a, l, X), (T c, cwT σ b l, X)] ∧ scF σ s l X W sc) ∨ (st = 3 ∧ tys = [(T a, l, X), (T c, cwT σ b l, X), (T d, l - cwT σ b l, X)]))
  else if A.2.1 n = 15 then ∃ bd tl, A.2.2.2.2.1 n = bd :: tl ∧ ((∃ i : Nat, i ≤ (A.2.2.2.2.2 n).length ∧ st = i ∧ sv = s ∧ tys = (tl.take i).map (fun x => (T x, l, X)) ∧ scF σ s l X W sc) ∨ (∃ ts, st = (A.2.2.2.2.2 n).length + 1 ∧ tl.drop (A.2.2.2.2.2 n).length = [ts] ∧ tys = (tl.take (A.2.2.2.2.2 n).length).map (fun x => (T x, l, X)) ++ [(T ts, csT σ b l, X - l)] ∧ ∃ f' L' sc', stN A D T B lev j f' L' sc' bd ∧ (∀ y ∈ L', y ∈ L) ∧ scF σ sv (csT σ b l) (X - l) W sc') ∨ (∃ m, st = (A.2.2.2.2.2 n).length + 2 ∧ tys = (tl.take (A.2.2.2.2.2 n).length).map (fun x => (T x, l, X)) ++ [(T bd, m, X - l)] ∧ ((tl.length = 1 + (A.2.2.2.2.2 n).length ∧ fRw σ 6000 (al, l) ∧ fLn σ (al, l) ∧ m = cs σ al l.toNat) ∨ (tl.length = (A.2.2.2.2.2 n).length ∧ m = csT σ b l))))
  else sv = s ∧ ((∃ i : Nat, i ≤ (A.2.2.2.2.1 n).length ∧ st = i ∧ tys = ((A.2.2.2.2.1 n).take i).map (fun x => (T x, l, X)) ∧ scF σ s l X W sc) ∨ (A.2.1 n = 13 ∧ st = (A.2.2.2.2.1 n).length + 1 ∧ tys = [(T n, l, X)]))
/-- frames below: m of them; a value of type ty with l lanes comes to place tp; the frame above began at sv and may bind W -/
def fStk (σ : sg_S) : Nat → Int → Int → Int → Int → Int → (Int → Prop) → Prop
  | 0, tp, ty, l, Xa, sv, _ => tp = 0 ∧ ty = T r ∧ l = 1 ∧ Xa = 0 ∧ sv = 0
  | m + 1, tp, ty, l, Xa, sv, W => ∃ (j f : Nat) (L : List Int) (sc : List (Int × Int)) (tys : List (Int × Int × Int)) (X : Int), 0 ≤ sg_g σ 128 m ∧ tp = sg_g σ 128 m + tys.length ∧ vW σ (sg_g σ 128 m) tys ∧ stN A D T B lev j f L sc (sg_g σ 126 m) ∧ (0 ≤ sg_g σ 145 m ∧ sg_g σ 145 m ≤ 6000 ∧ 0 ≤ sg_g σ 88 85 + X) ∧ (0 ≤ sg_g σ 146 m ∧ sg_g σ 146 m ≤ sv) ∧ (∀ b, W b → ow lev j L b) ∧ fK A D T B lev σ (sg_g σ 126 m) (sg_g σ 127 m) (sg_g σ 128 m) (sg_g σ 145 m) X (sg_g σ 146 m) sv (sg_g σ 147 m) j L sc W (tys ++ [(ty, l, Xa)]) ∧ fStk σ m (sg_g σ 128 m) (T (sg_g σ 126 m)) (sg_g σ 145 m) X (sg_g σ 146 m) (ow lev j L)
def fTop (σ : sg_S) (m : Nat) (tys : List (Int × Int × Int)) : Prop := sg_g σ 88 62 = m + 1 ∧ ∃ (j f : Nat) (L : List Int) (sc : List (Int × Int)) (X : Int), 0 ≤ sg_g σ 128 m ∧ sg_g σ 88 70 = sg_g σ 128 m + tys.length ∧ vW σ (sg_g σ 128 m) tys ∧ stN A D T B lev j f L sc (sg_g σ 126 m) ∧ (0 ≤ sg_g σ 145 m ∧ sg_g σ 145 m ≤ 6000 ∧ 0 ≤ sg_g σ 88 85 + X) ∧ (0 ≤ sg_g σ 146 m ∧ sg_g σ 146 m ≤ sg_g σ 88 99) ∧ fK A D T B lev σ (sg_g σ 126 m) (sg_g σ 127 m) (sg_g σ 128 m) (sg_g σ 145 m) X (sg_g σ 146 m) (sg_g σ 88 99) (sg_g σ 147 m) j L sc (fun _ => False) tys ∧ fStk A D T B lev r σ m (sg_g σ 128 m) (T (sg_g σ 126 m)) (sg_g σ 145 m) X (sg_g σ 146 m) (ow lev j L)
def fN (σ : sg_S) : Prop := fI σ ∧ sB σ ∧ 0 ≤ sg_g σ 88 62 ∧ 0 ≤ sg_g σ 88 70 ∧ sg_g σ 88 70 + sg_g σ 88 62 ≤ sg_g σ 88 84
def fNw (σ : sg_S) : Prop := fIw σ ∧ sB σ ∧ 0 ≤ sg_g σ 88 62 ∧ 0 ≤ sg_g σ 88 70 ∧ sg_g σ 88 70 + sg_g σ 88 62 ≤ sg_g σ 88 84
theorem fN_w {σ : sg_S} (h : fN σ) : fNw σ := by
  obtain ⟨⟨i1, i2, i3, i4, i5⟩, h2⟩ := h
  exact ⟨⟨i1, i2, i3, ⟨i4.1, i4.2.1, by omega⟩, i5⟩, h2⟩
/-- a flat run that goes on, or has come to its value -/
def fIv (σ : sg_S) : Prop := fN σ ∧ ((sg_g σ 88 62 = 0 ∧ fLx σ (T r).toNat 1 (sg_g σ 88 85) (sg_g σ 133 0)) ∨ ∃ m tys, fTop A D T B lev r σ m tys)
def fM (σ : sg_S) : Int := 2 * (2000 - sg_g σ 88 84) + sg_g σ 88 62
def fQ (σ σ' : sg_S) : Prop := ¬ sg_g σ' 88 73 = 0 ∨ (sg_g σ' 88 73 = 0 ∧ fIv A D T B lev r σ' ∧ fM σ' < fM σ)
end FY
section FYU
variable {A : aT} {D : List aDf} {T B : Int → Int} {lev : Int → Nat} {r : Int}
theorem fL_row {σ σ' : sg_S} {K : Nat} {l v : Int} (h : fL σ K l v) (ex : fEx σ σ') : cw σ' (sg_g σ' 140 (4 * v)) l.toNat = cw σ (sg_g σ 140 (4 * v)) l.toNat ∧ cs σ' (sg_g σ' 140 (4 * v)) l.toNat = cs σ (sg_g σ 140 (4 * v)) l.toNat := by
  obtain ⟨q, R, h1, h2, h3⟩ := fL_c h
  have z := (fV_0 h1).1
  have z' := (fV_0 (fV_up ex h1)).1
  obtain ⟨w1, w2, w3, w4⟩ := h1.2.2.2.2.1
  rw [z, z']
  exact ⟨cw_e (fun j hj => ex.2.2.2 _ (by omega) (by omega)), cs_e (fun j hj => ex.2.2.2 _ (by omega) (by omega))⟩
theorem scF_up {σ σ' : sg_S} {s l X : Int} {W W' : Int → Prop} {sc : List (Int × Int)} (ex : fEx σ σ') (hc : sg_g σ 88 85 ≤ sg_g σ' 88 85) (hu : ∀ b, ¬ W b → und σ' s b = und σ s b) (hw : ∀ p ∈ sc, ¬ W p.1 → ¬ W' p.1) (h : scF σ s l X W sc) : scF σ' s l X W' sc := fun p hp => by
  obtain ⟨h1, h2⟩ := h p hp
  exact ⟨hw p hp h1, by rw [hu _ h1]; exact fLx_up ex (by omega) h2⟩
theorem vW_up {σ σ' : sg_S} {b : Int} {tys : List (Int × Int × Int)} (ex : fEx σ σ') (hc : sg_g σ 88 85 ≤ sg_g σ' 88 85) (hv : ∀ x, b ≤ x → x < b + tys.length → sg_g σ' 133 x = sg_g σ 133 x) (h : vW σ b tys) : vW σ' b tys := fun i x hx => by
  have hi := lt_of_get hx
  rw [hv _ (by omega) (by omega)]
  exact fLx_up ex (by omega) (h i x hx)
theorem vW_x {σ : sg_S} {b v ty l X : Int} {tys : List (Int × Int × Int)} (h : vW σ b tys) (hv : sg_g σ 133 (b + tys.length) = v) (hx : fLx σ ty.toNat l (sg_g σ 88 85 + X) v) : vW σ b (tys ++ [(ty, l, X)]) := fun i y hy => by
  rcases Nat.lt_or_ge i tys.length with q | q
  · rw [List.getElem?_append_left q] at hy; exact h i y hy
  · rw [List.getElem?_append_right q] at hy
    have : i - tys.length = 0 := by
      rcases Nat.eq_zero_or_pos (i - tys.length) with z | z
      · exact z
      · rw [List.getElem?_eq_none (by simp; omega)] at hy; cases hy
    rw [this] at hy
    simp only [List.getElem?_cons_zero, Option.some.injEq] at hy
    rw [show i = tys.length by omega, hv, ← hy]; exact hx
theorem vW_l {σ : sg_S} {b : Int} {tys tys' : List (Int × Int × Int)} (h : vW σ b (tys ++ tys')) : vW σ b tys := fun i x hx => h i x (by rw [List.getElem?_append_left (lt_of_get hx)]; exact hx)
theorem vW_0 {σ : sg_S} {b ty l X : Int} {tys : List (Int × Int × Int)} (h : vW σ b ((ty, l, X) :: tys)) : fLx σ ty.toNat l (sg_g σ 88 85 + X) (sg_g σ 133 b) := by
  have := h 0 (ty, l, X) rfl
  rwa [show b + ((0 : Nat) : Int) = b by omega] at this
theorem fK_up {σ σ' : sg_S} {n st b l X s sv al : Int} {j : Nat} {L : List Int} {sc : List (Int × Int)} {tys : List (Int × Int × Int)} {W W' : Int → Prop} (nw : nW A n) (ex : fEx σ σ') (hc : sg_g σ 88 85 ≤ sg_g σ' 88 85) (hs : s ≤ sv) (hu : ∀ s' b', s' ≤ sv → ¬ W b' → und σ' s' b' = und σ s' b') (hw : ∀ b', W' b' → W b') (hv : 2 ≤ tys.length → sg_g σ' 133 b = sg_g σ 133 b ∧ ∃ K, fL σ K l (sg_g σ 133 b)) (h : fK A D T B lev σ n st b l X s sv al j L sc W tys) : fK A D T B lev σ' n st b l X s sv al j L sc W' tys := by
  have up : ∀ (s' l' X' : Int) (sc' : List (Int × Int)), s' ≤ sv → scF σ s' l' X' W sc' → scF σ' s' l' X' W' sc' := fun s' l' X' sc' h1 h2 => scF_up ex hc (fun b' => hu s' b' h1) (fun p _ h3 h4 => h3 (hw _ h4)) h2
  have rows : 2 ≤ tys.length → cwT σ' b l = cwT σ b l ∧ csT σ' b l = csT σ b l := fun h2 => by
    obtain ⟨e, K, hK⟩ := hv h2
    unfold cwT csT
    rw [e]
    exact fL_row hK ex
  unfold fK at h ⊢
  split
  · rename_i k2
    rw [if_pos k2] at h
    obtain ⟨h0, a, c, ea, h1⟩ := h
    refine ⟨h0, a, c, ea, ?_⟩
    rcases h1 with ⟨p1, p2, p3⟩ | ⟨p1, p2, p3⟩ | p
    · exact Or.inl ⟨p1, p2, up _ _ _ _ hs p3⟩
    · exact Or.inr (Or.inl ⟨p1, p2, up _ _ _ _ hs p3⟩)
    · exact Or.inr (Or.inr p)
  · rename_i k2
    rw [if_neg k2] at h
    split
    · rename_i k3
      rw [if_pos k3] at h
      obtain ⟨a, c, d, ea, h1⟩ := h
      refine ⟨a, c, d, ea, ?_⟩
      rcases h1 with ⟨p1, p0, p2, p3⟩ | ⟨p1, p0, p2, p3⟩ | ⟨p1, p2, p3⟩ | ⟨p1, p2⟩
      · exact Or.inl ⟨p1, p0, p2, up _ _ _ _ hs p3⟩
      · exact Or.inr (Or.inl ⟨p1, p0, p2, up _ _ _ _ hs p3⟩)
      · have := (rows (by rw [p2]; simp)).1
        exact Or.inr (Or.inr (Or.inl ⟨p1, by rw [this]; exact p2, up _ _ _ _ hs p3⟩))
      · have := (rows (by rw [p2]; simp)).1
        exact Or.inr (Or.inr (Or.inr ⟨p1, by rw [this]; exact p2⟩))
    · rename_i k3
      rw [if_neg k3] at h
      split
      · rename_i k15
        rw [if_pos k15] at h
        obtain ⟨bd, tl, ea, h1⟩ := h
        refine ⟨bd, tl, ea, ?_⟩
        rcases h1 with ⟨i, p1, p2, p3, p4, p5⟩ | ⟨ts, p1, p2, p3, f', L', sc', p4, p5, p6⟩ | ⟨m, p1, p2, p3⟩
        · exact Or.inl ⟨i, p1, p2, p3, p4, up _ _ _ _ hs p5⟩
        · have l2 : 2 ≤ tys.length := by
            have g := (nw.2.2.2.2.2.2.1 k15).1
            have g1 := nw.2.2.2.2.2.2.2.2 k15
            rw [ea] at g
            simp only [List.length_cons] at g
            rw [p3]
            simp only [List.length_append, List.length_map, List.length_take, List.length_cons, List.length_nil]
            omega
          have q := (rows l2).2
          exact Or.inr (Or.inl ⟨ts, p1, p2, by rw [q]; exact p3, f', L', sc', p4, p5, by rw [q]; exact up _ _ _ _ (Int.le_refl _) p6⟩)
        · refine Or.inr (Or.inr ⟨m, p1, p2, ?_⟩)
          rcases p3 with ⟨q1, ⟨q2, q3, q4, q5⟩, q6, q7⟩ | ⟨q1, q2⟩
          · refine Or.inl ⟨q1, ⟨q2, q3, q4, by have := ex.1.2; omega⟩, fun i x y => ?_, ?_⟩
            · simp only at q2 q3 q5 x y ⊢
              rw [ex.2.2.2 _ (by omega) (by omega)]
              exact q6 i x y
            · simp only at q2 q3 q5
              rw [q7]
              exact (cs_up ex q2 (by omega)).symm
          · have l2 : 2 ≤ tys.length := by
              have g1 := nw.2.2.2.2.2.2.2.2 k15
              rw [p2]
              simp only [List.length_append, List.length_map, List.length_take, List.length_cons, List.length_nil]
              omega
            exact Or.inr ⟨q1, by rw [(rows l2).2]; exact q2⟩
      · rename_i k15
        rw [if_neg k15] at h
        obtain ⟨h0, h1⟩ := h
        refine ⟨h0, ?_⟩
        rcases h1 with ⟨i, p1, p2, p3, p4⟩ | p
        · exact Or.inl ⟨i, p1, p2, p3, up _ _ _ _ hs p4⟩
        · exact Or.inr p
end FYU
