/-! COUNTS: no value of a run counts more than the work that a run may do. -/
theorem cn_nm0 : ∀ d, cnvF d (nmF 0) = 0
  | 0 => rfl
  | d + 1 => by
    have e : itF (nmF 0) = [] := by simp [itF, nmF]
    simp only [cnvF, e]
    rfl
theorem sum_in {d : Nat} {l : List vaF} {u : vaF} (h : u ∈ l) : cnvF d u ≤ sumF (l.map (cnvF d)) := by
  induction l with
  | nil => cases h
  | cons x r ih =>
    simp only [List.map_cons, sumF]
    have a := cnF_0 d x
    have b := sum_0 d r
    rcases List.mem_cons.mp h with q | q
    · rw [q]; omega
    · have := ih q; omega
theorem it_cn {d : Nat} {v : vaF} {i : Nat} (h : cnvF (d + 1) v ≤ 3000) : cnvF d ((itF v).getD i (nmF 0)) ≤ 3000 := by
  rcases Nat.lt_or_ge i (itF v).length with q | q
  · rw [List.getD_eq_getElem?_getD, List.getElem?_eq_getElem q, Option.getD_some]
    have := sum_in (d := d) (List.getElem_mem q)
    simp only [cnvF] at h
    omega
  · rw [List.getD_eq_getElem?_getD, List.getElem?_eq_none q, Option.getD_none, cn_nm0]; decide
section CNJ
variable {A : aT} {D : List aDf} {T B : Int → Int} {call : Int → eV → Int → eR}
/-- all that is bound counts little -/
def jB (A : aT) (D : List aDf) (T : Int → Int) (ρ : eV) : Prop := ∀ b, cnvF (bTy A D T b).toNat (ρ b) ≤ 3000
theorem jB_0 : jB A D T (fun _ => nmF 0) := fun b => by rw [cn_nm0]; decide
theorem jB_up {ρ : eV} {b : Int} {v : vaF} (h : jB A D T ρ) (hv : cnvF (bTy A D T b).toNat v ≤ 3000) : jB A D T (eUp ρ b v) := fun x => by
  unfold eUp
  by_cases e : x = b
  · rw [if_pos e, e]; exact hv
  · rw [if_neg e]; exact h x
theorem jB_us {b : Int} : ∀ (vs : List vaF) (j : Nat) (ρ : eV), jB A D T ρ → (∀ (i : Nat) (v : vaF), vs[i]? = some v → cnvF (bTy A D T (b + ((j + i : Nat) : Int))).toNat v ≤ 3000) → jB A D T (eUs ρ b j vs)
  | [], j, ρ, h, _ => h
  | v :: r, j, ρ, h, hv => by
    simp only [eUs]
    refine jB_us r (j + 1) _ (jB_up h (hv 0 v rfl)) (fun i u hu => ?_)
    have := hv (i + 1) u (by rw [List.getElem?_cons_succ]; exact hu)
    rw [show j + 1 + i = j + (i + 1) by omega]
    exact this
theorem eS_J {go : Int → eV → Int → eR} {P : Int → Prop} (hg : gB go) (hgo : ∀ x, P x → ∀ ρ w v w' s' ρ', 0 ≤ w → w ≤ 3000 → jB A D T ρ → go x ρ w = .inr (v, w', s', ρ') → cnvF (T x).toNat v ≤ 3000 ∧ jB A D T ρ') : ∀ (R : List Int) (ρ : eV) (w : Int) (vs : List vaF) (w' s' : Int) (ρ' : eV), (∀ x ∈ R, P x) → 0 ≤ w → w ≤ 3000 → jB A D T ρ → eS go R ρ w = .inr (vs, w', s', ρ') → vs.length = R.length ∧ (∀ (i : Nat) (v : vaF) (x : Int), vs[i]? = some v → R[i]? = some x → cnvF (T x).toNat v ≤ 3000) ∧ jB A D T ρ'
  | [], ρ, w, vs, w', s', ρ', hP, h0, hw, hj, h => by
    simp only [eS, Sum.inr.injEq, Prod.mk.injEq] at h
    obtain ⟨rfl, rfl, rfl, rfl⟩ := h
    exact ⟨rfl, fun i v x hv => by simp at hv, hj⟩
  | x :: r, ρ, w, vs, w', s', ρ', hP, h0, hw, hj, h => by
    simp only [eS] at h
    split at h
    · cases h
    · rename_i v1 w1 s1 ρ1 e1
      have a := hg _ _ _ _ _ _ _ hw e1
      obtain ⟨b1, b2⟩ := hgo x (hP x (by simp)) ρ w v1 w1 s1 ρ1 h0 hw hj e1
      split at h
      · cases h
      · rename_i vs2 w2 s2 ρ2 e2
        obtain ⟨c1, c2, c3⟩ := eS_J hg hgo r ρ1 w1 vs2 w2 s2 ρ2 (fun y hy => hP y (by simp [hy])) (by omega) a.2.1 b2 e2
        simp only [Sum.inr.injEq, Prod.mk.injEq] at h
        obtain ⟨rfl, rfl, rfl, rfl⟩ := h
        refine ⟨by simp only [List.length_cons]; omega, fun i v y hv hy => ?_, c3⟩
        cases i with
        | zero =>
          simp only [List.getElem?_cons_zero, Option.some.injEq] at hv hy
          rw [← hv, ← hy]; exact b1
        | succ i => exact c2 i v y (by simpa using hv) (by simpa using hy)
theorem evT_J {go : Int → eV → Int → eR} (hg : gB go) {gd : List Int} {bd : Int} (hgo : ∀ x ∈ gd ++ [bd], ∀ ρ w v w' s' ρ', 0 ≤ w → w ≤ 3000 → jB A D T ρ → go x ρ w = .inr (v, w', s', ρ') → jB A D T ρ') {ρ : eV} {w : Int} {vs : List vaF} {w' s' : Int} {ρ' : eV} (h0 : 0 ≤ w) (hw : w ≤ 3000) (hj : jB A D T ρ) (h : evT go gd bd ρ w = .inr (vs, w', s', ρ')) : jB A D T ρ' := by
  cases gd with
  | nil =>
    simp only [evT] at h
    split at h
    · cases h
    · rename_i v1 w1 s1 ρ1 e1
      simp only [Sum.inr.injEq, Prod.mk.injEq] at h
      obtain ⟨-, -, -, rfl⟩ := h
      exact hgo bd (by simp) _ _ _ _ _ _ h0 hw hj e1
  | cons g r =>
    simp only [evT] at h
    split at h
    · cases h
    · rename_i v1 w1 s1 ρ1 e1
      have a := hg _ _ _ _ _ _ _ hw e1
      have b := hgo g (by simp) _ _ _ _ _ _ h0 hw hj e1
      split at h
      · simp only [Sum.inr.injEq, Prod.mk.injEq] at h
        obtain ⟨-, -, -, rfl⟩ := h
        exact b
      · split at h
        · cases h
        · rename_i v2 w2 s2 ρ2 e2
          simp only [Sum.inr.injEq, Prod.mk.injEq] at h
          obtain ⟨-, -, -, rfl⟩ := h
          exact hgo bd (by simp) _ _ _ _ _ _ (by omega) a.2.1 b e2
theorem eP_J {one : Nat → eV → Int → eRs} (ho : ∀ i ρ w vs w' s' ρ', 0 ≤ w → w ≤ 3000 → jB A D T ρ → one i ρ w = .inr (vs, w', s', ρ') → (w ≤ w' ∧ w' ≤ 3000) ∧ jB A D T ρ') : ∀ (k i : Nat) (ρ : eV) (w bs : Int) (acc vs : List vaF) (w' bs' : Int) (ρ' : eV), 0 ≤ w → w ≤ 3000 → jB A D T ρ → eP one k i ρ w bs acc = .inr (vs, w', bs', ρ') → (w ≤ w' ∧ w' ≤ 3000) ∧ jB A D T ρ'
  | 0, i, ρ, w, bs, acc, vs, w', bs', ρ', h0, hw, hj, h => by
    simp only [eP, Sum.inr.injEq, Prod.mk.injEq] at h
    obtain ⟨rfl, rfl, rfl, rfl⟩ := h
    exact ⟨⟨Int.le_refl _, hw⟩, hj⟩
  | k + 1, i, ρ, w, bs, acc, vs, w', bs', ρ', h0, hw, hj, h => by
    simp only [eP] at h
    split at h
    · cases h
    · rename_i vs1 w1 s1 ρ1 e1
      obtain ⟨a1, a2⟩ := ho _ _ _ _ _ _ _ h0 hw hj e1
      obtain ⟨b1, b2⟩ := eP_J ho k (i + 1) ρ1 w1 _ _ vs w' bs' ρ' (by omega) a1.2 a2 h
      exact ⟨⟨by omega, b1.2⟩, b2⟩
theorem ePay_i {r : Int ⊕ (vaF × Int)} {w s : Int} {ρ : eV} {v : vaF} {w' s' : Int} {ρ' : eV} (h : ePay r w s ρ = .inr (v, w', s', ρ')) : ∃ c, r = .inr (v, c) ∧ w + c ≤ 3000 ∧ ρ' = ρ := by
  match r, h with
  | .inl e, h => simp only [ePay] at h; cases h
  | .inr (u, c), h =>
    simp only [ePay] at h
    split at h
    · rename_i hc
      simp only [Sum.inr.injEq, Prod.mk.injEq] at h
      obtain ⟨rfl, -, -, rfl⟩ := h
      exact ⟨c, rfl, hc, rfl⟩
    · cases h
theorem eO_14 {ty x : Int} {vs : List vaF} : eO 14 ty x vs = .inr (mkF vs, cnL (ty - 1).toNat vs) := by
  unfold eO
  simp only
  rw [if_neg (by decide), if_neg (by decide), if_neg (by decide), if_neg (by decide), if_pos trivial]
theorem eO_12 {ty x c : Int} {vs : List vaF} {v : vaF} (h : eO 12 ty x vs = .inr (v, c)) : v = (itF (vs.getD 0 (nmF 0))).getD (vs.getD 1 (nmF 0) []).toNat (nmF 0) := by
  unfold eO at h
  simp only at h
  rw [if_neg (by decide), if_neg (by decide), if_neg (by decide), if_pos trivial] at h
  split at h
  · simp only [Sum.inr.injEq, Prod.mk.injEq] at h
    exact h.1.symm
  · cases h
set_option maxRecDepth 10000 in
theorem evN_J {jd : Nat} (hA : A.1 ≤ 200) (hP6 : ∀ (j : Nat) (x : aDf), D[j]? = some x → x.2.2.1.length ≤ 6) (hc : gB call) (hC : ∀ (q : Nat) (x : aDf), q < jd → D[q]? = some x → ∀ ρ w v w' s' ρ', 0 ≤ w → w ≤ 3000 → jB A D T ρ → call q ρ w = .inr (v, w', s', ρ') → cnvF (T x.2.2.2).toNat v ≤ 3000 ∧ jB A D T ρ') : ∀ (f : Nat) (n : Int) (sc : List (Int × Int)), tyN A (kDl (D.take jd) []) T B f sc n → (∀ p ∈ sc, p.2 = bTy A D T p.1) → ∀ ρ w v w' s' ρ', 0 ≤ w → w ≤ 3000 → jB A D T ρ → evN A T B call f n ρ w = .inr (v, w', s', ρ') → cnvF (T n).toNat v ≤ 3000 ∧ jB A D T ρ'
  | 0, n, sc, hty, hsc, ρ, w, v, w', s', ρ', h0, hw, hj, h => hty.elim
  | f + 1, n, sc, hty, hsc, ρ, w, v, w', s', ρ', h0, hw, hj, h => by
    have ih := evN_J hA hP6 hc hC f
    have gb := eN_b (A := A) (T := T) (B := B) hc f
    have hty0 := hty
    obtain ⟨t1, t2, t3, t4, t5, t6, t7, t8, t9⟩ := hty
    obtain ⟨n1, n2, n3, n4, n5, n6, n7, n8⟩ := id t1
    simp only [evN] at h
    split at h
    rotate_left
    · cases h
    rename_i hw1
    split at h
    · rename_i c1
      simp only [Sum.inr.injEq, Prod.mk.injEq] at h
      obtain ⟨rfl, -, -, rfl⟩ := h
      have e : T n = bTy A D T (B n) := hsc _ (t4 c1)
      exact ⟨by rw [e]; exact hj (B n), hj⟩
    rename_i c1
    have g := t5 c1
    split at h
    · rename_i c2
      obtain ⟨a, b, hk⟩ := kid2 (n3 (Or.inl c2))
      obtain ⟨ta, tb⟩ := t7 c2 a b hk
      rw [show (A.2.2.2.2.1 n).getD 0 0 = a by rw [hk]; rfl, show (A.2.2.2.2.1 n).getD 1 0 = b by rw [hk]; rfl] at h
      rw [kTy_2 c2, hk] at g
      have g' : T b = T n := Option.some.inj g
      split at h
      · cases h
      · rename_i v1 w1 s1 ρ1 e1
        have a1 := gb _ _ _ _ _ _ _ hw1 e1
        obtain ⟨b1, b2⟩ := ih a sc ta hsc _ _ _ _ _ _ (by omega) hw1 hj e1
        split at h
        · cases h
        · rename_i v2 w2 s2 ρ2 e2
          have hb : bTy A D T n = T a := bTy_l hk (by omega)
          obtain ⟨d1, d2⟩ := ih b ((n, T a) :: sc) tb (fun p hp => by
            rcases List.mem_cons.mp hp with q | q
            · rw [q]; exact hb.symm
            · exact hsc p q) _ _ _ _ _ _ (by omega) a1.2.1 (jB_up b2 (by rw [hb]; exact b1)) e2
          simp only [Sum.inr.injEq, Prod.mk.injEq] at h
          obtain ⟨rfl, -, -, rfl⟩ := h
          exact ⟨by rw [← g']; exact d1, d2⟩
    rename_i c2
    split at h
    · rename_i c3
      obtain ⟨a, b, d, hk⟩ : ∃ a b d, A.2.2.2.2.1 n = [a, b, d] := by
        have l3 := n4 c3
        match hh : A.2.2.2.2.1 n with
        | [a, b, d] => exact ⟨a, b, d, rfl⟩
        | [] => rw [hh] at l3; simp at l3
        | [_] => rw [hh] at l3; simp at l3
        | [_, _] => rw [hh] at l3; simp at l3
        | _ :: _ :: _ :: _ :: _ => rw [hh] at l3; simp at l3
      rw [kTy_3 c3, hk] at g
      obtain ⟨g1, g2, g3⟩ := kIs_in g
      simp only [Bool.and_eq_true, decide_eq_true_eq] at g3
      have gb1 : T n = T b := g1
      have gd1 : T b = T d := g3.2
      have tk : ∀ x ∈ [a, b, d], tyN A (kDl (D.take jd) []) T B f sc x := fun x hx => t9 c2 (by omega) x (by rw [hk]; exact hx)
      rw [show (A.2.2.2.2.1 n).getD 0 0 = a by rw [hk]; rfl] at h
      split at h
      · cases h
      · rename_i v1 w1 s1 ρ1 e1
        have a1 := gb _ _ _ _ _ _ _ hw1 e1
        obtain ⟨b1, b2⟩ := ih a sc (tk a (by simp)) hsc _ _ _ _ _ _ (by omega) hw1 hj e1
        split at h
        · cases h
        · rename_i v2 w2 s2 ρ2 e2
          simp only [Sum.inr.injEq, Prod.mk.injEq] at h
          obtain ⟨rfl, -, -, rfl⟩ := h
          by_cases z : v1 [] = 0
          · rw [if_pos z, show (A.2.2.2.2.1 n).getD 2 0 = d by rw [hk]; rfl] at e2
            obtain ⟨d1, d2⟩ := ih d sc (tk d (by simp)) hsc _ _ _ _ _ _ (by omega) a1.2.1 b2 e2
            exact ⟨by rw [gb1, gd1]; exact d1, d2⟩
          · rw [if_neg z, show (A.2.2.2.2.1 n).getD 1 0 = b by rw [hk]; rfl] at e2
            obtain ⟨d1, d2⟩ := ih b sc (tk b (by simp)) hsc _ _ _ _ _ _ (by omega) a1.2.1 b2 e2
            exact ⟨by rw [gb1]; exact d1, d2⟩
    rename_i c3
    split at h
    · rename_i c13
      have tk : ∀ x ∈ A.2.2.2.2.1 n, tyN A (kDl (D.take jd) []) T B f sc x := fun x hx => t9 c2 (by omega) x hx
      obtain ⟨y1, y2, y, y3, y4, y5⟩ := ty_cl hty0 c13
      obtain ⟨q, eq⟩ : ∃ q : Nat, B n = (q : Int) := ⟨(B n).toNat, by omega⟩
      rw [eq] at h y2
      rw [eq, Int.toNat_natCast] at y3
      split at h
      · cases h
      · rename_i vs w1 s1 ρ1 e1
        have a1 := (eS_b gb _ _ _ _ _ _ _ hw1 e1).1
        obtain ⟨b1, b2, b3⟩ := eS_J (P := fun x => tyN A (kDl (D.take jd) []) T B f sc x) gb (fun x hx => ih x sc hx hsc) _ _ _ _ _ _ _ tk (by omega) hw1 hj e1
        split at h
        · cases h
        · rename_i v2 w2 s2 ρ2 e2
          have hj2 : jB A D T (eUs ρ1 (1100 + 6 * (q : Int)) 0 vs) := jB_us vs 0 ρ1 b3 (fun i u hu => by
            have hi := gE_l hu
            have l1 := congrArg List.length y4
            rw [List.length_map, List.length_map] at l1
            have p6 := hP6 q y y3
            obtain ⟨x, hx⟩ : ∃ x, (A.2.2.2.2.1 n)[i]? = some x := ⟨(A.2.2.2.2.1 n)[i]'(by omega), List.getElem?_eq_getElem _⟩
            obtain ⟨p, hp⟩ : ∃ p, y.2.2.1[i]? = some p := ⟨y.2.2.1[i]'(by omega), List.getElem?_eq_getElem _⟩
            have m := congrArg (fun l : List Int => l[i]?) y4
            simp only [List.getElem?_map, hx, hp, Option.map_some, Option.some.injEq] at m
            rw [Nat.zero_add, bTy_p y3 hp (by omega), ← m]
            exact b2 i u x hu hx)
          obtain ⟨d1, d2⟩ := hC q y (by omega) y3 _ _ _ _ _ _ (by omega) a1.2.1 hj2 e2
          simp only [Sum.inr.injEq, Prod.mk.injEq] at h
          obtain ⟨rfl, -, -, rfl⟩ := h
          exact ⟨by rw [y5]; exact d1, d2⟩
    rename_i c13
    split at h
    · rename_i c15
      have l7 := n7 c15
      obtain ⟨bd, tl, hk⟩ : ∃ bd tl, A.2.2.2.2.1 n = bd :: tl := by
        match hh : A.2.2.2.2.1 n with
        | bd :: tl => exact ⟨bd, tl, rfl⟩
        | [] => rw [hh] at l7; simp only [List.length_nil] at l7; omega
      obtain ⟨u1, u2⟩ := t8 c15 bd tl hk
      have eg : kGs A n = tl.take (A.2.2.2.2.2 n).length := by unfold kGs; rw [hk]; rfl
      have ed : (A.2.2.2.2.1 n).drop (1 + (A.2.2.2.2.2 n).length) = tl.drop (A.2.2.2.2.2 n).length := by rw [hk, Nat.add_comm, List.drop_succ_cons]
      rw [eg, ed, show (A.2.2.2.2.1 n).getD 0 0 = bd by rw [hk]; rfl] at h
      rw [kTy_15 c15, hk] at g
      obtain ⟨g1, g2, g3⟩ := kIs_in g
      have gn : T n = T bd + 1 := g1
      have tbd : 0 ≤ T bd := by
        have tb := u2 bd (by simp)
        cases f with
        | zero => exact tb.elim
        | succ f => exact tb.2.2.1.1
      split at h
      · cases h
      · rename_i vs w1 s1 ρ1 e1
        have a1 := (eS_b gb _ _ _ _ _ _ _ hw1 e1).1
        obtain ⟨b1, b2, b3⟩ := eS_J (P := fun x => tyN A (kDl (D.take jd) []) T B f sc x) gb (fun x hx => ih x sc hx hsc) _ _ _ _ _ _ _ (fun x hx => (u1 x hx).1) (by omega) hw1 hj e1
        have sc2 : ∀ p ∈ gsc n T 0 (tl.take (A.2.2.2.2.2 n).length) ++ sc, p.2 = bTy A D T p.1 := fun p hp => by
          rcases List.mem_append.mp hp with z | z
          · have key : ∀ (xs : List Int) (j : Nat), (∀ (i : Nat) (x : Int), xs[i]? = some x → tl[j + i]? = some x ∧ j + i < 4) → ∀ p ∈ gsc n T j xs, p.2 = bTy A D T p.1 := fun xs => by
              induction xs with
              | nil => exact fun j _ p hp => by cases hp
              | cons x r ihr =>
                intro j hx p hp
                simp only [gsc] at hp
                rcases List.mem_cons.mp hp with w | w
                · obtain ⟨v1, v2⟩ := hx 0 x rfl
                  rw [w]
                  exact (bTy_g hk v1 (by omega) (by omega)).symm
                · exact ihr (j + 1) (fun i y hy => by
                    have := hx (i + 1) y (by rw [List.getElem?_cons_succ]; exact hy)
                    rw [show j + 1 + i = j + (i + 1) by omega]
                    exact this) p w
            refine key _ 0 (fun i x hx => ?_) p z
            have hi := gE_l hx
            rw [List.length_take] at hi
            rw [List.getElem?_take, if_pos (by omega)] at hx
            rw [Nat.zero_add]
            exact ⟨hx, by omega⟩
          · exact hsc p z
        split at h
        · cases h
        split at h
        · cases h
        · rename_i acc w2 bs ρ2 e2
          obtain ⟨d1, d2⟩ := eP_J (fun i ρ w vs' w' s' ρ' z0 zw zj ze => by
            refine ⟨⟨(evT_b gb zw ze).1.1, (evT_b gb zw ze).1.2.1⟩, evT_J gb (fun x hx ρ w v w' s' ρ' y0 yw yj ye => (ih x _ (u2 x hx) sc2 ρ w v w' s' ρ' y0 yw yj ye).2) z0 zw ?_ ze⟩
            refine jB_us _ 0 ρ zj (fun j u hu => ?_)
            rw [List.getElem?_map] at hu
            obtain ⟨v0, hv0⟩ : ∃ v0, vs[j]? = some v0 := by
              cases hv : vs[j]? with
              | none => rw [hv] at hu; cases hu
              | some v0 => exact ⟨v0, rfl⟩
            rw [hv0, Option.map_some] at hu
            have hu' := (Option.some.inj hu).symm
            have hj' := gE_l hv0
            rw [b1] at hj'
            obtain ⟨x, hx⟩ : ∃ x, (tl.take (A.2.2.2.2.2 n).length)[j]? = some x := ⟨_, List.getElem?_eq_getElem hj'⟩
            have bx := b2 j v0 x hv0 hx
            have px := (u1 x (List.mem_of_getElem? hx)).2
            rw [List.length_take] at hj'
            rw [List.getElem?_take, if_pos (by omega)] at hx
            rw [Nat.zero_add, bTy_g hk hx (by omega) (by omega), hu']
            refine it_cn ?_
            rw [show (T x - 1).toNat + 1 = (T x).toNat by omega]
            exact bx) _ _ _ _ _ _ _ _ _ _ (by omega) a1.2.1 b3 e2
          obtain ⟨c, p1, p2, p3⟩ := ePay_i h
          simp only [Sum.inr.injEq, Prod.mk.injEq] at p1
          obtain ⟨rfl, rfl⟩ := p1
          refine ⟨?_, by rw [p3]; exact d2⟩
          rw [show (T n).toNat = (T n - 1).toNat + 1 by omega, cnF_mk]
          omega
    rename_i c15
    split at h
    · cases h
    · rename_i vs w1 s1 ρ1 e1
      have tk : ∀ x ∈ A.2.2.2.2.1 n, tyN A (kDl (D.take jd) []) T B f sc x := fun x hx => t9 c2 c15 x hx
      have a1 := (eS_b gb _ _ _ _ _ _ _ hw1 e1).1
      obtain ⟨b1, b2, b3⟩ := eS_J (P := fun x => tyN A (kDl (D.take jd) []) T B f sc x) gb (fun x hx => ih x sc hx hsc) _ _ _ _ _ _ _ tk (by omega) hw1 hj e1
      obtain ⟨c, p1, p2, p3⟩ := ePay_i h
      refine ⟨?_, by rw [p3]; exact b3⟩
      have z0 : T n = 0 → cnvF (T n).toNat v ≤ 3000 := fun z => by
        rw [z]
        show (0 : Int) ≤ 3000
        decide
      by_cases c0 : A.2.1 n = 0
      · rw [kTy_0 c0] at g
        exact z0 (Option.some.inj g).symm
      by_cases c14 : A.2.1 n = 14
      · rw [kTy_14 c14] at g
        obtain ⟨g1, g2, g3⟩ := kIs_in g
        have pos : 0 ≤ ((A.2.2.2.2.1 n).map T).getD 0 0 := by
          cases hh : A.2.2.2.2.1 n with
          | nil => exact Int.le_refl _
          | cons x r =>
            have tx := tk x (by rw [hh]; simp)
            cases f with
            | zero => exact tx.elim
            | succ f => exact tx.2.2.1.1
        rw [c14, eO_14] at p1
        simp only [Sum.inr.injEq, Prod.mk.injEq] at p1
        obtain ⟨rfl, rfl⟩ := p1
        rw [show (T n).toNat = (T n - 1).toNat + 1 by omega, cnF_mk]
        omega
      have tt := kTy_o (A := A) (ds := kDl (D.take jd) []) (T := T) (n := n) (ty := T n) (ts := (A.2.2.2.2.1 n).map T) (by rw [List.length_map]; exact t1) g (by omega) c13 c14 c15 (fun x hx => by
        obtain ⟨y, hy, rfl⟩ := List.mem_map.mp hx
        have ty := tk y hy
        cases f with
        | zero => exact ty.elim
        | succ f => exact ty.2.2.1.1)
      by_cases c12 : A.2.1 n = 12
      · have l2 := n3 (Or.inr (Or.inr c12))
        obtain ⟨a, b, hk⟩ := kid2 l2
        rw [c12] at p1
        have ev := eO_12 p1
        rw [hk] at b1 b2 tt
        obtain ⟨v0, hv0⟩ : ∃ v0, vs[0]? = some v0 := ⟨vs[0]'(by rw [b1]; simp), List.getElem?_eq_getElem _⟩
        have bv := b2 0 v0 a hv0 rfl
        have tn : T n = T a - 1 ∧ 0 < T a := by
          rcases tt with ⟨q, -⟩ | ⟨-, q⟩
          · simp at q
          · unfold op2 at q
            have e0 : ([a, b].map T).getD 0 0 = T a := rfl
            rw [e0] at q
            omega
        have e0 : vs.getD 0 (nmF 0) = v0 := by rw [List.getD_eq_getElem?_getD, hv0, Option.getD_some]
        rw [ev, e0]
        refine it_cn ?_
        rw [show (T n).toNat + 1 = (T a).toNat by omega]
        exact bv
      have tn : T n = 0 ∨ (16 ≤ A.2.1 n ∧ ¬ (A.2.1 n = 18 ∨ A.2.1 n = 19 ∨ A.2.1 n = 20) ∧ 1 ≤ T n ∧ (A.2.1 n = 16 ∨ A.2.1 n = 21 → T n = 1)) := by
        have t0 := t3.1
        rcases tt with ⟨-, q⟩ | ⟨-, q⟩
        · unfold op1 at q
          omega
        · unfold op2 at q
          have p0 : 0 ≤ ((A.2.2.2.2.1 n).map T).getD 0 0 := by
            cases hh : A.2.2.2.2.1 n with
            | nil => exact Int.le_refl _
            | cons x r =>
              have tx := tk x (by rw [hh]; simp)
              cases f with
              | zero => exact tx.elim
              | succ f => exact tx.2.2.1.1
          omega
      rcases tn with z | ⟨z1, z2, z3, z4⟩
      · exact z0 z
      · rcases eO_g (A.2.1 n) (T n) (sg_n (A.2.2.2.1 n)) vs with ⟨e, q1, q2⟩ | ⟨u, c', q1, q2, q3⟩
        · rw [q1] at p1; cases p1
        · rw [q1] at p1
          simp only [Sum.inr.injEq, Prod.mk.injEq] at p1
          obtain ⟨rfl, rfl⟩ := p1
          rw [← q3 z1 z2 z3 z4]
          omega
set_option maxRecDepth 10000 in
theorem eC_J (hA : A.1 ≤ 200) (hP6 : ∀ (j : Nat) (x : aDf), D[j]? = some x → x.2.2.1.length ≤ 6) (hD : ∀ (j : Nat) (x : aDf), D[j]? = some x → tyN A (kDl (D.take j) []) T B 201 (scZ (kPe x) (kPb j 0 x.2.2.1 [])) x.2.2.2) : ∀ (q k : Nat) (x : aDf), q < k → D[q]? = some x → ∀ ρ w v w' s' ρ', 0 ≤ w → w ≤ 3000 → jB A D T ρ → eC A D T B k q ρ w = .inr (v, w', s', ρ') → cnvF (T x.2.2.2).toNat v ≤ 3000 ∧ jB A D T ρ' := by
  intro q
  induction q using Nat.strongRecOn with
  | ind q ih =>
    intro k x hqk hx ρ w v w' s' ρ' h0 hw hj h
    rw [eC_e A D T B k q hqk, List.getD_eq_getElem?_getD, hx, Option.getD_some] at h
    refine evN_J (jd := q) hA hP6 (eC_b A D T B q) (fun q' x' hq' hx' => ih q' hq' q x' hq' hx') 201 x.2.2.2 _ (hD q x hx) (fun p hp => ?_) ρ w v w' s' ρ' h0 hw hj h
    have hp' : p ∈ scZ (x.2.2.1.reverse.map (fun p => (p.1, p.2.2)) ++ []) (kPb (q : Int) 0 x.2.2.1 []) := by rw [List.append_nil]; exact hp
    rcases scZ_p x.2.2.1 0 [] [] p hp' with ⟨j, y, hy, rfl⟩ | z
    · have l6 := hP6 q x hx
      have hl := gE_l hy
      simp only [Nat.zero_add]
      exact (bTy_p hx hy (by clear h; omega)).symm
    · simp [scZ] at z
/-- what a PROGRAM comes to counts little -/
theorem ev_J (hA : A.1 ≤ 200) (hP6 : ∀ (j : Nat) (x : aDf), D[j]? = some x → x.2.2.1.length ≤ 6) (hD : ∀ (j : Nat) (x : aDf), D[j]? = some x → tyN A (kDl (D.take j) []) T B 201 (scZ (kPe x) (kPb j 0 x.2.2.1 [])) x.2.2.2) {r : Int} (hr : tyN A (kDl D []) T B 201 [] r) {v : vaF} {w' s' : Int} {ρ' : eV} (h : evN A T B (eC A D T B D.length) 201 r (fun _ => nmF 0) 0 = .inr (v, w', s', ρ')) : cnvF (T r).toNat v ≤ 3000 := by
  have hr' : tyN A (kDl (D.take D.length) []) T B 201 [] r := by rw [List.take_of_length_le (Nat.le_refl _)]; exact hr
  exact (evN_J (jd := D.length) hA hP6 (eC_b A D T B D.length) (fun q x hq hx => eC_J hA hP6 hD q D.length x hq hx) 201 r [] hr' (fun p hp => by cases hp) (fun _ => nmF 0) 0 v w' s' ρ' (by decide) (by decide) jB_0 h).1
end CNJ
