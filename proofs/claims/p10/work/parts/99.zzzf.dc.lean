/-! BIG STEPS of the class's flat run, exactly: all nodes; LEAVE. -/
section DCA
variable {σ : sg_S} {A : aT} {D : List aDf} {vb : Int → Prop} {X : sg_S → Prop} {B : Int → Int} {lev : Int → Nat} {O : Int → Nat → List Int} {call : Int → Nat → fEv → fSt → fRs} {j : Nat} {nl dix : Int}
theorem yN_all (hD : dDy σ A D vb lev X call nl dix) (hdj : dix ≤ (j : Int)) (hW : ckW σ A) (hSl : slA σ vb) (hVb : ∀ b, vbF A D b → vb b) (hO : okO A B O) (hOs : ∀ n st, ((O n st).map (slF σ)).Pairwise (· < ·)) (hnl : 0 ≤ nl) (hP : ∀ f, fPu A D (sg_g σ 6) B lev O call j f) : ∀ f, yN σ A D vb X B lev O call j nl dix f
  | 0 => fun n L es sc b b' p h hst => hst.1.elim
  | f + 1 => fun n L es sc b b' p h hst hL hg hsc hsl hh hp hb σ8 m ρ t sv c cr N s h8 h9 hS ht hv hm hcr k => by
    obtain ⟨L1, L2, e1, w1, w2, w3⟩ := fT_inv hst.2.1
    have e2 := fT_nil w3
    subst e2
    rw [List.append_nil] at e1
    subst e1
    have F := yN_all hD hdj hW hSl hVb hO hOs hnl hP f
    have r := w1.1
    by_cases c2 : A.2.1 n = 2
    · exact yN_let hW hSl hVb hnl (hP f) F c2 w2 hst hL hg hsc hsl hh hp hb h8 h9 hS ht hv hm hcr k
    by_cases c3 : A.2.1 n = 3
    · exact yN_if hW hSl hO hOs hnl (hP f) F c3 w2 hst hL hg hsc hsl hh hp hb h8 h9 hS ht hv hm hcr k
    by_cases c13 : A.2.1 n = 13
    · exact yN_call hD hdj hW hSl hVb hnl (hP f) F c13 w2 hst hL hg hsc hsl hh hp hb h8 h9 hS ht hv hm hcr k
    by_cases c15 : A.2.1 n = 15
    · exact yN_each hW hSl hVb hO hOs hnl (hP f) F c15 w2 hst hL hg hsc hsl hh hp hb h8 h9 hS ht hv hm hcr k
    exact yN_op hW hSl hnl (hP f) F (by omega) w2 hst hL hg hsc hsl hh hp hb h8 h9 hS ht hv hm hcr k
/-- LEAVE -/
theorem zy_leave {σ8 : sg_S} {m N : Nat} {t sv c p q r : Int} {s : fSt} {C : List (Int × Int)} (h : bP σ σ8 t sv N c p) (hs : ctX σ8 s) (hp : pl σ p ((6, q) :: C)) (hq : 0 ≤ q ∧ q < 13) (h63 : sg_g σ8 63 q = r) (kk : ∀ σ', bP σ σ' t sv N c r → ctX σ' s → sg_F [9061] σ8 σ' → Ry σ X m σ') : Ry σ X (m + 1) σ8 := by
  obtain ⟨p0, p1, p2, p3⟩ := pl_c hp
  refine ry_6 (p := p) (k := q) h.2.2.1.2.2.2 p0 h.2.1.2.2.1 p1 p2 (fun σ32 e32 σ95 e95 => ?_)
  obtain ⟨h32, f32⟩ := bP_32 h ⟨p0.2, p0.1⟩ e32
  obtain ⟨a1, a2, ⟨a3, a4, a5, a6⟩, a7, a8, a9, a10⟩ := id h32
  rw [xa_in (a := 63) hq, h63] at e95
  have f95 : sg_F [9061] σ32 σ95 := by rw [e95]; exact sg_F_w (sg_F_r _ _) rfl _
  have F : sg_F [9061] σ8 σ95 := sg_F_t f32 f95
  have rr : sg_R r := by rw [← h63]; exact sg_Rg _ _ _
  exact kk σ95 ⟨sg_F_t a1 (sg_F_m f95 rfl), mC_F a2 f95 rfl, ⟨by rw [sg_F_g f95 (by rfl)]; exact a3, by rw [sg_F_g f95 (by rfl)]; exact a4, by rw [sg_F_g f95 (by rfl)]; exact a5, by rw [e95, sg_gw_e _ _ _ _ rr]⟩, a7, a8, a9, a10⟩ (ctX_F F rfl hs) F
end DCA
/-! the order in which variables are carried along does not matter for what a run comes to. -/
def r8 : (Int × fSt) ⊕ (fSt × fEv) → (Int × fSt) ⊕ (fSt × fEv) → Prop
  | .inl a, .inl b => a.1 = b.1
  | .inr a, .inr b => a = b
  | .inl _, .inr _ => False
  | .inr _, .inl _ => False
theorem r8_t {a b c : (Int × fSt) ⊕ (fSt × fEv)} (h : r8 a b) (g : r8 b c) : r8 a c := by
  cases a with
  | inl a => cases b with
    | inl b => cases c with
      | inl c => exact (show a.1 = b.1 from h).trans g
      | inr c => exact g
    | inr b => exact False.elim h
  | inr a => cases b with
    | inl b => exact False.elim h
    | inr b => cases c with
      | inl c => exact g
      | inr c => exact (show a = b from h).trans g
theorem ex_0 (d : Nat) (l : List vaF) : 0 ≤ exF d l := by
  have := exF_n d l
  omega
theorem fCa_pm {ty : Int → Int} {ks : List Nat} {l l' : List Int} (h : l.Perm l') : l.Nodup → ∀ s ρ, r8 (fCa ty ks l s ρ) (fCa ty ks l' s ρ) := by
  induction h with
  | nil => intro _ s ρ; exact rfl
  | cons x h ih =>
    intro hn s ρ
    simp only [fCa]
    cases fStp (exF (ty x).toNat (fPk (ρ x) ks)) s with
    | none => exact rfl
    | some s1 => exact ih (List.nodup_cons.mp hn).2 s1 _
  | swap x y l =>
    intro hn s ρ
    have ne : ¬ y = x := fun e => (List.nodup_cons.mp hn).1 (by rw [e]; simp)
    have ne' : ¬ x = y := fun e => ne e.symm
    have cx := ex_0 (ty x).toNat (fPk (ρ x) ks)
    have cy := ex_0 (ty y).toNat (fPk (ρ y) ks)
    simp only [fCa, if_neg ne, if_neg ne']
    have ee : (fun z => if z = x then fPk (ρ x) ks else if z = y then fPk (ρ y) ks else ρ z) = (fun z => if z = y then fPk (ρ y) ks else if z = x then fPk (ρ x) ks else ρ z) := by
      funext z
      by_cases a : z = x
      · rw [if_pos a, if_neg (fun w => ne (by rw [← w, a])), if_pos a]
      · rw [if_neg a]
        by_cases b : z = y
        · rw [if_pos b, if_pos b]
        · rw [if_neg b, if_neg b, if_neg a]
    rw [ee]
    generalize exF (ty x).toNat (fPk (ρ x) ks) = cx' at *
    generalize exF (ty y).toNat (fPk (ρ y) ks) = cy' at *
    obtain ⟨s1, s2, s3⟩ := s
    unfold fStp
    by_cases a : s1 = 2000 ∨ s1 + 1 = 2000 ∨ 6000 < s2 + cx' + cy'
    · have z : ∀ u v : Int, 0 ≤ u → 0 ≤ v → s2 + u + v = s2 + cx' + cy' → ∀ g : fSt → (Int × fSt) ⊕ (fSt × fEv), ∃ q : Int × fSt, q.1 = 8 ∧ (match (if (s1, s2, s3).1 = 2000 ∨ 6000 < (s1, s2, s3).2.1 + u then none else some ((s1, s2, s3).1 + 1, (s1, s2, s3).2.1 + u, (s1, s2, s3).2.2)) with
          | none => .inl (8, (s1, s2, s3))
          | some t1 => match (if t1.1 = 2000 ∨ 6000 < t1.2.1 + v then none else some (t1.1 + 1, t1.2.1 + v, t1.2.2)) with
            | none => .inl (8, t1)
            | some t2 => g t2) = (.inl q : (Int × fSt) ⊕ (fSt × fEv)) := fun u v hu hv e g => by
        by_cases w : s1 = 2000 ∨ 6000 < s2 + u
        · exact ⟨(8, (s1, s2, s3)), rfl, by simp only [if_pos w]⟩
        · refine ⟨(8, (s1 + 1, s2 + u, s3)), rfl, ?_⟩
          simp only [if_neg w]
          rw [if_pos (show s1 + 1 = 2000 ∨ 6000 < s2 + u + v by omega)]
      obtain ⟨q1, e1, f1⟩ := z cy' cx' cy cx (by omega) (fun t2 => fCa ty ks l t2 (fun z => if z = y then fPk (ρ y) ks else if z = x then fPk (ρ x) ks else ρ z))
      obtain ⟨q2, e2, f2⟩ := z cx' cy' cx cy rfl (fun t2 => fCa ty ks l t2 (fun z => if z = y then fPk (ρ y) ks else if z = x then fPk (ρ x) ks else ρ z))
      have w : r8 (.inl q1) (.inl q2) := e1.trans e2.symm
      exact Eq.mp (congr (congrArg r8 f1.symm) f2.symm) w
    · simp only [if_neg (show ¬ (s1 = 2000 ∨ 6000 < s2 + cx') by omega), if_neg (show ¬ (s1 = 2000 ∨ 6000 < s2 + cy') by omega), if_neg (show ¬ (s1 + 1 = 2000 ∨ 6000 < s2 + cx' + cy') by omega), if_neg (show ¬ (s1 + 1 = 2000 ∨ 6000 < s2 + cy' + cx') by omega)]
      rw [show s2 + cy' + cx' = s2 + cx' + cy' by omega]
      cases fCa ty ks l (s1 + 1 + 1, s2 + cx' + cy', s3) (fun z => if z = y then fPk (ρ y) ks else if z = x then fPk (ρ x) ks else ρ z) with
      | inl a => exact rfl
      | inr a => exact rfl
  | trans h1 h2 i1 i2 => intro hn s ρ; exact r8_t (i1 hn s ρ) (i2 (h1.nodup_iff.mp hn) s ρ)
