/-! BIG STEPS of the class's flat run, exactly: all nodes; LEAVE. -/
section DCA
variable {σ : sg_S} {A : aT} {D : List aDf} {vb : Int → Prop} {X : sg_S → Prop} {B : Int → Int} {lev : Int → Nat} {O : Int → Nat → List Int} {call : Int → Nat → fEv → fSt → fRs} {j : Nat} {nl dix : Int}
theorem yN_all (hD : dDy σ A D vb lev X call nl dix) (hdj : dix ≤ (j : Int)) (hW : ckW σ A) (hSl : slA σ vb) (hVb : ∀ b, vbF A D b → vb b) (hO : okO A B O) (hOs : ∀ n st, ((O n st).map (slF σ)).Pairwise (· < ·)) (hnl : 0 ≤ nl) (hP : ∀ f, fPu A D (sg_g σ 6) B lev O call j f) : ∀ f, yN σ A D vb X B lev O call j nl dix f
  | 0 => fun n L es sc b b' p h hst => hst.1.elim
  | f + 1 => fun n L es sc b b' p h hst hL hg hsc hsl hh hp hb σ8 m ρ t sv c cr N s h8 h9 hS ht hv hm hcr k => by
    obtain ⟨L1, L2, e1, w1, w2, w3⟩ := fT_inv hst.2.1
    have e2 := fT_nil w3
    subst e2
    rw [List.append_nil] at e1
    subst e1
    have F := yN_all hD hdj hW hSl hVb hO hOs hnl hP f
    have r := w1.1
    by_cases c2 : A.2.1 n = 2
    · exact yN_let hW hSl hVb hnl (hP f) F c2 w2 hst hL hg hsc hsl hh hp hb h8 h9 hS ht hv hm hcr k
    by_cases c3 : A.2.1 n = 3
    · exact yN_if hW hSl hO hOs hnl (hP f) F c3 w2 hst hL hg hsc hsl hh hp hb h8 h9 hS ht hv hm hcr k
    by_cases c13 : A.2.1 n = 13
    · exact yN_call hD hdj hW hSl hVb hnl (hP f) F c13 w2 hst hL hg hsc hsl hh hp hb h8 h9 hS ht hv hm hcr k
    by_cases c15 : A.2.1 n = 15
    · exact yN_each hW hSl hVb hO hOs hnl (hP f) F c15 w2 hst hL hg hsc hsl hh hp hb h8 h9 hS ht hv hm hcr k
    exact yN_op hW hSl hnl (hP f) F (by omega) w2 hst hL hg hsc hsl hh hp hb h8 h9 hS ht hv hm hcr k
/-- LEAVE -/
theorem zy_leave {σ8 : sg_S} {m N : Nat} {t sv c p q r : Int} {s : fSt} {C : List (Int × Int)} (h : bP σ σ8 t sv N c p) (hs : ctX σ8 s) (hp : pl σ p ((6, q) :: C)) (hq : 0 ≤ q ∧ q < 13) (h63 : sg_g σ8 63 q = r) (kk : ∀ σ', bP σ σ' t sv N c r → ctX σ' s → sg_F [9061] σ8 σ' → Ry σ X m σ') : Ry σ X (m + 1) σ8 := by
  obtain ⟨p0, p1, p2, p3⟩ := pl_c hp
  refine ry_6 (p := p) (k := q) h.2.2.1.2.2.2 p0 h.2.1.2.2.1 p1 p2 (fun σ32 e32 σ95 e95 => ?_)
  obtain ⟨h32, f32⟩ := bP_32 h ⟨p0.2, p0.1⟩ e32
  obtain ⟨a1, a2, ⟨a3, a4, a5, a6⟩, a7, a8, a9, a10⟩ := id h32
  rw [xa_in (a := 63) hq, h63] at e95
  have f95 : sg_F [9061] σ32 σ95 := by rw [e95]; exact sg_F_w (sg_F_r _ _) rfl _
  have F : sg_F [9061] σ8 σ95 := sg_F_t f32 f95
  have rr : sg_R r := by rw [← h63]; exact sg_Rg _ _ _
  exact kk σ95 ⟨sg_F_t a1 (sg_F_m f95 rfl), mC_F a2 f95 rfl, ⟨by rw [sg_F_g f95 (by rfl)]; exact a3, by rw [sg_F_g f95 (by rfl)]; exact a4, by rw [sg_F_g f95 (by rfl)]; exact a5, by rw [e95, sg_gw_e _ _ _ _ rr]⟩, a7, a8, a9, a10⟩ (ctX_F F rfl hs) F
end DCA
