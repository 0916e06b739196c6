/-! THE WALK of the checker in big steps. -/
def kStp (σ σ15 : sg_S) (v13 : Int) (P41 : Int → sg_S → Prop) : Prop := (((sx_at σ15 44 200 (v13)) < (sx_at σ 10 200 (v13)) → V_kAhead σ15 (v13) ((sx_at σ15 44 200 (v13))) (fun σ50 => sg_F [16, 29, 30, 32, 33, 34, 39, 40, 7028, 10038, 11038, 13038, 14038] σ15 σ50 → sg_R ((sx_at σ15 44 200 (v13)) + 1) ∧ ∀ σ56, σ56 = (sx_put σ50 44 200 (v13) (((sx_at σ15 44 200 (v13)) + 1))) → ∀ σ59, σ59 = (sx_put σ56 43 200 (v13) ((sx_at σ 9 200 ((sx_at σ15 43 200 (v13)))))) → ∀ σ62, σ62 = (sx_put σ59 42 200 ((sx_at σ15 43 200 (v13))) (v13)) → V_kEnter σ62 ((sx_at σ15 43 200 (v13))) (fun σ66 => sg_F [16, 29, 30, 32, 33, 41, 43, 44, 7028] σ62 σ66 → P41 ((sx_at σ15 43 200 (v13))) σ66))) ∧ ((sx_at σ 10 200 (v13)) ≤ (sx_at σ15 44 200 (v13)) → V_kLeave σ15 (v13) (fun σ72 => sg_F [6, 16, 29, 30, 32, 33, 7028, 10038, 13038, 14038] σ15 σ72 → P41 ((sx_at σ15 42 200 (v13))) σ72)))
/-- m turns are left, and the walk stands at k -/
def kWk (σ : sg_S) (X : sg_S → Prop) : Nat → Int → sg_S → Prop
  | 0, k, σ15 => (k < 0 → X σ15) ∧ (¬ sg_g σ15 38 13 = 0 → X σ15) ∧ (0 ≤ k → sg_g σ15 38 13 = 0 → False)
  | m + 1, k, σ15 => (k < 0 → X σ15) ∧ (¬ sg_g σ15 38 13 = 0 → X σ15) ∧ (0 ≤ k → sg_g σ15 38 13 = 0 → kStp σ σ15 k (kWk σ X m))
abbrev kwL : List Nat := [6, 16, 29, 30, 31, 32, 33, 34, 39, 40, 41, 42, 43, 44, 7028, 10038, 11038, 13038, 14038]
theorem kWk_f {σ σ15 : sg_S} {X : sg_S → Prop} {m : Nat} {k : Int} (hX : X σ15) (h : ¬ sg_g σ15 38 13 = 0) : kWk σ X m k σ15 := by
  cases m with
  | zero => exact ⟨fun _ => hX, fun _ => hX, fun _ z => absurd z h⟩
  | succ m => exact ⟨fun _ => hX, fun _ => hX, fun _ z => absurd z h⟩
section WK2
variable {σ : sg_S} {A : aT} {X : sg_S → Prop}
/-- a part is entered -/
theorem w_push {σ15 : sg_S} {m : Nat} {n x e b p : Int} {s : Nat} {es R : List Int} (hX : ∀ σ', ¬ sg_g σ' 38 13 = 0 → X σ') (h : ckW σ A) (f : sg_F kwL σ σ15) (hn : 0 ≤ n ∧ n < A.1) (hw : nW A n) (hd : (kOrd A n).drop s = x :: R) (hS : kS σ15 es e b p) (h44 : sg_g σ15 44 n = s) (h43 : sg_g σ15 43 n = x) (ht : ∀ y ∈ (kOrd A n).take s, kIn (sg_g σ15 6 y)) (hxn : ¬ x = n) (he : e + (bA A n s b - b) ≤ 272) (hb : bA A n s b ≤ 272) (hp : p + (ahd A n s).length + 1 ≤ 1013) (k : ∀ σ', sg_F kwL σ σ' → kS σ' (esA A n s es b) (e + (bA A n s b - b)) (bA A n s b) (p + (ahd A n s).length + 1) → kU σ15 σ' e b p [n, x] → (sg_g σ' 41 n = sg_g σ15 41 n ∧ sg_g σ' 42 n = sg_g σ15 42 n ∧ sg_g σ' 42 x = n) → (sg_g σ' 44 n = s + 1 ∧ ∀ y, R.head? = some y → sg_g σ' 43 n = y) → pC σ' p (ahd A n s) → (sg_g σ' 29 (p + (ahd A n s).length) = 0 ∧ sg_g σ' 30 (p + (ahd A n s).length) = x) → cA σ' A n s b → (kNo A n s → sg_g σ' 16 n = sg_g σ15 16 n) → sg_g σ' 16 x = bA A n s b → (sg_g σ' 43 x = sg_g σ 7 x ∧ sg_g σ' 44 x = 0 ∧ sg_g σ' 41 x = e + (bA A n s b - b)) → (A.2.1 n = 15 → s = (A.2.2.2.2.2 n).length → ∀ y ∈ kGs A n, 0 < sg_g σ' 6 y) → kWk σ X m x σ') : kWk σ X (m + 1) n σ15 := by
  have hA := h.1
  have hsl : s < (kOrd A n).length := by
    rcases Nat.lt_or_ge s (kOrd A n).length with q | q
    · exact q
    · rw [List.drop_of_length_le q] at hd; cases hd
  have hx : (kOrd A n)[s]? = some x := by rw [← List.head?_drop, hd]; rfl
  obtain ⟨p0, p1, p2, p3, p4, p5, p6⟩ := ckW_p h hn
  have h15 := ckW_F h f rfl
  have xr := p6 x (List.mem_of_getElem? hx)
  have kl := kOrd_len A n
  have n200 : 0 ≤ n ∧ n < 200 := by omega
  have k200 : (kOrd A n).length ≤ 200 := by
    have := (h.2.2 n hn.1 hn.2).1.2.2.2.1.2.2.2
    rw [p0] at this
    rcases wit_len (f := id) (a := 0) (b := 199) this.1 (fun x hx => ⟨x, (this.2 x hx).1, by have := (this.2 x hx).2; omega, rfl⟩) with z | z
    · omega
    · rw [z]; exact Nat.zero_le _
  refine ⟨fun z => by omega, fun z => absurd hS.1 z, fun _ _ => ?_⟩
  unfold kStp
  rw [xa_in (a := 44) n200, xa_in (a := 43) n200, xa_in (a := 10) n200, h44, h43, p2, xa_in (a := 9) xr]
  refine ⟨fun _ => ?_, fun z => by omega⟩
  refine d_ahead h15 hn hw hsl hS ht he hb (by omega) (fun σ' z _ => ?_) (fun σ50 y1 y2 y3 y4 y5 y6 y7 _ => ⟨⟨by omega, by omega⟩, fun σ56 e56 σ59 e59 σ62 e62 => ?_⟩)
  · refine ⟨⟨by omega, by omega⟩, fun σ56 e56 σ59 e59 σ62 e62 => ?_⟩
    have f62 : sg_F [42, 43, 44] σ' σ62 := by rw [e62, e59, e56]; exact xF_p (xF_p (xF_p (sg_F_r _ _) rfl _ _ _) rfl _ _ _) rfl _ _ _
    have z' : ¬ sg_g σ62 38 13 = 0 := by rw [sg_F_g f62 (by rfl)]; exact z
    unfold V_kEnter
    exact ⟨fun q => absurd q z', fun _ _ => kWk_f (hX σ62 z') z'⟩
  · rw [xp_in n200] at e56 e59
    rw [xp_in xr] at e62
    have f62 : sg_F [42, 43, 44] σ50 σ62 := by rw [e62, e59, e56]; exact sg_F_w (sg_F_w (sg_F_w (sg_F_r _ _) rfl _) rfl _) rfl _
    have S62 : kS σ62 (esA A n s es b) (e + (bA A n s b - b)) (bA A n s b) (p + (ahd A n s).length) := by
      obtain ⟨s1, ⟨s2, s3, s4⟩, s5, s6⟩ := y1
      exact ⟨by rw [sg_F_g f62 (by rfl)]; exact s1, ⟨by rw [sg_F_g f62 (by rfl)]; exact s2, by rw [sg_F_g f62 (by rfl)]; exact s3, by rw [sg_F_g f62 (by rfl)]; exact s4⟩, fun i a c => by rw [sg_F_ga f62 rfl]; exact s5 i a c, s6⟩
    refine d_enter xr S62 (by omega) (fun σ66 z1 z2 z3 z4 z5 z6 _ => ?_)
    have nx : ¬ n = x := fun z => hxn z.symm
    have g44 : sg_g σ66 44 n = s + 1 := by
      rw [(z3.1 n (by simpa using nx)).2.2.2.2, e62, sg_gw_c _ _ _ _ _ _ (by decide), e59, sg_gw_c _ _ _ _ _ _ (by decide), e56, sg_gw_e _ _ _ _ ⟨by omega, by omega⟩]
    have g43 : sg_g σ66 43 n = sg_g σ 9 x := by
      rw [(z3.1 n (by simpa using nx)).2.2.2.1, e62, sg_gw_c _ _ _ _ _ _ (by decide), e59, sg_gw_e _ _ _ _ (sg_Rg _ _ _)]
    have g42 : sg_g σ66 42 x = n := by
      rw [sg_F_ga z2 rfl, e62, sg_gw_e _ _ _ _ ⟨by omega, by omega⟩]
    have g42n : sg_g σ66 42 n = sg_g σ15 42 n := by
      rw [sg_F_ga z2 rfl, e62, sg_gw_k _ _ _ _ _ _ nx, e59, sg_gw_c _ _ _ _ _ _ (by decide), e56, sg_gw_c _ _ _ _ _ _ (by decide), sg_F_ga y2 rfl]
    have g41n : sg_g σ66 41 n = sg_g σ15 41 n := by
      rw [(z3.1 n (by simpa using nx)).2.1, sg_F_ga f62 rfl, sg_F_ga y2 rfl]
    have F66 : sg_F kwL σ σ66 := sg_F_t f (sg_F_t (sg_F_t (sg_F_m y2 rfl) (sg_F_m f62 rfl)) (sg_F_m z2 rfl))
    have u62 : kU σ50 σ62 e b p [n, x] := ⟨fun y hy => by
      have yn : ¬ y = n := fun z => hy (by simp [z])
      have yx : ¬ y = x := fun z => hy (by simp [z])
      refine ⟨⟨sg_F_ga f62 rfl, sg_F_ga f62 rfl⟩, sg_F_ga f62 rfl, ?_, ?_, ?_⟩
      · rw [e62, sg_gw_k _ _ _ _ _ _ yx, e59, sg_gw_c _ _ _ _ _ _ (by decide), e56, sg_gw_c _ _ _ _ _ _ (by decide)]
      · rw [e62, sg_gw_c _ _ _ _ _ _ (by decide), e59, sg_gw_k _ _ _ _ _ _ yn, e56, sg_gw_c _ _ _ _ _ _ (by decide)]
      · rw [e62, sg_gw_c _ _ _ _ _ _ (by decide), e59, sg_gw_c _ _ _ _ _ _ (by decide), e56, sg_gw_k _ _ _ _ _ _ yn], fun s _ => sg_F_ga f62 rfl, fun i _ => sg_F_ga f62 rfl, fun i _ => ⟨sg_F_ga f62 rfl, sg_F_ga f62 rfl⟩⟩
    have ba := bA_le A n s b
    have U : kU σ15 σ66 e b p [n, x] := kU_t (kU_t (L := [n, x]) y3 u62 ⟨by omega, by omega⟩ ⟨by omega, by omega⟩ ⟨by omega, by omega⟩ (fun y hy => by simp at hy; simp [hy]) (fun y hy => hy)) z3 ⟨Int.le_refl _, by omega⟩ ⟨Int.le_refl _, by omega⟩ ⟨Int.le_refl _, by omega⟩ (fun y hy => hy) (fun y hy => by simp at hy; simp [hy])
    refine k σ66 F66 z1 U ⟨g41n, g42n, g42⟩ ⟨g44, fun y hy => ?_⟩ ?_ z4 ?_ (fun z => ?_) z5 ⟨?_, z6.2.1, z6.2.2⟩ (fun a c y hy => ?_)
    · rw [g43]
      refine p5 s x y hx ?_
      rw [← List.head?_drop, ← List.drop_drop, hd]
      exact hy
    · exact pC_e (pC_e y4 (Int.le_refl _) (fun i _ => ⟨sg_F_ga f62 rfl, sg_F_ga f62 rfl⟩)) (Int.le_refl _) z3.2.2.2
    · refine ⟨fun c1 c2 => ?_, fun c1 c2 => ?_⟩
      · obtain ⟨t1, t2⟩ := y5.1 c1 c2
        have be : bA A n s b = b + 1 := by unfold bA; rw [if_pos ⟨c1, c2⟩]
        rw [(z3.1 n (by simpa using nx)).1.2, sg_F_ga f62 rfl, z3.2.1 b (by omega), sg_F_ga f62 rfl, sg_F_ga z2 rfl, sg_F_ga f62 rfl]
        exact ⟨t1, t2⟩
      · obtain ⟨t1, t2⟩ := y5.2 c1 c2
        have be : bA A n s b = b + (A.2.2.2.2.2 n).length := by unfold bA; rw [if_neg (by omega), if_pos ⟨c1, c2⟩]
        refine ⟨by rw [(z3.1 n (by simpa using nx)).1.2, sg_F_ga f62 rfl]; exact t1, fun i y hy => ?_⟩
        have hi : i < (A.2.2.2.2.2 n).length := by
          have := gE_l hy
          unfold kGs at this
          rw [List.length_take] at this
          omega
        rw [z3.2.1 _ (by omega), sg_F_ga f62 rfl, sg_F_ga z2 rfl, sg_F_ga f62 rfl]
        exact t2 i y hy
    · rw [(z3.1 n (by simpa using nx)).1.2, sg_F_ga f62 rfl]; exact y6 z
    · rw [z6.1, sg_F_ga f62 rfl, sg_F_ga y2 rfl, sg_F_ga f rfl]
    · rw [sg_F_ga z2 rfl, sg_F_ga f62 rfl]; exact y7 a c y hy
end WK2
