/-! THE NESTED RUN, turn by turn. -/
def nStp (σ σ8 σ32 : sg_S) (P35 : sg_S → Prop) : Prop := (((sx_at σ 29 1013 ((sg_g σ8 45 8))) = 0 → V_nBegin σ32 ((sx_at σ 30 1013 ((sg_g σ8 45 8)))) (fun σ45 => sg_F [11045, 23045, 24045] σ32 σ45 → P35 σ45)) ∧ (¬ (sx_at σ 29 1013 ((sg_g σ8 45 8))) = 0 → (((sx_at σ 29 1013 ((sg_g σ8 45 8))) = 1 → V_mnFinish σ32 ((sx_at σ 30 1013 ((sg_g σ8 45 8)))) (fun σ53 => sg_F [48, 53, 54, 8045, 10045, 11045, 21045, 22045, 23045] σ32 σ53 → P35 σ53)) ∧ (¬ (sx_at σ 29 1013 ((sg_g σ8 45 8))) = 1 → (((sx_at σ 29 1013 ((sg_g σ8 45 8))) = 2 → V_mnFinishOne σ32 ((sx_at σ 30 1013 ((sg_g σ8 45 8)))) (fun σ61 => sg_F [48, 53, 54, 8045, 10045, 11045, 21045, 22045, 23045] σ32 σ61 → P35 σ61)) ∧ (¬ (sx_at σ 29 1013 ((sg_g σ8 45 8))) = 2 → (((sx_at σ 29 1013 ((sg_g σ8 45 8))) = 3 → V_mnFinishTwo σ32 ((sx_at σ 30 1013 ((sg_g σ8 45 8)))) (fun σ69 => sg_F [48, 53, 54, 55, 8045, 10045, 11045, 21045, 22045, 23045] σ32 σ69 → P35 σ69)) ∧ (¬ (sx_at σ 29 1013 ((sg_g σ8 45 8))) = 3 → (((sx_at σ 29 1013 ((sg_g σ8 45 8))) = 4 → V_mnPop σ32  (fun q76 σ77 => sg_R q76 → sg_F [8045] σ32 σ77 → ∀ σ82, σ82 = (sx_put σ77 46 272 ((sx_at σ 16 200 ((sx_at σ 30 1013 ((sg_g σ8 45 8)))))) (q76)) → P35 σ82)) ∧ (¬ (sx_at σ 29 1013 ((sg_g σ8 45 8))) = 4 → (((sx_at σ 29 1013 ((sg_g σ8 45 8))) = 5 → V_mnEnter σ32 ((sx_at σ 16 200 ((sx_at σ 30 1013 ((sg_g σ8 45 8)))))) (fun σ88 => sg_F [46, 47, 8045, 9045] σ32 σ88 → P35 σ88)) ∧ (¬ (sx_at σ 29 1013 ((sg_g σ8 45 8))) = 5 → (((sx_at σ 29 1013 ((sg_g σ8 45 8))) = 6 → ∀ σ95, σ95 = (sg_w σ32 45 8 ((sx_at σ8 47 13 ((sx_at σ 30 1013 ((sg_g σ8 45 8))))))) → P35 σ95) ∧ (¬ (sx_at σ 29 1013 ((sg_g σ8 45 8))) = 6 → (((sx_at σ 29 1013 ((sg_g σ8 45 8))) = 7 → V_nFork σ32 ((sx_at σ 30 1013 ((sg_g σ8 45 8)))) (fun σ101 => sg_F [8045, 9045] σ32 σ101 → P35 σ101)) ∧ (¬ (sx_at σ 29 1013 ((sg_g σ8 45 8))) = 7 → (((sx_at σ 29 1013 ((sg_g σ8 45 8))) = 8 → V_nTurn σ32 ((sx_at σ 30 1013 ((sg_g σ8 45 8)))) (fun σ109 => sg_F [9045] σ32 σ109 → P35 σ109)) ∧ (¬ (sx_at σ 29 1013 ((sg_g σ8 45 8))) = 8 → (((sx_at σ 29 1013 ((sg_g σ8 45 8))) = 9 → V_nJoin σ32 ((sx_at σ 30 1013 ((sg_g σ8 45 8)))) (fun σ117 => sg_F [] σ32 σ117 → P35 σ117)) ∧ (¬ (sx_at σ 29 1013 ((sg_g σ8 45 8))) = 9 → (((sx_at σ 29 1013 ((sg_g σ8 45 8))) = 10 → V_nOpen σ32 ((sx_at σ 30 1013 ((sg_g σ8 45 8)))) (fun σ125 => sg_F [46, 56, 57, 58, 59, 60, 9045, 11045, 24045] σ32 σ125 → P35 σ125)) ∧ (¬ (sx_at σ 29 1013 ((sg_g σ8 45 8))) = 10 → (((sx_at σ 29 1013 ((sg_g σ8 45 8))) = 11 → V_nSift σ32 ((sx_at σ 30 1013 ((sg_g σ8 45 8)))) (fun σ133 => sg_F [46, 57, 60, 8045, 9045, 24045] σ32 σ133 → P35 σ133)) ∧ (¬ (sx_at σ 29 1013 ((sg_g σ8 45 8))) = 11 → V_nNext σ32 ((sx_at σ 30 1013 ((sg_g σ8 45 8)))) (fun σ139 => sg_F [46, 57, 60, 9045, 24045] σ32 σ139 → P35 σ139)))))))))))))))))))))))))
def Rn (σ : sg_S) (X : sg_S → Prop) : Nat → sg_S → Prop
  | 0, σ8 => X σ8
  | n + 1, σ8 => (sg_g σ8 45 8 < 0 → X σ8) ∧ (¬ sg_g σ8 45 10 = 0 → X σ8) ∧ (0 ≤ sg_g σ8 45 8 → sg_g σ8 45 10 = 0 → sg_R (sg_g σ8 45 8 + 1) ∧ ∀ σ32, σ32 = (sg_w σ8 45 8 (((sg_g σ8 45 8) + 1))) → nStp σ σ8 σ32 (Rn σ X n))
theorem rn_s {σ σ8 : sg_S} {X : sg_S → Prop} {m : Nat} (h : ¬ sg_g σ8 45 10 = 0) (hX : X σ8) : Rn σ X m σ8 := by
  cases m with
  | zero => exact hX
  | succ m => exact ⟨fun _ => hX, fun _ => hX, fun _ z => absurd z h⟩
theorem rn_e {σ σ8 : sg_S} {X : sg_S → Prop} {m : Nat} (h : sg_g σ8 45 8 < 0) (hX : X σ8) : Rn σ X m σ8 := by
  cases m with
  | zero => exact hX
  | succ m => exact ⟨fun _ => hX, fun _ => hX, fun z _ => absurd z (by omega)⟩
theorem rn_0 {σ σ8 : sg_S} {X : sg_S → Prop} {m : Nat} {p k : Int} (hp : sg_g σ8 45 8 = p) (h0 : 0 ≤ p ∧ p < 1013) (hz : sg_g σ8 45 10 = 0) (h29 : sg_g σ 29 p = 0) (h30 : sg_g σ 30 p = k) (h : ∀ σ32, σ32 = sg_w σ8 45 8 (p + 1) → V_nBegin σ32 (k) (fun σ45 => sg_F [11045, 23045, 24045] σ32 σ45 → (Rn σ X m) σ45)) : Rn σ X (m + 1) σ8 := by
  refine ⟨fun z => by omega, fun z => absurd hz z, fun _ _ => ?_⟩
  refine ⟨⟨by omega, by omega⟩, fun σ32 e32 => ?_⟩
  unfold nStp
  rw [hp] at e32 ⊢
  rw [xa_in (a := 29) h0, xa_in (a := 30) h0, h29, h30]
  exact ⟨fun _ => h σ32 e32, fun z => absurd rfl z⟩
theorem rn_1 {σ σ8 : sg_S} {X : sg_S → Prop} {m : Nat} {p k : Int} (hp : sg_g σ8 45 8 = p) (h0 : 0 ≤ p ∧ p < 1013) (hz : sg_g σ8 45 10 = 0) (h29 : sg_g σ 29 p = 1) (h30 : sg_g σ 30 p = k) (h : ∀ σ32, σ32 = sg_w σ8 45 8 (p + 1) → V_mnFinish σ32 (k) (fun σ53 => sg_F [48, 53, 54, 8045, 10045, 11045, 21045, 22045, 23045] σ32 σ53 → (Rn σ X m) σ53)) : Rn σ X (m + 1) σ8 := by
  refine ⟨fun z => by omega, fun z => absurd hz z, fun _ _ => ?_⟩
  refine ⟨⟨by omega, by omega⟩, fun σ32 e32 => ?_⟩
  unfold nStp
  rw [hp] at e32 ⊢
  rw [xa_in (a := 29) h0, xa_in (a := 30) h0, h29, h30]
  exact ⟨fun z => absurd z (by decide), fun _ => ⟨fun _ => h σ32 e32, fun z => absurd rfl z⟩⟩
theorem rn_2 {σ σ8 : sg_S} {X : sg_S → Prop} {m : Nat} {p k : Int} (hp : sg_g σ8 45 8 = p) (h0 : 0 ≤ p ∧ p < 1013) (hz : sg_g σ8 45 10 = 0) (h29 : sg_g σ 29 p = 2) (h30 : sg_g σ 30 p = k) (h : ∀ σ32, σ32 = sg_w σ8 45 8 (p + 1) → V_mnFinishOne σ32 (k) (fun σ61 => sg_F [48, 53, 54, 8045, 10045, 11045, 21045, 22045, 23045] σ32 σ61 → (Rn σ X m) σ61)) : Rn σ X (m + 1) σ8 := by
  refine ⟨fun z => by omega, fun z => absurd hz z, fun _ _ => ?_⟩
  refine ⟨⟨by omega, by omega⟩, fun σ32 e32 => ?_⟩
  unfold nStp
  rw [hp] at e32 ⊢
  rw [xa_in (a := 29) h0, xa_in (a := 30) h0, h29, h30]
  exact ⟨fun z => absurd z (by decide), fun _ => ⟨fun z => absurd z (by decide), fun _ => ⟨fun _ => h σ32 e32, fun z => absurd rfl z⟩⟩⟩
theorem rn_3 {σ σ8 : sg_S} {X : sg_S → Prop} {m : Nat} {p k : Int} (hp : sg_g σ8 45 8 = p) (h0 : 0 ≤ p ∧ p < 1013) (hz : sg_g σ8 45 10 = 0) (h29 : sg_g σ 29 p = 3) (h30 : sg_g σ 30 p = k) (h : ∀ σ32, σ32 = sg_w σ8 45 8 (p + 1) → V_mnFinishTwo σ32 (k) (fun σ69 => sg_F [48, 53, 54, 55, 8045, 10045, 11045, 21045, 22045, 23045] σ32 σ69 → (Rn σ X m) σ69)) : Rn σ X (m + 1) σ8 := by
  refine ⟨fun z => by omega, fun z => absurd hz z, fun _ _ => ?_⟩
  refine ⟨⟨by omega, by omega⟩, fun σ32 e32 => ?_⟩
  unfold nStp
  rw [hp] at e32 ⊢
  rw [xa_in (a := 29) h0, xa_in (a := 30) h0, h29, h30]
  exact ⟨fun z => absurd z (by decide), fun _ => ⟨fun z => absurd z (by decide), fun _ => ⟨fun z => absurd z (by decide), fun _ => ⟨fun _ => h σ32 e32, fun z => absurd rfl z⟩⟩⟩⟩
theorem rn_4 {σ σ8 : sg_S} {X : sg_S → Prop} {m : Nat} {p k : Int} (hp : sg_g σ8 45 8 = p) (h0 : 0 ≤ p ∧ p < 1013) (hz : sg_g σ8 45 10 = 0) (h29 : sg_g σ 29 p = 4) (h30 : sg_g σ 30 p = k) (h : ∀ σ32, σ32 = sg_w σ8 45 8 (p + 1) → V_mnPop σ32  (fun q76 σ77 => sg_R q76 → sg_F [8045] σ32 σ77 → ∀ σ82, σ82 = (sx_put σ77 46 272 ((sx_at σ 16 200 (k))) (q76)) → (Rn σ X m) σ82)) : Rn σ X (m + 1) σ8 := by
  refine ⟨fun z => by omega, fun z => absurd hz z, fun _ _ => ?_⟩
  refine ⟨⟨by omega, by omega⟩, fun σ32 e32 => ?_⟩
  unfold nStp
  rw [hp] at e32 ⊢
  rw [xa_in (a := 29) h0, xa_in (a := 30) h0, h29, h30]
  exact ⟨fun z => absurd z (by decide), fun _ => ⟨fun z => absurd z (by decide), fun _ => ⟨fun z => absurd z (by decide), fun _ => ⟨fun z => absurd z (by decide), fun _ => ⟨fun _ => h σ32 e32, fun z => absurd rfl z⟩⟩⟩⟩⟩
theorem rn_5 {σ σ8 : sg_S} {X : sg_S → Prop} {m : Nat} {p k : Int} (hp : sg_g σ8 45 8 = p) (h0 : 0 ≤ p ∧ p < 1013) (hz : sg_g σ8 45 10 = 0) (h29 : sg_g σ 29 p = 5) (h30 : sg_g σ 30 p = k) (h : ∀ σ32, σ32 = sg_w σ8 45 8 (p + 1) → V_mnEnter σ32 ((sx_at σ 16 200 (k))) (fun σ88 => sg_F [46, 47, 8045, 9045] σ32 σ88 → (Rn σ X m) σ88)) : Rn σ X (m + 1) σ8 := by
  refine ⟨fun z => by omega, fun z => absurd hz z, fun _ _ => ?_⟩
  refine ⟨⟨by omega, by omega⟩, fun σ32 e32 => ?_⟩
  unfold nStp
  rw [hp] at e32 ⊢
  rw [xa_in (a := 29) h0, xa_in (a := 30) h0, h29, h30]
  exact ⟨fun z => absurd z (by decide), fun _ => ⟨fun z => absurd z (by decide), fun _ => ⟨fun z => absurd z (by decide), fun _ => ⟨fun z => absurd z (by decide), fun _ => ⟨fun z => absurd z (by decide), fun _ => ⟨fun _ => h σ32 e32, fun z => absurd rfl z⟩⟩⟩⟩⟩⟩
theorem rn_6 {σ σ8 : sg_S} {X : sg_S → Prop} {m : Nat} {p k : Int} (hp : sg_g σ8 45 8 = p) (h0 : 0 ≤ p ∧ p < 1013) (hz : sg_g σ8 45 10 = 0) (h29 : sg_g σ 29 p = 6) (h30 : sg_g σ 30 p = k) (h : ∀ σ32, σ32 = sg_w σ8 45 8 (p + 1) → ∀ σ95, σ95 = (sg_w σ32 45 8 ((sx_at σ8 47 13 (k)))) → (Rn σ X m) σ95) : Rn σ X (m + 1) σ8 := by
  refine ⟨fun z => by omega, fun z => absurd hz z, fun _ _ => ?_⟩
  refine ⟨⟨by omega, by omega⟩, fun σ32 e32 => ?_⟩
  unfold nStp
  rw [hp] at e32 ⊢
  rw [xa_in (a := 29) h0, xa_in (a := 30) h0, h29, h30]
  exact ⟨fun z => absurd z (by decide), fun _ => ⟨fun z => absurd z (by decide), fun _ => ⟨fun z => absurd z (by decide), fun _ => ⟨fun z => absurd z (by decide), fun _ => ⟨fun z => absurd z (by decide), fun _ => ⟨fun z => absurd z (by decide), fun _ => ⟨fun _ => h σ32 e32, fun z => absurd rfl z⟩⟩⟩⟩⟩⟩⟩
theorem rn_7 {σ σ8 : sg_S} {X : sg_S → Prop} {m : Nat} {p k : Int} (hp : sg_g σ8 45 8 = p) (h0 : 0 ≤ p ∧ p < 1013) (hz : sg_g σ8 45 10 = 0) (h29 : sg_g σ 29 p = 7) (h30 : sg_g σ 30 p = k) (h : ∀ σ32, σ32 = sg_w σ8 45 8 (p + 1) → V_nFork σ32 (k) (fun σ101 => sg_F [8045, 9045] σ32 σ101 → (Rn σ X m) σ101)) : Rn σ X (m + 1) σ8 := by
  refine ⟨fun z => by omega, fun z => absurd hz z, fun _ _ => ?_⟩
  refine ⟨⟨by omega, by omega⟩, fun σ32 e32 => ?_⟩
  unfold nStp
  rw [hp] at e32 ⊢
  rw [xa_in (a := 29) h0, xa_in (a := 30) h0, h29, h30]
  exact ⟨fun z => absurd z (by decide), fun _ => ⟨fun z => absurd z (by decide), fun _ => ⟨fun z => absurd z (by decide), fun _ => ⟨fun z => absurd z (by decide), fun _ => ⟨fun z => absurd z (by decide), fun _ => ⟨fun z => absurd z (by decide), fun _ => ⟨fun z => absurd z (by decide), fun _ => ⟨fun _ => h σ32 e32, fun z => absurd rfl z⟩⟩⟩⟩⟩⟩⟩⟩
theorem rn_8 {σ σ8 : sg_S} {X : sg_S → Prop} {m : Nat} {p k : Int} (hp : sg_g σ8 45 8 = p) (h0 : 0 ≤ p ∧ p < 1013) (hz : sg_g σ8 45 10 = 0) (h29 : sg_g σ 29 p = 8) (h30 : sg_g σ 30 p = k) (h : ∀ σ32, σ32 = sg_w σ8 45 8 (p + 1) → V_nTurn σ32 (k) (fun σ109 => sg_F [9045] σ32 σ109 → (Rn σ X m) σ109)) : Rn σ X (m + 1) σ8 := by
  refine ⟨fun z => by omega, fun z => absurd hz z, fun _ _ => ?_⟩
  refine ⟨⟨by omega, by omega⟩, fun σ32 e32 => ?_⟩
  unfold nStp
  rw [hp] at e32 ⊢
  rw [xa_in (a := 29) h0, xa_in (a := 30) h0, h29, h30]
  exact ⟨fun z => absurd z (by decide), fun _ => ⟨fun z => absurd z (by decide), fun _ => ⟨fun z => absurd z (by decide), fun _ => ⟨fun z => absurd z (by decide), fun _ => ⟨fun z => absurd z (by decide), fun _ => ⟨fun z => absurd z (by decide), fun _ => ⟨fun z => absurd z (by decide), fun _ => ⟨fun z => absurd z (by decide), fun _ => ⟨fun _ => h σ32 e32, fun z => absurd rfl z⟩⟩⟩⟩⟩⟩⟩⟩⟩
theorem rn_9 {σ σ8 : sg_S} {X : sg_S → Prop} {m : Nat} {p k : Int} (hp : sg_g σ8 45 8 = p) (h0 : 0 ≤ p ∧ p < 1013) (hz : sg_g σ8 45 10 = 0) (h29 : sg_g σ 29 p = 9) (h30 : sg_g σ 30 p = k) (h : ∀ σ32, σ32 = sg_w σ8 45 8 (p + 1) → V_nJoin σ32 (k) (fun σ117 => sg_F [] σ32 σ117 → (Rn σ X m) σ117)) : Rn σ X (m + 1) σ8 := by
  refine ⟨fun z => by omega, fun z => absurd hz z, fun _ _ => ?_⟩
  refine ⟨⟨by omega, by omega⟩, fun σ32 e32 => ?_⟩
  unfold nStp
  rw [hp] at e32 ⊢
  rw [xa_in (a := 29) h0, xa_in (a := 30) h0, h29, h30]
  exact ⟨fun z => absurd z (by decide), fun _ => ⟨fun z => absurd z (by decide), fun _ => ⟨fun z => absurd z (by decide), fun _ => ⟨fun z => absurd z (by decide), fun _ => ⟨fun z => absurd z (by decide), fun _ => ⟨fun z => absurd z (by decide), fun _ => ⟨fun z => absurd z (by decide), fun _ => ⟨fun z => absurd z (by decide), fun _ => ⟨fun z => absurd z (by decide), fun _ => ⟨fun _ => h σ32 e32, fun z => absurd rfl z⟩⟩⟩⟩⟩⟩⟩⟩⟩⟩
theorem rn_10 {σ σ8 : sg_S} {X : sg_S → Prop} {m : Nat} {p k : Int} (hp : sg_g σ8 45 8 = p) (h0 : 0 ≤ p ∧ p < 1013) (hz : sg_g σ8 45 10 = 0) (h29 : sg_g σ 29 p = 10) (h30 : sg_g σ 30 p = k) (h : ∀ σ32, σ32 = sg_w σ8 45 8 (p + 1) → V_nOpen σ32 (k) (fun σ125 => sg_F [46, 56, 57, 58, 59, 60, 9045, 11045, 24045] σ32 σ125 → (Rn σ X m) σ125)) : Rn σ X (m + 1) σ8 := by
  refine ⟨fun z => by omega, fun z => absurd hz z, fun _ _ => ?_⟩
  refine ⟨⟨by omega, by omega⟩, fun σ32 e32 => ?_⟩
  unfold nStp
  rw [hp] at e32 ⊢
  rw [xa_in (a := 29) h0, xa_in (a := 30) h0, h29, h30]
  exact ⟨fun z => absurd z (by decide), fun _ => ⟨fun z => absurd z (by decide), fun _ => ⟨fun z => absurd z (by decide), fun _ => ⟨fun z => absurd z (by decide), fun _ => ⟨fun z => absurd z (by decide), fun _ => ⟨fun z => absurd z (by decide), fun _ => ⟨fun z => absurd z (by decide), fun _ => ⟨fun z => absurd z (by decide), fun _ => ⟨fun z => absurd z (by decide), fun _ => ⟨fun z => absurd z (by decide), fun _ => ⟨fun _ => h σ32 e32, fun z => absurd rfl z⟩⟩⟩⟩⟩⟩⟩⟩⟩⟩⟩
theorem rn_11 {σ σ8 : sg_S} {X : sg_S → Prop} {m : Nat} {p k : Int} (hp : sg_g σ8 45 8 = p) (h0 : 0 ≤ p ∧ p < 1013) (hz : sg_g σ8 45 10 = 0) (h29 : sg_g σ 29 p = 11) (h30 : sg_g σ 30 p = k) (h : ∀ σ32, σ32 = sg_w σ8 45 8 (p + 1) → V_nSift σ32 (k) (fun σ133 => sg_F [46, 57, 60, 8045, 9045, 24045] σ32 σ133 → (Rn σ X m) σ133)) : Rn σ X (m + 1) σ8 := by
  refine ⟨fun z => by omega, fun z => absurd hz z, fun _ _ => ?_⟩
  refine ⟨⟨by omega, by omega⟩, fun σ32 e32 => ?_⟩
  unfold nStp
  rw [hp] at e32 ⊢
  rw [xa_in (a := 29) h0, xa_in (a := 30) h0, h29, h30]
  exact ⟨fun z => absurd z (by decide), fun _ => ⟨fun z => absurd z (by decide), fun _ => ⟨fun z => absurd z (by decide), fun _ => ⟨fun z => absurd z (by decide), fun _ => ⟨fun z => absurd z (by decide), fun _ => ⟨fun z => absurd z (by decide), fun _ => ⟨fun z => absurd z (by decide), fun _ => ⟨fun z => absurd z (by decide), fun _ => ⟨fun z => absurd z (by decide), fun _ => ⟨fun z => absurd z (by decide), fun _ => ⟨fun z => absurd z (by decide), fun _ => ⟨fun _ => h σ32 e32, fun z => absurd rfl z⟩⟩⟩⟩⟩⟩⟩⟩⟩⟩⟩⟩
theorem rn_12 {σ σ8 : sg_S} {X : sg_S → Prop} {m : Nat} {p k : Int} (hp : sg_g σ8 45 8 = p) (h0 : 0 ≤ p ∧ p < 1013) (hz : sg_g σ8 45 10 = 0) (h29 : sg_g σ 29 p = 12) (h30 : sg_g σ 30 p = k) (h : ∀ σ32, σ32 = sg_w σ8 45 8 (p + 1) → V_nNext σ32 (k) (fun σ139 => sg_F [46, 57, 60, 9045, 24045] σ32 σ139 → (Rn σ X m) σ139)) : Rn σ X (m + 1) σ8 := by
  refine ⟨fun z => by omega, fun z => absurd hz z, fun _ _ => ?_⟩
  refine ⟨⟨by omega, by omega⟩, fun σ32 e32 => ?_⟩
  unfold nStp
  rw [hp] at e32 ⊢
  rw [xa_in (a := 29) h0, xa_in (a := 30) h0, h29, h30]
  exact ⟨fun z => absurd z (by decide), fun _ => ⟨fun z => absurd z (by decide), fun _ => ⟨fun z => absurd z (by decide), fun _ => ⟨fun z => absurd z (by decide), fun _ => ⟨fun z => absurd z (by decide), fun _ => ⟨fun z => absurd z (by decide), fun _ => ⟨fun z => absurd z (by decide), fun _ => ⟨fun z => absurd z (by decide), fun _ => ⟨fun z => absurd z (by decide), fun _ => ⟨fun z => absurd z (by decide), fun _ => ⟨fun z => absurd z (by decide), fun _ => ⟨fun z => absurd z (by decide), fun _ => h σ32 e32⟩⟩⟩⟩⟩⟩⟩⟩⟩⟩⟩⟩
