/-! THE FLAT RUN of the class, turn by turn, to an end X. -/
def Ry (σ : sg_S) (X : sg_S → Prop) : Nat → sg_S → Prop
  | 0, σ8 => X σ8
  | n + 1, σ8 => (sg_g σ8 61 8 < 0 → X σ8) ∧ (¬ sg_g σ8 61 10 = 0 → X σ8) ∧ (0 ≤ sg_g σ8 61 8 → sg_g σ8 61 10 = 0 → sg_R (sg_g σ8 61 8 + 1) ∧ ∀ σ32, σ32 = (sg_w σ8 61 8 (((sg_g σ8 61 8) + 1))) → mStp σ σ8 σ32 (Ry σ X n))
theorem ry_s {σ σ8 : sg_S} {X : sg_S → Prop} {m : Nat} (h : ¬ sg_g σ8 61 10 = 0) (hX : X σ8) : Ry σ X m σ8 := by
  cases m with
  | zero => exact hX
  | succ m => exact ⟨fun _ => hX, fun _ => hX, fun _ z => absurd z h⟩
theorem ry_z {σ σ8 : sg_S} {X : sg_S → Prop} {m : Nat} (h : sg_g σ8 61 8 < 0) (hX : X σ8) : Ry σ X m σ8 := by
  cases m with
  | zero => exact hX
  | succ m => exact ⟨fun _ => hX, fun _ => hX, fun z _ => absurd z (by omega)⟩
theorem ry_0 {σ σ8 : sg_S} {X : sg_S → Prop} {m : Nat} {p k : Int} (hp : sg_g σ8 61 8 = p) (h0 : 0 ≤ p ∧ p < 1013) (hz : sg_g σ8 61 10 = 0) (h29 : sg_g σ 29 p = 0) (h30 : sg_g σ 30 p = k) (h : ∀ σ32, σ32 = sg_w σ8 61 8 (p + 1) → V_fBegin σ32 (k) (fun σ45 => sg_F [69, 11061, 18077, 19077, 25061] σ32 σ45 → (Ry σ X m) σ45)) : Ry σ X (m + 1) σ8 := by
  refine ⟨fun z => by omega, fun z => absurd hz z, fun _ _ => ?_⟩
  refine ⟨⟨by omega, by omega⟩, fun σ32 e32 => ?_⟩
  unfold mStp
  rw [hp] at e32 ⊢
  rw [xa_in (a := 29) h0, xa_in (a := 30) h0, h29, h30]
  exact ⟨fun _ => h σ32 e32, fun z => absurd rfl z⟩
theorem ry_1 {σ σ8 : sg_S} {X : sg_S → Prop} {m : Nat} {p k : Int} (hp : sg_g σ8 61 8 = p) (h0 : 0 ≤ p ∧ p < 1013) (hz : sg_g σ8 61 10 = 0) (h29 : sg_g σ 29 p = 1) (h30 : sg_g σ 30 p = k) (h : ∀ σ32, σ32 = sg_w σ8 61 8 (p + 1) → V_mFinish σ32 (k) (fun σ53 => sg_F [62, 64, 78, 79, 80, 81, 82, 83, 85, 86, 87, 8061, 10061, 11061, 11077, 12077, 13077, 14077, 15077, 16077, 17077, 18077, 19077, 23061, 24061] σ32 σ53 → (Ry σ X m) σ53)) : Ry σ X (m + 1) σ8 := by
  refine ⟨fun z => by omega, fun z => absurd hz z, fun _ _ => ?_⟩
  refine ⟨⟨by omega, by omega⟩, fun σ32 e32 => ?_⟩
  unfold mStp
  rw [hp] at e32 ⊢
  rw [xa_in (a := 29) h0, xa_in (a := 30) h0, h29, h30]
  exact ⟨fun z => absurd z (by decide), fun _ => ⟨fun _ => h σ32 e32, fun z => absurd rfl z⟩⟩
theorem ry_2 {σ σ8 : sg_S} {X : sg_S → Prop} {m : Nat} {p k : Int} (hp : sg_g σ8 61 8 = p) (h0 : 0 ≤ p ∧ p < 1013) (hz : sg_g σ8 61 10 = 0) (h29 : sg_g σ 29 p = 2) (h30 : sg_g σ 30 p = k) (h : ∀ σ32, σ32 = sg_w σ8 61 8 (p + 1) → V_mFinishOne σ32 (k) (fun σ61 => sg_F [64, 78, 79, 80, 81, 82, 83, 84, 85, 86, 87, 8061, 10061, 11061, 11077, 12077, 13077, 14077, 15077, 16077, 17077, 18077, 19077] σ32 σ61 → (Ry σ X m) σ61)) : Ry σ X (m + 1) σ8 := by
  refine ⟨fun z => by omega, fun z => absurd hz z, fun _ _ => ?_⟩
  refine ⟨⟨by omega, by omega⟩, fun σ32 e32 => ?_⟩
  unfold mStp
  rw [hp] at e32 ⊢
  rw [xa_in (a := 29) h0, xa_in (a := 30) h0, h29, h30]
  exact ⟨fun z => absurd z (by decide), fun _ => ⟨fun z => absurd z (by decide), fun _ => ⟨fun _ => h σ32 e32, fun z => absurd rfl z⟩⟩⟩
theorem ry_3 {σ σ8 : sg_S} {X : sg_S → Prop} {m : Nat} {p k : Int} (hp : sg_g σ8 61 8 = p) (h0 : 0 ≤ p ∧ p < 1013) (hz : sg_g σ8 61 10 = 0) (h29 : sg_g σ 29 p = 3) (h30 : sg_g σ 30 p = k) (h : ∀ σ32, σ32 = sg_w σ8 61 8 (p + 1) → V_mFinishTwo σ32 (k) (fun σ69 => sg_F [64, 75, 76, 78, 79, 80, 81, 82, 83, 84, 85, 86, 87, 8061, 10061, 11061, 11077, 12077, 13077, 14077, 15077, 16077, 17077, 18077, 19077] σ32 σ69 → (Ry σ X m) σ69)) : Ry σ X (m + 1) σ8 := by
  refine ⟨fun z => by omega, fun z => absurd hz z, fun _ _ => ?_⟩
  refine ⟨⟨by omega, by omega⟩, fun σ32 e32 => ?_⟩
  unfold mStp
  rw [hp] at e32 ⊢
  rw [xa_in (a := 29) h0, xa_in (a := 30) h0, h29, h30]
  exact ⟨fun z => absurd z (by decide), fun _ => ⟨fun z => absurd z (by decide), fun _ => ⟨fun z => absurd z (by decide), fun _ => ⟨fun _ => h σ32 e32, fun z => absurd rfl z⟩⟩⟩⟩
theorem ry_4 {σ σ8 : sg_S} {X : sg_S → Prop} {m : Nat} {p k : Int} (hp : sg_g σ8 61 8 = p) (h0 : 0 ≤ p ∧ p < 1013) (hz : sg_g σ8 61 10 = 0) (h29 : sg_g σ 29 p = 4) (h30 : sg_g σ 30 p = k) (h : ∀ σ32, σ32 = sg_w σ8 61 8 (p + 1) → V_mPop σ32  (fun q76 σ77 => sg_R q76 → sg_F [8061] σ32 σ77 → ∀ σ82, σ82 = (sx_put σ77 62 272 ((sx_at σ 16 200 (k))) (q76)) → (Ry σ X m) σ82)) : Ry σ X (m + 1) σ8 := by
  refine ⟨fun z => by omega, fun z => absurd hz z, fun _ _ => ?_⟩
  refine ⟨⟨by omega, by omega⟩, fun σ32 e32 => ?_⟩
  unfold mStp
  rw [hp] at e32 ⊢
  rw [xa_in (a := 29) h0, xa_in (a := 30) h0, h29, h30]
  exact ⟨fun z => absurd z (by decide), fun _ => ⟨fun z => absurd z (by decide), fun _ => ⟨fun z => absurd z (by decide), fun _ => ⟨fun z => absurd z (by decide), fun _ => ⟨fun _ => h σ32 e32, fun z => absurd rfl z⟩⟩⟩⟩⟩
theorem ry_5 {σ σ8 : sg_S} {X : sg_S → Prop} {m : Nat} {p k : Int} (hp : sg_g σ8 61 8 = p) (h0 : 0 ≤ p ∧ p < 1013) (hz : sg_g σ8 61 10 = 0) (h29 : sg_g σ 29 p = 5) (h30 : sg_g σ 30 p = k) (h : ∀ σ32, σ32 = sg_w σ8 61 8 (p + 1) → V_mEnter σ32 ((sx_at σ 16 200 (k))) (fun σ88 => sg_F [62, 63, 8061, 9061] σ32 σ88 → (Ry σ X m) σ88)) : Ry σ X (m + 1) σ8 := by
  refine ⟨fun z => by omega, fun z => absurd hz z, fun _ _ => ?_⟩
  refine ⟨⟨by omega, by omega⟩, fun σ32 e32 => ?_⟩
  unfold mStp
  rw [hp] at e32 ⊢
  rw [xa_in (a := 29) h0, xa_in (a := 30) h0, h29, h30]
  exact ⟨fun z => absurd z (by decide), fun _ => ⟨fun z => absurd z (by decide), fun _ => ⟨fun z => absurd z (by decide), fun _ => ⟨fun z => absurd z (by decide), fun _ => ⟨fun z => absurd z (by decide), fun _ => ⟨fun _ => h σ32 e32, fun z => absurd rfl z⟩⟩⟩⟩⟩⟩
theorem ry_6 {σ σ8 : sg_S} {X : sg_S → Prop} {m : Nat} {p k : Int} (hp : sg_g σ8 61 8 = p) (h0 : 0 ≤ p ∧ p < 1013) (hz : sg_g σ8 61 10 = 0) (h29 : sg_g σ 29 p = 6) (h30 : sg_g σ 30 p = k) (h : ∀ σ32, σ32 = sg_w σ8 61 8 (p + 1) → ∀ σ95, σ95 = (sg_w σ32 61 8 ((sx_at σ8 63 13 (k)))) → (Ry σ X m) σ95) : Ry σ X (m + 1) σ8 := by
  refine ⟨fun z => by omega, fun z => absurd hz z, fun _ _ => ?_⟩
  refine ⟨⟨by omega, by omega⟩, fun σ32 e32 => ?_⟩
  unfold mStp
  rw [hp] at e32 ⊢
  rw [xa_in (a := 29) h0, xa_in (a := 30) h0, h29, h30]
  exact ⟨fun z => absurd z (by decide), fun _ => ⟨fun z => absurd z (by decide), fun _ => ⟨fun z => absurd z (by decide), fun _ => ⟨fun z => absurd z (by decide), fun _ => ⟨fun z => absurd z (by decide), fun _ => ⟨fun z => absurd z (by decide), fun _ => ⟨fun _ => h σ32 e32, fun z => absurd rfl z⟩⟩⟩⟩⟩⟩⟩
theorem ry_7 {σ σ8 : sg_S} {X : sg_S → Prop} {m : Nat} {p k : Int} (hp : sg_g σ8 61 8 = p) (h0 : 0 ≤ p ∧ p < 1013) (hz : sg_g σ8 61 10 = 0) (h29 : sg_g σ 29 p = 7) (h30 : sg_g σ 30 p = k) (h : ∀ σ32, σ32 = sg_w σ8 61 8 (p + 1) → V_fFork σ32 (k) (fun σ101 => sg_F [62, 70, 71, 72, 73, 74, 78, 79, 80, 81, 82, 85, 86, 87, 8061, 11061, 11077, 12077, 13077, 14077, 15077, 16077, 17077, 18077, 19077, 22061, 23061, 24061] σ32 σ101 → (Ry σ X m) σ101)) : Ry σ X (m + 1) σ8 := by
  refine ⟨fun z => by omega, fun z => absurd hz z, fun _ _ => ?_⟩
  refine ⟨⟨by omega, by omega⟩, fun σ32 e32 => ?_⟩
  unfold mStp
  rw [hp] at e32 ⊢
  rw [xa_in (a := 29) h0, xa_in (a := 30) h0, h29, h30]
  exact ⟨fun z => absurd z (by decide), fun _ => ⟨fun z => absurd z (by decide), fun _ => ⟨fun z => absurd z (by decide), fun _ => ⟨fun z => absurd z (by decide), fun _ => ⟨fun z => absurd z (by decide), fun _ => ⟨fun z => absurd z (by decide), fun _ => ⟨fun z => absurd z (by decide), fun _ => ⟨fun _ => h σ32 e32, fun z => absurd rfl z⟩⟩⟩⟩⟩⟩⟩⟩
theorem ry_8 {σ σ8 : sg_S} {X : sg_S → Prop} {m : Nat} {p k : Int} (hp : sg_g σ8 61 8 = p) (h0 : 0 ≤ p ∧ p < 1013) (hz : sg_g σ8 61 10 = 0) (h29 : sg_g σ 29 p = 8) (h30 : sg_g σ 30 p = k) (h : ∀ σ32, σ32 = sg_w σ8 61 8 (p + 1) → V_fTurn σ32 (k) (fun σ109 => sg_F [62, 71, 72, 73, 74, 78, 79, 80, 81, 82, 85, 86, 87, 11061, 11077, 12077, 13077, 14077, 15077, 16077, 17077, 18077, 19077, 22061, 23061, 24061] σ32 σ109 → (Ry σ X m) σ109)) : Ry σ X (m + 1) σ8 := by
  refine ⟨fun z => by omega, fun z => absurd hz z, fun _ _ => ?_⟩
  refine ⟨⟨by omega, by omega⟩, fun σ32 e32 => ?_⟩
  unfold mStp
  rw [hp] at e32 ⊢
  rw [xa_in (a := 29) h0, xa_in (a := 30) h0, h29, h30]
  exact ⟨fun z => absurd z (by decide), fun _ => ⟨fun z => absurd z (by decide), fun _ => ⟨fun z => absurd z (by decide), fun _ => ⟨fun z => absurd z (by decide), fun _ => ⟨fun z => absurd z (by decide), fun _ => ⟨fun z => absurd z (by decide), fun _ => ⟨fun z => absurd z (by decide), fun _ => ⟨fun z => absurd z (by decide), fun _ => ⟨fun _ => h σ32 e32, fun z => absurd rfl z⟩⟩⟩⟩⟩⟩⟩⟩⟩
theorem ry_9 {σ σ8 : sg_S} {X : sg_S → Prop} {m : Nat} {p k : Int} (hp : sg_g σ8 61 8 = p) (h0 : 0 ≤ p ∧ p < 1013) (hz : sg_g σ8 61 10 = 0) (h29 : sg_g σ 29 p = 9) (h30 : sg_g σ 30 p = k) (h : ∀ σ32, σ32 = sg_w σ8 61 8 (p + 1) → V_fJoin σ32 (k) (fun σ117 => sg_F [62, 64, 78, 79, 80, 81, 82, 85, 86, 87, 8061, 10061, 11061, 11077, 12077, 13077, 14077, 15077, 16077, 17077, 18077, 19077, 23061, 24061] σ32 σ117 → (Ry σ X m) σ117)) : Ry σ X (m + 1) σ8 := by
  refine ⟨fun z => by omega, fun z => absurd hz z, fun _ _ => ?_⟩
  refine ⟨⟨by omega, by omega⟩, fun σ32 e32 => ?_⟩
  unfold mStp
  rw [hp] at e32 ⊢
  rw [xa_in (a := 29) h0, xa_in (a := 30) h0, h29, h30]
  exact ⟨fun z => absurd z (by decide), fun _ => ⟨fun z => absurd z (by decide), fun _ => ⟨fun z => absurd z (by decide), fun _ => ⟨fun z => absurd z (by decide), fun _ => ⟨fun z => absurd z (by decide), fun _ => ⟨fun z => absurd z (by decide), fun _ => ⟨fun z => absurd z (by decide), fun _ => ⟨fun z => absurd z (by decide), fun _ => ⟨fun z => absurd z (by decide), fun _ => ⟨fun _ => h σ32 e32, fun z => absurd rfl z⟩⟩⟩⟩⟩⟩⟩⟩⟩⟩
theorem ry_10 {σ σ8 : sg_S} {X : sg_S → Prop} {m : Nat} {p k : Int} (hp : sg_g σ8 61 8 = p) (h0 : 0 ≤ p ∧ p < 1013) (hz : sg_g σ8 61 10 = 0) (h29 : sg_g σ 29 p = 10) (h30 : sg_g σ 30 p = k) (h : ∀ σ32, σ32 = sg_w σ8 61 8 (p + 1) → V_fOpen σ32 (k) (fun σ125 => sg_F [62, 70, 71, 72, 73, 74, 78, 79, 80, 81, 82, 85, 86, 87, 8061, 11061, 11077, 12077, 13077, 14077, 15077, 16077, 17077, 18077, 19077, 22061, 23061, 24061] σ32 σ125 → (Ry σ X m) σ125)) : Ry σ X (m + 1) σ8 := by
  refine ⟨fun z => by omega, fun z => absurd hz z, fun _ _ => ?_⟩
  refine ⟨⟨by omega, by omega⟩, fun σ32 e32 => ?_⟩
  unfold mStp
  rw [hp] at e32 ⊢
  rw [xa_in (a := 29) h0, xa_in (a := 30) h0, h29, h30]
  exact ⟨fun z => absurd z (by decide), fun _ => ⟨fun z => absurd z (by decide), fun _ => ⟨fun z => absurd z (by decide), fun _ => ⟨fun z => absurd z (by decide), fun _ => ⟨fun z => absurd z (by decide), fun _ => ⟨fun z => absurd z (by decide), fun _ => ⟨fun z => absurd z (by decide), fun _ => ⟨fun z => absurd z (by decide), fun _ => ⟨fun z => absurd z (by decide), fun _ => ⟨fun z => absurd z (by decide), fun _ => ⟨fun _ => h σ32 e32, fun z => absurd rfl z⟩⟩⟩⟩⟩⟩⟩⟩⟩⟩⟩
theorem ry_11 {σ σ8 : sg_S} {X : sg_S → Prop} {m : Nat} {p k : Int} (hp : sg_g σ8 61 8 = p) (h0 : 0 ≤ p ∧ p < 1013) (hz : sg_g σ8 61 10 = 0) (h29 : sg_g σ 29 p = 11) (h30 : sg_g σ 30 p = k) (h : ∀ σ32, σ32 = sg_w σ8 61 8 (p + 1) → V_fSift σ32 (k) (fun σ133 => sg_F [62, 70, 74, 78, 79, 80, 81, 82, 83, 85, 86, 87, 8061, 11061, 11077, 12077, 13077, 14077, 15077, 16077, 17077, 18077, 19077, 22061, 24061] σ32 σ133 → (Ry σ X m) σ133)) : Ry σ X (m + 1) σ8 := by
  refine ⟨fun z => by omega, fun z => absurd hz z, fun _ _ => ?_⟩
  refine ⟨⟨by omega, by omega⟩, fun σ32 e32 => ?_⟩
  unfold mStp
  rw [hp] at e32 ⊢
  rw [xa_in (a := 29) h0, xa_in (a := 30) h0, h29, h30]
  exact ⟨fun z => absurd z (by decide), fun _ => ⟨fun z => absurd z (by decide), fun _ => ⟨fun z => absurd z (by decide), fun _ => ⟨fun z => absurd z (by decide), fun _ => ⟨fun z => absurd z (by decide), fun _ => ⟨fun z => absurd z (by decide), fun _ => ⟨fun z => absurd z (by decide), fun _ => ⟨fun z => absurd z (by decide), fun _ => ⟨fun z => absurd z (by decide), fun _ => ⟨fun z => absurd z (by decide), fun _ => ⟨fun z => absurd z (by decide), fun _ => ⟨fun _ => h σ32 e32, fun z => absurd rfl z⟩⟩⟩⟩⟩⟩⟩⟩⟩⟩⟩⟩
theorem ry_12 {σ σ8 : sg_S} {X : sg_S → Prop} {m : Nat} {p k : Int} (hp : sg_g σ8 61 8 = p) (h0 : 0 ≤ p ∧ p < 1013) (hz : sg_g σ8 61 10 = 0) (h29 : sg_g σ 29 p = 12) (h30 : sg_g σ 30 p = k) (h : ∀ σ32, σ32 = sg_w σ8 61 8 (p + 1) → V_fNext σ32 (k) (fun σ139 => sg_F [] σ32 σ139 → (Ry σ X m) σ139)) : Ry σ X (m + 1) σ8 := by
  refine ⟨fun z => by omega, fun z => absurd hz z, fun _ _ => ?_⟩
  refine ⟨⟨by omega, by omega⟩, fun σ32 e32 => ?_⟩
  unfold mStp
  rw [hp] at e32 ⊢
  rw [xa_in (a := 29) h0, xa_in (a := 30) h0, h29, h30]
  exact ⟨fun z => absurd z (by decide), fun _ => ⟨fun z => absurd z (by decide), fun _ => ⟨fun z => absurd z (by decide), fun _ => ⟨fun z => absurd z (by decide), fun _ => ⟨fun z => absurd z (by decide), fun _ => ⟨fun z => absurd z (by decide), fun _ => ⟨fun z => absurd z (by decide), fun _ => ⟨fun z => absurd z (by decide), fun _ => ⟨fun z => absurd z (by decide), fun _ => ⟨fun z => absurd z (by decide), fun _ => ⟨fun z => absurd z (by decide), fun _ => ⟨fun z => absurd z (by decide), fun _ => h σ32 e32⟩⟩⟩⟩⟩⟩⟩⟩⟩⟩⟩⟩
