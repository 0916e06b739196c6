/-! THE READER'S CELLS and what they stand for. -/
theorem rg_w (σ : sg_S) (a b : Nat) (k z : Int) : sg_g (sg_w σ a k z) b = if b = a then (fun j => if j = k then sg_n z else sg_g σ a j) else sg_g σ b := by
  funext j
  by_cases h : b = a
  · subst h
    rw [if_pos rfl, sg_gw]
    by_cases h2 : j = k
    · rw [if_pos ⟨rfl, h2⟩, if_pos h2]
    · rw [if_neg (fun q => h2 q.2), if_neg h2]
  · rw [if_neg h, sg_gw, if_neg (fun q => h q.1)]
theorem rg_wl (σ : sg_S) (a b : Nat) (k z : Int) : sg_gl (sg_wl σ a k z) b = if b = a then (fun j => if j = k then sg_nl z else sg_gl σ a j) else sg_gl σ b := by
  funext j
  by_cases h : b = a
  · subst h
    rw [if_pos rfl, sg_gwl]
    by_cases h2 : j = k
    · rw [if_pos ⟨rfl, h2⟩, if_pos h2]
    · rw [if_neg (fun q => h2 q.2), if_neg h2]
  · rw [if_neg h, sg_gwl, if_neg (fun q => h q.1)]
theorem rg_w' (σ : sg_S) (a b : Nat) (k z : Int) : sg_gl (sg_w σ a k z) b = sg_gl σ b := rfl
theorem rg_wl' (σ : sg_S) (a b : Nat) (k z : Int) : sg_g (sg_wl σ a k z) b = sg_g σ b := rfl
/-- a pile of numbers in a row: n of them, the newest first -/
def stk (g : Int → Int) : Int → List Int → Prop
  | n, [] => n = 0
  | n, x :: r => 0 < n ∧ g (n - 1) = x ∧ stk g (n - 1) r
def pst (g h : Int → Int) : Int → List (Int × Int) → Prop
  | n, [] => n = 0
  | n, x :: r => 0 < n ∧ g (n - 1) = x.1 ∧ h (n - 1) = x.2 ∧ pst g h (n - 1) r
theorem stk_n {g : Int → Int} : ∀ {n : Int} {l : List Int}, stk g n l → n = l.length
  | n, [], h => by simp only [stk] at h; simp [h]
  | n, x :: r, h => by have := stk_n h.2.2; simp only [List.length_cons]; omega
theorem pst_n {g h : Int → Int} : ∀ {n : Int} {l : List (Int × Int)}, pst g h n l → n = l.length
  | n, [], q => by simp only [pst] at q; simp [q]
  | n, x :: r, q => by have := pst_n q.2.2.2; simp only [List.length_cons]; omega
theorem stk_e {g g' : Int → Int} : ∀ {n : Int} {l : List Int}, stk g n l → (∀ j, 0 ≤ j → j < n → g' j = g j) → stk g' n l
  | n, [], h, _ => h
  | n, x :: r, h, e => by
    have hn := stk_n h.2.2
    have h0 := h.1
    exact ⟨h.1, by rw [e _ (by omega) (by omega)]; exact h.2.1, stk_e h.2.2 (fun j a b => e j a (by omega))⟩
theorem pst_e {g h g' h' : Int → Int} : ∀ {n : Int} {l : List (Int × Int)}, pst g h n l → (∀ j, 0 ≤ j → j < n → g' j = g j ∧ h' j = h j) → pst g' h' n l
  | n, [], q, _ => q
  | n, x :: r, q, e => by
    have hn := pst_n q.2.2.2
    have h0 := q.1
    exact ⟨q.1, by rw [(e _ (by omega) (by omega)).1]; exact q.2.1, by rw [(e _ (by omega) (by omega)).2]; exact q.2.2.1, pst_e q.2.2.2 (fun j a b => e j a (by omega))⟩
theorem stk_p {g : Int → Int} {n x : Int} {l : List Int} (h : stk g n l) (hx : sg_R x) : stk (fun j => if j = n then sg_n x else g j) (n + 1) (x :: l) := by
  have hn := stk_n h
  refine ⟨by omega, ?_, ?_⟩
  · simp only [show n + 1 - 1 = n by omega, if_true, sg_id hx]
  · rw [show n + 1 - 1 = n by omega]
    exact stk_e h (fun j a b => by simp only [if_neg (show ¬ j = n by omega)])
theorem pst_p {g h : Int → Int} {n x y : Int} {l : List (Int × Int)} (q : pst g h n l) (hx : sg_R x) (hy : sg_R y) : pst (fun j => if j = n then sg_n x else g j) (fun j => if j = n then sg_n y else h j) (n + 1) ((x, y) :: l) := by
  have hn := pst_n q
  refine ⟨by omega, ?_, ?_, ?_⟩
  · simp only [show n + 1 - 1 = n by omega, if_true, sg_id hx]
  · simp only [show n + 1 - 1 = n by omega, if_true, sg_id hy]
  · rw [show n + 1 - 1 = n by omega]
    exact pst_e q (fun j a b => by simp only [if_neg (show ¬ j = n by omega), and_self])
/-- the tokens' rows -/
def tkR (t : aK) (N : Nat) (s p w : Int → Int) : Prop := N < 1210 ∧ (∀ i : Nat, i ≤ N → s i = t.1 i ∧ p i = t.2.2 i ∧ w i = t.2.1 i) ∧ (∀ i : Nat, i < N → 1 ≤ t.1 i ∧ t.1 i ≤ 3) ∧ (t.1 N = 0 ∨ t.1 N = 4) ∧ ∀ i : Nat, i ≤ N → 0 ≤ t.2.2 i ∧ t.2.2 i ≤ 1200
/-- the tree's rows -/
def trR (A : aT) (n : Int) (kd pl wd ks ko gs gw gp : Int → Int) : Prop := n = A.1 ∧ 0 ≤ A.1 ∧ A.1 ≤ 200 ∧ ∀ k, 0 ≤ k → k < A.1 → kd k = A.2.1 k ∧ pl k = A.2.2.1 k ∧ wd k = A.2.2.2.1 k ∧ ks k = (A.2.2.2.2.1 k).length ∧ (A.2.2.2.2.1 k).length ≤ 200 ∧ (∀ (j : Nat) (x : Int), (A.2.2.2.2.1 k)[j]? = some x → ko (200 * k + j) = x) ∧ gs k = (A.2.2.2.2.2 k).length ∧ (A.2.2.2.2.2 k).length ≤ 4 ∧ (∀ (j : Nat) (x : Int × Int), (A.2.2.2.2.2 k)[j]? = some x → gw (4 * k + j) = x.1 ∧ gp (4 * k + j) = x.2)
/-- no node has more kids than there are nodes that found their place -/
def aB (A : aT) (m : Int) : Prop := ∀ k, 0 ≤ k → k < A.1 → ((A.2.2.2.2.1 k).length : Int) ≤ m
/-- the fault's place -/
def fpl (σ : sg_S) : Prop := -2147483648 ≤ sg_g σ 88 30 ∧ sg_g σ 88 30 ≤ 2147483647
/-- the reader's cells: tokens, fault, token, tree, values, how deep, pile -/
def Rp (t : aK) (N : Nat) (σ : sg_S) (F : Int) (i : Nat) (A : aT) (vs : List Int) (d : Int) (P : List (Int × Int)) : Prop := tkR t N (sg_g σ 90) (sg_g σ 91) (sg_gl σ 92) ∧ sg_g σ 88 29 = F ∧ sg_g σ 88 7 = i ∧ i ≤ N ∧ trR A (sg_g σ 88 8) (sg_g σ 93) (sg_g σ 94) (sg_gl σ 95) (sg_g σ 96) (sg_g σ 97) (sg_g σ 98) (sg_gl σ 99) (sg_g σ 100) ∧ stk (sg_g σ 112) (sg_g σ 88 34) vs ∧ sg_g σ 88 36 = d ∧ pst (sg_g σ 110) (sg_g σ 111) (sg_g σ 88 31) P ∧ fpl σ
section RPS
variable {t : aK} {N : Nat} {σ : sg_S} {F : Int} {i : Nat} {A : aT} {vs : List Int} {d : Int} {P : List (Int × Int)}
theorem s_pile {Q : sg_S → Prop} {a n : Int} (h : Rp t N σ F i A vs d P) (ha : sg_R a) (hn : sg_R n) (hl : P.length < 4000) (k : ∀ σ', Rp t N σ' F i A vs d ((a, n) :: P) → Q σ') : V_pile σ a n Q := by
  obtain ⟨h1, h2, h3, h4, h5, h6, h7, h8, h10⟩ := h
  have hp := pst_n h8
  unfold V_pile
  refine ⟨⟨by omega, by omega⟩, ?_⟩
  rintro σ2 rfl σ5 rfl
  refine ⟨⟨by omega, by omega⟩, ?_⟩
  rintro σ9 rfl
  refine k _ ?_
  refine ⟨?_, ?_, ?_, ?_, ?_, ?_, ?_, ?_, ?_⟩
  all_goals try simp only [fpl, rg_w, rg_w', Nat.reduceEqDiff, if_false, if_true, reduceIte, Int.reduceEq]
  · exact h1
  · exact h2
  · exact h3
  · exact h4
  · exact h5
  · exact h6
  · exact h7
  · rw [sg_id (z := sg_g σ 88 31 + 1) ⟨by omega, by omega⟩]
    exact pst_p h8 ha hn
  · exact h10
theorem Rp_t (h : Rp t N σ F i A vs d P) : sg_g σ 90 (sg_g σ 88 7) = t.1 i ∧ sg_g σ 91 (sg_g σ 88 7) = t.2.2 i ∧ sg_gl σ 92 (sg_g σ 88 7) = t.2.1 i ∧ 0 ≤ sg_g σ 88 7 ∧ sg_g σ 88 7 < 1210 ∧ i ≤ N ∧ N < 1210 := by
  obtain ⟨h1, h2, h3, h4, h5, h6, h7, h8, h10⟩ := h
  rw [h3]
  have h9 := h1.1
  obtain ⟨e1, e2, e3⟩ := h1.2.1 i h4
  exact ⟨e1, e2, e3, by omega, by omega, h4, h9⟩
theorem Rp_p (h : Rp t N σ F i A vs d P) : 0 ≤ sg_g σ 91 (sg_g σ 88 7) ∧ sg_g σ 91 (sg_g σ 88 7) ≤ 1200 := by
  rw [(Rp_t h).2.1]
  exact h.1.2.2.2.2 i h.2.2.2.1
theorem Rp_i (h : Rp t N σ F i A vs d P) (hs : 1 ≤ t.1 i ∧ t.1 i ≤ 3) : i < N := by
  obtain ⟨h1, h2, h3, h4, h5, h6, h7, h8, h10⟩ := h
  have := h1.2.2.2.1
  by_cases e : i = N
  · subst e; omega
  · omega
theorem p_sg (h : Rp t N σ F i A vs d P) (ch : Int) : p_isSignNow σ ch := by
  have h1 := Rp_t h
  unfold p_isSignNow
  exact ⟨⟨h1.2.2.2.1, h1.2.2.2.2.1⟩, fun _ => trivial, fun _ => ⟨fun _ => trivial, fun _ => trivial⟩⟩
theorem vs_sg (h : Rp t N σ F i A vs d P) (ch : Int) : v_isSignNow σ ch = if aSg t i ch = true then 1 else 0 := by
  have h1 := Rp_t h
  unfold v_isSignNow aSg
  rw [h1.1, h1.2.2.1]
  by_cases a : t.1 i = 3 <;> by_cases b : t.2.1 i = ch <;> simp [a, b]
theorem p_nm (h : Rp t N σ F i A vs d P) : p_isName σ := by
  have h1 := Rp_t h
  unfold p_isName
  exact ⟨⟨h1.2.2.2.1, h1.2.2.2.2.1⟩, fun _ => trivial, fun _ => ⟨fun _ => trivial, fun _ => trivial⟩⟩
theorem vs_nm (h : Rp t N σ F i A vs d P) : v_isName σ = if aNm t i = true then 1 else 0 := by
  have h1 := Rp_t h
  unfold v_isName aNm
  rw [h1.1, h1.2.2.1]
  by_cases a : t.1 i = 2 <;> by_cases b : v_isReserved (t.2.1 i) = 0 <;> simp [a, b]
theorem p_wo (h : Rp t N σ F i A vs d P) {L : Int} (hL : p_told L) : p_isWord σ L := by
  have h1 := Rp_t h
  unfold p_isWord
  exact ⟨⟨h1.2.2.2.1, h1.2.2.2.2.1⟩, fun _ => trivial, fun _ => ⟨hL, fun _ => trivial, fun _ => trivial⟩⟩
theorem vs_wo (h : Rp t N σ F i A vs d P) (L w : Int) (hw : v_told L = w) : v_isWord σ L = if aWo t i w = true then 1 else 0 := by
  have h1 := Rp_t h
  unfold v_isWord aWo
  rw [h1.1, h1.2.2.1, hw]
  by_cases a : t.1 i = 2 <;> by_cases b : t.2.1 i = w <;> simp [a, b]
theorem s_popped {Q : Int → sg_S → Prop} {q : Int} (h : Rp t N σ F i A (q :: vs) d P) (hl : vs.length < 400) (k : ∀ σ', Rp t N σ' F i A vs d P → Q q σ') : V_popped σ Q := by
  obtain ⟨h1, h2, h3, h4, h5, h6, h7, h8, h10⟩ := h
  have hp := stk_n h6
  simp only [List.length_cons] at hp
  unfold V_popped
  refine ⟨⟨by omega, by omega⟩, ?_⟩
  rintro σ2 rfl
  refine ⟨⟨by omega, by omega⟩, ?_⟩
  rw [h6.2.1]
  refine k _ ?_
  refine ⟨?_, ?_, ?_, ?_, ?_, ?_, ?_, ?_, ?_⟩
  all_goals try simp only [fpl, rg_w, rg_w', Nat.reduceEqDiff, if_false, if_true, reduceIte, Int.reduceEq]
  · exact h1
  · exact h2
  · exact h3
  · exact h4
  · exact h5
  · rw [sg_id (z := sg_g σ 88 34 - 1) ⟨by omega, by omega⟩]
    exact h6.2.2
  · exact h7
  · exact h8
  · exact h10
theorem s_pushed {Q : sg_S → Prop} {q : Int} (h : Rp t N σ F i A vs d P) (hq : sg_R q) (hl : vs.length < 400) (k : ∀ σ', Rp t N σ' F i A (q :: vs) d P → Q σ') : V_pushed σ q Q := by
  obtain ⟨h1, h2, h3, h4, h5, h6, h7, h8, h10⟩ := h
  have hp := stk_n h6
  unfold V_pushed
  refine ⟨⟨by omega, by omega⟩, ?_⟩
  rintro σ2 rfl
  refine ⟨⟨by omega, by omega⟩, ?_⟩
  rintro σ6 rfl
  refine k _ ?_
  refine ⟨?_, ?_, ?_, ?_, ?_, ?_, ?_, ?_, ?_⟩
  all_goals try simp only [fpl, rg_w, rg_w', Nat.reduceEqDiff, if_false, if_true, reduceIte, Int.reduceEq]
  · exact h1
  · exact h2
  · exact h3
  · exact h4
  · exact h5
  · rw [sg_id (z := sg_g σ 88 34 + 1) ⟨by omega, by omega⟩]
    exact stk_p h6 hq
  · exact h7
  · exact h8
  · exact h10
theorem Rp_d (h : Rp t N σ F i A vs d P) {e : Int} (he : sg_R e) : Rp t N (sg_w σ 88 36 e) F i A vs e P := by
  obtain ⟨h1, h2, h3, h4, h5, h6, h7, h8, h10⟩ := h
  refine ⟨?_, ?_, ?_, ?_, ?_, ?_, ?_, ?_, ?_⟩
  all_goals try simp only [fpl, rg_w, rg_w', Nat.reduceEqDiff, if_false, if_true, reduceIte, Int.reduceEq]
  · exact h1
  · exact h2
  · exact h3
  · exact h4
  · exact h5
  · exact h6
  · exact sg_id he
  · exact h8
  · exact h10
theorem s_wrong {Q : sg_S → Prop} {p : Int} (h : Rp t N σ F i A vs d P) (hp : 0 ≤ p ∧ p ≤ 1200) (k : ∀ σ' F', ¬ F' = 0 → Rp t N σ' F' i A vs d P → Q σ') : V_wrong σ 1 p Q := by
  unfold V_wrong
  refine ⟨fun e => k σ F (by rw [← h.2.1]; exact e) h, fun _ => ?_⟩
  obtain ⟨h1, h2, h3, h4, h5, h6, h7, h8, h10⟩ := h
  rintro σ2 rfl σ5 rfl
  refine k _ 1 (by decide) ?_
  refine ⟨?_, ?_, ?_, ?_, ?_, ?_, ?_, ?_, ?_⟩
  all_goals try simp only [fpl, rg_w, rg_w', Nat.reduceEqDiff, if_false, if_true, reduceIte, Int.reduceEq]
  · exact h1
  · exact sg_id (by decide)
  · exact h3
  · exact h4
  · exact h5
  · exact h6
  · exact h7
  · exact h8
  · rw [sg_id (z := p) ⟨by omega, by omega⟩]; exact ⟨by omega, by omega⟩
theorem s_want {Q : sg_S → Prop} {b : Int} (h : Rp t N σ F i A vs d P) (hi : F = 0 → ¬ b = 0 → i < N) (k : ∀ σ' F', (F' = 0 ↔ F = 0 ∧ ¬ b = 0) → Rp t N σ' F' (if F' = 0 then i + 1 else i) A vs d P → Q σ') : V_want σ b Q := by
  have ht := Rp_t h
  unfold V_want
  refine ⟨fun σ4 => ∃ F', (F' = 0 ↔ F = 0 ∧ ¬ b = 0) ∧ Rp t N σ4 F' i A vs d P, ⟨fun hb => ⟨F, by omega, h⟩, fun hb => ⟨⟨ht.2.2.2.1, ht.2.2.2.2.1⟩, s_wrong h (Rp_p h) (fun σ' F' hF hR _ => ⟨F', by omega, hR⟩)⟩⟩, ?_⟩
  rintro σ4 - ⟨F', hF', hR⟩
  have e7 : sg_g σ 88 7 = i := h.2.2.1
  obtain ⟨h1, h2, h3, h4, h5, h6, h7, h8, h10⟩ := hR
  rw [h2]
  refine ⟨fun e => k σ4 F' hF' ?_, fun e => ⟨⟨by omega, by omega⟩, ?_⟩⟩
  · rw [if_neg e]
    exact ⟨h1, h2, h3, h4, h5, h6, h7, h8, h10⟩
  · rintro σ9 rfl
    refine k _ F' hF' ?_
    rw [if_pos e]
    have hi2 := hi (hF'.mp e).1 (hF'.mp e).2
    refine ⟨?_, ?_, ?_, ?_, ?_, ?_, ?_, ?_, ?_⟩
    all_goals try simp only [fpl, rg_w, rg_w', Nat.reduceEqDiff, if_false, if_true, reduceIte, Int.reduceEq]
    · exact h1
    · exact h2
    · rw [sg_id (z := sg_g σ 88 7 + 1) ⟨by omega, by omega⟩, e7]
      omega
    · exact hi2
    · exact h5
    · exact h6
    · exact h7
    · exact h8
    · exact h10
theorem s_enter {Q : sg_S → Prop} (h : Rp t N σ F i A vs d P) (hd : 0 ≤ d ∧ d ≤ 100) (k : ∀ σ' F', (F' = 0 ↔ F = 0 ∧ d < 12) → Rp t N σ' F' i A vs (d + 1) P → Q σ') : V_enter σ Q := by
  have ht := Rp_t h
  have e36 : sg_g σ 88 36 = d := h.2.2.2.2.2.2.1
  have hR : Rp t N (sg_w σ 88 36 (d + 1)) F i A vs (d + 1) P := Rp_d h ⟨by omega, by omega⟩
  unfold V_enter
  rw [e36]
  refine ⟨⟨by omega, by omega⟩, ?_⟩
  rintro σ2 rfl
  refine ⟨fun e => k _ F (by omega) hR, fun e => ⟨⟨ht.2.2.2.1, ht.2.2.2.2.1⟩, s_wrong hR (Rp_p h) (fun σ' F' hF hR' _ => k σ' F' (by omega) hR')⟩⟩
end RPS
