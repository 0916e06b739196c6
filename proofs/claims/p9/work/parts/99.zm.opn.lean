/-! open, ahead, enter of the class. -/
theorem kmp_q {k : Int} (h : 0 ≤ k ∧ k ≤ 27) : (kmp k = 262 ↔ k = 2) ∧ (kmp k = 264 ↔ k = 3) ∧ (kmp k = 123 ↔ k = 15) ∧ (kmp k = 258 ↔ k = 1) ∧ (kmp k = 280 ↔ k = 13) := by
  have c : k = 0 ∨ k = 1 ∨ k = 2 ∨ k = 3 ∨ k = 4 ∨ k = 5 ∨ k = 6 ∨ k = 7 ∨ k = 8 ∨ k = 9 ∨ k = 10 ∨ k = 11 ∨ k = 12 ∨ k = 13 ∨ k = 14 ∨ k = 15 ∨ 16 ≤ k := by omega
  rcases c with c | c | c | c | c | c | c | c | c | c | c | c | c | c | c | c | c
  all_goals first | (subst c; decide) | skip
  unfold kmp
  rw [if_neg (by omega), if_neg (by omega), if_neg (by omega), if_neg (by omega), if_neg (by omega), if_neg (by omega), if_neg (by omega), if_neg (by omega), if_neg (by omega), if_neg (by omega), if_neg (by omega), if_neg (by omega), if_neg (by omega), if_neg (by omega), if_neg (by omega), if_neg (by omega)]
  refine ⟨?_, ?_, ?_, ?_, ?_⟩ <;> omega
section OPN
variable {σ : sg_S} {A : aT} {e : kE} {n : Int} {c : Nat} {Q : sg_S → Prop}
theorem c_open (h : ckW σ A) (hn : 0 ≤ n ∧ n < A.1) (hw : nW A n) (hk : A.2.1 n = 15) (hF : cZ σ) (ht : ∀ x ∈ kGs A n, kIn (sg_g σ 6 x)) (he : ckE σ (sg_g σ 38 9) e) (hel : e.length ≤ 250) (hc : sg_g σ 38 10 = c) (hc2 : c + (A.2.2.2.2.2 n).length ≤ 272) (k1 : ∀ σ', kGens (sg_g σ 6) (A.2.2.2.2.2 n) (kGs A n) = false → cF σ' → sg_F [16, 29, 30, 32, 33, 34, 39, 40, 7028, 10038, 11038, 13038, 14038] σ σ' → Q σ') (k2 : ∀ σ', kGens (sg_g σ 6) (A.2.2.2.2.2 n) (kGs A n) = true → cZ σ' → ckE σ' (sg_g σ' 38 9) (kBind (sg_g σ 6) (A.2.2.2.2.2 n) (kGs A n) e) → sg_g σ' 38 10 = (c + (A.2.2.2.2.2 n).length : Nat) → sg_F [16, 29, 30, 32, 33, 34, 39, 40, 7028, 10038, 11038, 13038, 14038] σ σ' → Q σ') : V_kOpen σ n Q := by
  obtain ⟨p0, p1, p2, p3, p4, p5, p6⟩ := ckW_p h hn
  obtain ⟨n1, n2, n3, n4, n5, n6, n7, n8⟩ := id hw
  have hl := n7 hk
  have hkl := kOrd_len A n
  obtain ⟨e1, e2, e3⟩ := (h.2.2 n hn.1 hn.2).1.2.2.2.2 hk
  have hwn := (h.2.1 n)
  have en := ckE_n he
  have hpl : sg_g σ 4 n = A.2.2.1 n := (h.2.2 n hn.1 hn.2).1.2.1
  generalize hgs : A.2.2.2.2.2 n = gs at *
  generalize hxs : kGs A n = xs at *
  have hxl : xs.length = gs.length := by
    rw [← hxs]; unfold kGs; rw [hgs, List.length_take, List.length_drop]; omega
  have hxo : ∀ j : Nat, j < gs.length → (kOrd A n)[j]? = xs[j]? := fun j hj => by
    rw [← hxs]; unfold kOrd kGs; rw [if_pos hk, hgs, List.getElem?_take, if_pos hj, List.getElem?_append_left (by rw [List.length_drop]; omega)]
  have hxk : ∀ (j : Nat) (x : Int), xs[j]? = some x → (A.2.2.2.2.1 n)[1 + j]? = some x := fun j x hj => by
    rw [← hxs] at hj
    unfold kGs at hj
    rw [List.getElem?_take] at hj
    split at hj
    · rw [List.getElem?_drop] at hj; exact hj
    · cases hj
  have hwl : (gs.map (·.1)).length = gs.length := List.length_map _
  have hwj : ∀ (j : Nat) (y : Int × Int), gs[j]? = some y → (gs.map (·.1))[j]? = some y.1 := fun j y hy => by rw [List.getElem?_map, hy]; rfl
  generalize hws : gs.map (·.1) = ws at *
  unfold V_kOpen
  intro σ1 es1
  have f1 : sg_F [16] σ σ1 := by rw [es1]; exact xF_p (sg_F_r _ _) rfl _ _ _
  rw [p1 13 200 rfl, e1, p1 7 200 rfl]
  refine ⟨fun m v4 v5 v6 σ7 => ∃ (i : Nat) (ev : kE), v6 = i ∧ m = gs.length - i ∧ i ≤ gs.length ∧ (∀ x, (kOrd A n)[i]? = some x → v5 = x) ∧ ((v4 = 1 ∧ ∀ (j : Nat) (x : Int), j < i → xs[j]? = some x → 0 < sg_g σ 6 x) ∨ (v4 = 0 ∧ ∃ x ∈ xs, ¬ 0 < sg_g σ 6 x)) ∧ ((cZ σ7 ∧ (ws.take i).Nodup) ∨ (cF σ7 ∧ ¬ ws.Nodup)) ∧ ckE σ7 (sg_g σ7 38 9) ev ∧ ev.length = e.length + i ∧ kBind (sg_g σ 6) (gs.drop i) (xs.drop i) ev = kBind (sg_g σ 6) gs xs e ∧ sg_g σ7 38 10 = (c + i : Nat) ∧ ∀ (j : Nat) (y : Int × Int), j < i → gs[j]? = some y → sg_gl σ7 39 ((e.length : Int) + j) = uv y.1, fun v4 σ7 => ((v4 = 1 ∧ ∀ x ∈ xs, 0 < sg_g σ 6 x) ∨ (v4 = 0 ∧ ∃ x ∈ xs, ¬ 0 < sg_g σ 6 x)) ∧ ((cZ σ7 ∧ ws.Nodup) ∨ (cF σ7 ∧ ¬ ws.Nodup)) ∧ ckE σ7 (sg_g σ7 38 9) (kBind (sg_g σ 6) gs xs e) ∧ sg_g σ7 38 10 = (c + gs.length : Nat), ⟨_, 0, e, rfl, rfl, Nat.zero_le _, fun x hx => p3 x hx, Or.inl ⟨rfl, fun j x hj => by omega⟩, Or.inl ⟨cZ_F hF f1 rfl, by simp⟩, by rw [sg_F_g f1 (by rfl)]; exact ckE_F he f1 rfl, rfl, rfl, by rw [sg_F_g f1 (by rfl)]; exact hc, fun j y hj => by omega⟩, ?_, ?_⟩
  · rintro m v4 v5 v6 σ7 r4 r5 r6 fr ⟨i, ev, rfl, em, hi, hv5, hv4, hnd, hce, hevl, hkb, hsl, hnm⟩
    have en7 := ckE_n hce
    have fin : gs.length ≤ i → ((v4 = 1 ∧ ∀ x ∈ xs, 0 < sg_g σ 6 x) ∨ (v4 = 0 ∧ ∃ x ∈ xs, ¬ 0 < sg_g σ 6 x)) ∧ ((cZ σ7 ∧ ws.Nodup) ∨ (cF σ7 ∧ ¬ ws.Nodup)) ∧ ckE σ7 (sg_g σ7 38 9) (kBind (sg_g σ 6) gs xs e) ∧ sg_g σ7 38 10 = (c + gs.length : Nat) := fun hgi => by
      have : i = gs.length := by omega
      subst this
      refine ⟨?_, ?_, ?_, hsl⟩
      · rcases hv4 with ⟨a, b⟩ | b
        · refine Or.inl ⟨a, fun x hx => ?_⟩
          obtain ⟨j, hj⟩ := List.getElem?_of_mem hx
          have hj2 : j < xs.length := by
            rcases Nat.lt_or_ge j xs.length with q | q
            · exact q
            · rw [List.getElem?_eq_none q] at hj; cases hj
          exact b j x (by omega) hj
        · exact Or.inr b
      · rw [List.take_of_length_le (by omega)] at hnd; exact hnd
      · rw [List.drop_eq_nil_of_le (Nat.le_refl _)] at hkb
        simp only [kBind] at hkb
        rw [← hkb]; exact hce
    refine ⟨fun d => fin (by omega), fun d => ⟨fun d2 => fin (by omega), fun d2 => ?_⟩⟩
    obtain ⟨x, hx⟩ : ∃ x, xs[i]? = some x := ⟨_, List.getElem?_eq_getElem (by omega)⟩
    obtain ⟨y, hy⟩ : ∃ y, gs[i]? = some y := ⟨_, List.getElem?_eq_getElem (by omega)⟩
    have hxo' : (kOrd A n)[i]? = some x := by rw [hxo i (by omega)]; exact hx
    have ex := hv5 x hxo'
    subst ex
    have xr := p6 v5 (List.mem_of_getElem? hxo')
    obtain ⟨g1, g2⟩ := e3 i y v5 hy (hxk i v5 hx)
    have wy := hwn.2.1 y (List.mem_of_getElem? hy)
    have tx := ht v5 (List.mem_of_getElem? hx)
    have tx1 := tx.1
    have tx2 := tx.2
    have hwi := hwj i y hy
    rw [xl_in xr, g1, xa_in (a := 15) xr, g2, xa_in (a := 6) xr, xa_in (a := 9) xr]
    refine ⟨fun m' v43 σ44 => ∃ j : Nat, v43 = (e.length : Int) + j ∧ m' = i - j ∧ j ≤ i ∧ ((cZ σ44 ∧ (ws.take i).Nodup ∧ ∀ k : Nat, k < j → ¬ ws[k]? = some y.1) ∨ (cF σ44 ∧ ¬ ws.Nodup)), fun σ44 => (cZ σ44 ∧ (ws.take (i + 1)).Nodup) ∨ (cF σ44 ∧ ¬ ws.Nodup), ⟨_, 0, by omega, rfl, Nat.zero_le _, ?_⟩, ?_, ?_⟩
    · rcases hnd with ⟨a, b⟩ | a
      · exact Or.inl ⟨a, b, fun k hk => by omega⟩
      · exact Or.inr a
    · rintro m' v43 σ44 r43 fr44 ⟨j, rfl, em', hj, hi3⟩
      have fin2 : i ≤ j → (cZ σ44 ∧ (ws.take (i + 1)).Nodup) ∨ (cF σ44 ∧ ¬ ws.Nodup) := fun hij => by
        rcases hi3 with ⟨a, b, b2⟩ | a
        · exact Or.inl ⟨a, (nd_take hwi).mpr ⟨b, fun k hk => b2 k (by omega)⟩⟩
        · exact Or.inr a
      refine ⟨fun c2 => fin2 (by omega), fun c2 => ⟨fun c3 => fin2 (by omega), fun c3 => ?_⟩⟩
      obtain ⟨u, hu⟩ : ∃ u, gs[j]? = some u := ⟨_, List.getElem?_eq_getElem (by omega)⟩
      have wu := hwn.2.1 u (List.mem_of_getElem? hu)
      rw [xl_in ⟨by omega, by omega⟩, hnm j u (by omega) hu]
      refine ⟨fun hne => ⟨⟨by omega, by omega⟩, i - (j + 1), by omega, j + 1, by omega, rfl, by omega, ?_⟩, fun heq => c_blame (fun z => ?_) (by decide) ⟨wy.2, by rw [← g2]; exact sg_Rg _ _ _⟩ (fun σ4 t1 t2 _ => ⟨⟨by omega, by omega⟩, i - (j + 1), by omega, j + 1, by omega, rfl, by omega, Or.inr ⟨t1, ?_⟩⟩)⟩
      · rcases hi3 with ⟨a, b, b2⟩ | a
        · refine Or.inl ⟨a, b, fun k hk => ?_⟩
          by_cases e5 : k = j
          · subst e5
            rw [hwj k u hu]
            exact fun z => hne (by rw [Option.some.inj z])
          · exact b2 k (by omega)
        · exact Or.inr a
      · rcases hi3 with ⟨a, -⟩ | a
        · exact absurd a.1 z
        · exact a.1.2
      · have huy := uv_inj wu.1 wy.1 heq
        refine nd_sub (v := i + 1) (fun z => ((nd_take hwi).mp z).2 j (by omega) ?_)
        rw [hwj j u hu, huy]
    · intro σ44 fr44 h44
      refine ⟨⟨fun _ => trivial, fun _ => ⟨fun _ => trivial, fun _ => trivial⟩⟩, fun v60 e60 r60 => ⟨⟨by omega, by omega⟩, ?_⟩⟩
      have ce44 : ckE σ44 (sg_g σ44 38 9) ev := by rw [sg_F_g fr44 (by rfl)]; exact ckE_F hce fr44 rfl
      have k44 : sg_g σ44 38 9 = (e.length + i : Nat) := by rw [sg_F_g fr44 (by rfl), en7, hevl]
      refine c_bind ce44 (by rw [sg_F_g fr44 (by rfl)]; exact hsl) (by omega) (by omega) wy.1 (by rw [← g1]; exact sg_Rgl _ _ _) ⟨by omega, by omega⟩ (fun σ65 b1 b2 b3 b4 _ _ => ⟨⟨by clear hv4; omega, by clear hv4; omega⟩, gs.length - (i + 1), by clear hv4; omega, i + 1, (y.1, sg_g σ 6 v5 - 1) :: ev, by clear hv4; omega, rfl, by clear hv4; omega, fun z hz => p5 i _ z hxo' hz, ?_, ?_, b1, by simp only [List.length_cons]; clear hv4; omega, ?_, by rw [b2]; rfl, fun j u hj hu => ?_⟩)
      · rcases hv4 with ⟨a, b⟩ | ⟨a, b⟩
        · rw [if_neg (by omega)] at e60
          by_cases c5 : sg_g σ 6 v5 ≤ 0
          · rw [if_pos c5] at e60
            exact Or.inr ⟨e60, v5, List.mem_of_getElem? hx, by omega⟩
          · rw [if_neg c5] at e60
            refine Or.inl ⟨e60, fun j z hj hz => ?_⟩
            by_cases e5 : j = i
            · subst e5; rw [hx] at hz; cases hz; omega
            · exact b j z (by omega) hz
        · rw [if_pos a] at e60
          exact Or.inr ⟨e60, b⟩
      · rcases h44 with ⟨a, b⟩ | ⟨a, b⟩
        · exact Or.inl ⟨cZ_F a b4 rfl, b⟩
        · exact Or.inr ⟨cF_F a b4 rfl, b⟩
      · have dx : xs.drop i = v5 :: xs.drop (i + 1) := by
          have hl2 : i < xs.length := by omega
          rw [List.drop_eq_getElem_cons hl2]
          rw [List.getElem?_eq_getElem hl2] at hx
          rw [Option.some.inj hx]
        have dy : gs.drop i = y :: gs.drop (i + 1) := by
          have hl2 : i < gs.length := by omega
          rw [List.drop_eq_getElem_cons hl2]
          rw [List.getElem?_eq_getElem hl2] at hy
          rw [Option.some.inj hy]
        rw [dx, dy] at hkb
        simp only [kBind] at hkb
        exact hkb
      · by_cases e5 : j = i
        · subst e5
          rw [hy] at hu
          cases hu
          have n65 := ckE_n b1
          simp only [List.length_cons] at n65
          have := b1.2.1
          rw [show sg_g σ65 38 9 - 1 = (e.length : Int) + j by omega] at this
          exact this
        · rw [b3 _ (by omega)]
          have : sg_gl σ44 39 ((e.length : Int) + j) = sg_gl σ7 39 ((e.length : Int) + j) := sg_F_gal fr44 rfl
          rw [this]
          exact hnm j u (by omega) hu
  · rintro v4 σ7 r4 fr ⟨hv4, hnd, hce, hsl⟩
    have f7 : sg_F [16, 29, 30, 32, 33, 34, 39, 40, 7028, 10038, 11038, 13038, 14038] σ σ7 := sg_F_t (sg_F_m f1 rfl) (sg_F_m fr rfl)
    have gf : (¬ ws.Nodup ∨ ∃ x ∈ xs, ¬ 0 < sg_g σ 6 x) → kGens (sg_g σ 6) gs xs = false := fun z => by
      unfold kGens
      rw [hws, Bool.and_eq_false_iff]
      rcases z with z | ⟨x, z1, z2⟩
      · exact Or.inl (decide_eq_false z)
      · right
        rw [List.all_eq_false]
        exact ⟨x, z1, by simpa using z2⟩
    refine ⟨fun σ26 => (cZ σ26 ∧ kGens (sg_g σ 6) gs xs = true ∧ ckE σ26 (sg_g σ26 38 9) (kBind (sg_g σ 6) gs xs e) ∧ sg_g σ26 38 10 = (c + gs.length : Nat)) ∨ (cF σ26 ∧ kGens (sg_g σ 6) gs xs = false), ⟨fun d => ?_, fun d => ?_⟩, ?_⟩
    · rcases hv4 with ⟨a, b⟩ | ⟨a, b⟩
      · rcases hnd with ⟨a2, b2⟩ | ⟨a2, b2⟩
        · refine Or.inl ⟨a2, ?_, hce, hsl⟩
          unfold kGens
          rw [hws, decide_eq_true b2, Bool.true_and, List.all_eq_true]
          exact fun x hx => decide_eq_true (b x hx)
        · exact Or.inr ⟨a2, gf (Or.inl b2)⟩
      · exact absurd a d
    · rcases hv4 with ⟨a, b⟩ | ⟨a, b⟩
      · omega
      · refine c_blame (fun z => ?_) (by decide) ?_ (fun σ4 t1 t2 _ => Or.inr ⟨t1, gf (Or.inr b)⟩)
        · rcases hnd with ⟨a2, b2⟩ | ⟨a2, b2⟩
          · exact absurd a2.1 z
          · exact a2.2
        · rw [p1 4 200 rfl, hpl]
          exact ⟨hwn.2.2, by rw [← hpl]; exact sg_Rg _ _ _⟩
    · intro σ26 fr26 h26
      refine c_add (fun σ30 f30 _ => ?_)
      have F30 : sg_F [16, 29, 30, 32, 33, 34, 39, 40, 7028, 10038, 11038, 13038, 14038] σ σ30 := sg_F_t (sg_F_t f7 (sg_F_m fr26 rfl)) (sg_F_m f30 rfl)
      rcases h26 with ⟨a, b, b2, b3⟩ | ⟨a, b⟩
      · refine k2 σ30 b ?_ ?_ ?_ F30
        · exact cZ_F a f30 rfl
        · rw [sg_F_g f30 (by rfl)]; exact ckE_F b2 f30 rfl
        · rw [sg_F_g f30 (by rfl)]; exact b3
      · refine k1 σ30 b ?_ F30
        unfold cF at a ⊢
        rw [sg_F_g f30 (by rfl), sg_F_g f30 (by rfl)]; exact a
end OPN
