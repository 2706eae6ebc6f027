/-! ===== PURE: run (124): the next of each and fold (the reference) ===== -/
section NXR
variable {N : Nat} {s0 s s' s1 s2 : mS} {f h fu m m' d d' n k b j j' e kx : Nat} {code : List Ins} {Fs : List Fn} {T : Ty} {out : List Int32} {G F : List Fm} {sh : Nat → Option Nod} {vs : List (Option Nod)} {I J : List It} {q z pl fz : Int32} {x y c : Nod} {l rs : List Nod}
theorem RXm.turnW (R : RXm s0 s h code Fs fu f ((m, d, vs, J ++ (e, l, k) :: I) :: G) sh T out) (hJ : ∀ y ∈ J, y.1 = 0) (he : e = 6 ∨ e = 8) (hk : k % 2 = 0) : RXm s0 (mA s 82 (upd (s.2.2.1 82) (wStk ((m, d, vs, I) :: G)).length (Int32.ofNat (k / 2 + 1)))) h code Fs fu f ((m', d', vs, J ++ (e, l, k + 1) :: I) :: G) sh T out := by
  obtain ⟨r1, ⟨b1, b2, b3, b4, b5, b6, b7, b8⟩, r3⟩ := R
  have hw : e = 2 ∨ e = 3 ∨ e = 6 ∨ e = 8 := by omega
  have eW := (wStk_v (m := m) (d := d) (m' := m) (d' := d) (vs := vs) (G := G) (I := (e, l, k) :: I) hJ).trans (wStk_w (m := m) (d := d) (m' := m) (d' := d) (vs := vs) (I := I) (G := G) (it := (e, l, k)) hw)
  have eW' := (wStk_v (m := m') (d := d') (m' := m) (d' := d) (vs := vs) (G := G) (I := (e, l, k + 1) :: I) hJ).trans (wStk_w (m := m) (d := d) (m' := m) (d' := d) (vs := vs) (I := I) (G := G) (it := (e, l, k + 1)) hw)
  have eR : rStk ((m', d', vs, J ++ (e, l, k + 1) :: I) :: G) = rStk ((m, d, vs, J ++ (e, l, k) :: I) :: G) := by
    rw [rStk_app (m' := m) (d' := d), rStk_app (m' := m) (d' := d), rStk_cons (m := m) (d := d) (m' := m) (d' := d), rStk_cons (m := m) (d := d) (m' := m) (d' := d)]
    rfl
  rw [eW] at b3
  obtain ⟨hv, hr⟩ := b3
  obtain ⟨v1, v2, v3, v4⟩ := hv.2.2 (by show e = 6 ∨ e = 8; exact he)
  refine ⟨r1.keep ⟨⟨fun q r => rfl, fun _ _ => rfl, fun q r => ?_, fun _ _ => rfl⟩, fun _ _ => rfl⟩ (fun q r => rfl) rfl, ⟨by rw [eR]; exact b1, rFr.loc (s := s) (fun q q1 q2 y hy => ?_) (fun y hy => ⟨rfl, rfl⟩) (Nat.le_refl _) (fun _ _ => rfl) (F := (m', d', vs, J ++ (e, l, k + 1) :: I) :: G) (rFr.hd (a := (m, d, vs, J ++ (e, l, k) :: I)) rfl b2), ?_, b4, b5, b6, ?_, b8⟩, by rw [eR]; exact r3⟩
  · unfold aRn at r
    show (if q = 82 then _ else s.2.2.1 q) = _
    rw [if_neg (by omega)]
  · show (if q = 82 then _ else s.2.2.1 q) y = _
    rw [if_neg (by omega)]
  · rw [eW']
    refine ⟨⟨fun q => ?_, fun q => ?_, fun _ => ⟨v1, ?_, v3, v4⟩⟩, hr.mono (fun _ _ _ z => z) (fun i' hi' => ?_)⟩
    · have q : e = 2 := q
      omega
    · have q : e = 3 := q
      omega
    · show (if _ = _ then Int32.ofNat (k / 2 + 1) else _) = Int32.ofNat ((k + 1 + 1) / 2)
      rw [if_pos rfl]
      congr 1
      omega
    · show (_, _, (if i' = _ then _ else _), _, _, _) = _
      rw [if_neg (by omega)]
      rfl
  · rw [eW']
    rw [eW] at b7
    exact b7
theorem RXm.foldS (R : RXm s0 s h code Fs fu f ((m, d, vs, (0, [x], j') :: (8, [y], k) :: (0, [c], j) :: I) :: G) sh T out) : RXm s0 s h code Fs fu f ((m', d', vs, (0, [x], 0) :: (0, [c], 0) :: (8, [y], k) :: (7, [c], j) :: I) :: G) sh T out := by
  have n0 : ¬ ((0 : Nat) = 2 ∨ (0 : Nat) = 3 ∨ (0 : Nat) = 6 ∨ (0 : Nat) = 8) := by decide
  have n7 : ¬ ((7 : Nat) = 2 ∨ (7 : Nat) = 3 ∨ (7 : Nat) = 6 ∨ (7 : Nat) = 8) := by decide
  refine R.sw (W := wStk ((m, d, vs, I) :: G)) ?_ ((wStk_cons (m' := m) (d' := d) n0).trans ((wStk_w (m' := m) (d' := d) (Or.inr (Or.inr (Or.inr rfl)))).trans (by rw [wStk_cons (m := m) (d := d) (m' := m) (d' := d) n0]))) ((wStk_cons (m' := m) (d' := d) n0).trans ((wStk_cons (m := m) (d := d) (m' := m) (d' := d) n0).trans ((wStk_w (m' := m) (d' := d) (Or.inr (Or.inr (Or.inr rfl)))).trans (by rw [wStk_cons (m := m) (d := d) (m' := m) (d' := d) n7])))) (fun v H => ⟨fun q => (by cases q), fun q => (by cases q), fun _ => ?_⟩)
  · rw [rStk_cons (m' := m) (d' := d), rStk_cons (m := m) (d := d) (m' := m) (d' := d), rStk_cons (m := m) (d := d) (m' := m) (d' := d), rStk_cons (m := m) (d := d) (m' := m) (d' := d), rStk_cons (m := m) (d := d) (m' := m) (d' := d), rStk_cons (m := m) (d := d) (m' := m) (d' := d), rStk_cons (m := m) (d := d) (m' := m) (d' := d)]
    rfl
  · obtain ⟨a1, a2, a3, a4⟩ := H.2.2 (Or.inr rfl)
    exact ⟨a1, a2, fun q => (by cases q), a4⟩
theorem RXm.nextA (R : RXm s0 s h code Fs fu f ((m, d, vs, (e, rs ++ [y], k) :: I) :: G) sh T out) (hs : s = mI s1 60 z) (hstep : mf_302 N s1 = some (s, none)) (he : e = 6 ∨ e = 8) (hk : k % 2 = 0) (hkx : kx < 8000) (hl : (rStk ((m, d, vs, (e, rs ++ [y], k) :: I) :: G)).length ≤ 8700) (hw : (wStk ((m, d, vs, (e, rs ++ [y], k) :: I) :: G)).length ≤ 110) (h0 : ¬ kn y = 0) (hi : k / 2 < szN y) (hb : szN y ≤ 64) (hf : f ≤ 166300) (hG : G.length ≤ 8) : ∃ s4, RXm s0 s4 h code Fs fu f ((m', d', vs, (0, [elN y (k / 2)], 0) :: (e, rs ++ [y], k + 1) :: I) :: G) sh T out ∧ s4.1 70 = s.1 70 ∧ ∀ s5, mf_310 N (s.2.2.1 25 kx) (Int32.ofNat (if e = 6 then 1 else 2)) (Int32.ofNat kx) s4 = some (s5, none) → mf_317 N (Int32.ofNat kx) s1 = some (s5, none) := by
  have hw6 : e = 2 ∨ e = 3 ∨ e = 6 ∨ e = 8 := by omega
  have eW := wStk_w (m := m) (d := d) (m' := m) (d' := d) (vs := vs) (I := I) (G := G) (it := (e, rs ++ [y], k)) hw6
  have h66 : s.1 66 = Int32.ofNat 0 := R.1.2.2.1.1
  have h79 := R.2.1.2.2.2.2.2.2.1
  have hv := R.2.1.2.2.1
  have h73 : s.1 73 = Int32.ofNat (G.length + 1) := R.2.1.2.2.2.2.2.1
  have h51 := R.2.2
  rw [eW, List.length_cons] at h79 hw
  rw [eW] at hv
  obtain ⟨v1, v2, v3, v4⟩ := hv.1.2.2 he
  obtain ⟨a, v5, v6, v7⟩ := v4 rs y rfl
  have v1 : s.2.2.1 80 (wStk ((m, d, vs, I) :: G)).length = Int32.ofNat (if e = 6 then 3 else 4) := v1
  have v8 : s.2.2.1 82 (wStk ((m, d, vs, I) :: G)).length = Int32.ofNat (k / 2) := by
    have : s.2.2.1 82 (wStk ((m, d, vs, I) :: G)).length = Int32.ofNat ((k + 1) / 2) := v2
    rw [this]
    congr 1
    omega
  have v5 : s.2.2.1 81 (wStk ((m, d, vs, I) :: G)).length = Int32.ofNat a := v5
  have v7 : s.2.2.1 83 (wStk ((m, d, vs, I) :: G)).length = Int32.ofNat (szN y) := v7
  obtain ⟨hip, eel⟩ := elN_c h0 hi
  obtain ⟨kk, v, e3, e4⟩ := r_elem (N := N) v6 hf hip h51 (by omega)
  rw [← eel] at e4
  obtain ⟨sP, g1, g2, g3, g4, g5⟩ := R.push (N := N) (m' := m) (d' := d) (it := (0, [elN y (k / 2)], 0)) (by omega) e4 (by show ¬ ((0 : Nat) = 2 ∨ (0 : Nat) = 3 ∨ (0 : Nat) = 6 ∨ (0 : Nat) = 8); decide) rfl
  rw [r_psh (N := N) h51 (by omega)] at g1
  have g1 : sP = pus s (rStk ((m, d, vs, (e, rs ++ [y], k) :: I) :: G)).length kk v := by
    have := congrArg (fun o => o.map Prod.fst) g1
    exact (Option.some.inj this).symm
  rw [← g1] at e3
  have RT := RXm.turnW (J := [(0, [elN y (k / 2)], 0)]) (m' := m') (d' := d') g2 (fun y hy => by rw [List.mem_singleton.mp hy]) he hk
  refine ⟨_, RT, g4, fun s5 h5 => ?_⟩
  have w82 : sP.2.2.1 82 (wStk ((m, d, vs, I) :: G)).length = Int32.ofNat (k / 2) := by rw [g1]; exact v8
  have w80 : sP.2.2.1 80 (wStk ((m, d, vs, I) :: G)).length = Int32.ofNat (if e = 6 then 3 else 4) := by rw [g1]; exact v1
  have w25 : sP.2.2.1 25 kx = s.2.2.1 25 kx := by rw [g1]; rfl
  have u79 : s1.1 79 = Int32.ofNat ((wStk ((m, d, vs, I) :: G)).length + 1) := by rw [← h79, hs]; rfl
  have u82 : s1.2.2.1 82 (wStk ((m, d, vs, I) :: G)).length = Int32.ofNat (k / 2) := by rw [← v8, hs]; rfl
  have u83 : s1.2.2.1 83 (wStk ((m, d, vs, I) :: G)).length = Int32.ofNat (szN y) := by rw [← v7, hs]; rfl
  clear RT g1 g2 hv v2 v3 v4 v6 eW e4 eel hs R
  generalize (wStk ((m, d, vs, I) :: G)).length = nw at *
  generalize s.2.2.1 25 kx = fx at *
  generalize hkh : k / 2 = kh at *
  generalize szN y = sy at *
  have sb : Int32.ofNat (nw + 1) - Int32.ofNat 1 = Int32.ofNat nw := by rw [← Int32.ofNat_sub _ _ (by omega)]; rfl
  have n1 : ¬ sy ≤ kh := by omega
  have n10 : ¬ G.length + 1 = 10 := by omega
  have w80' : (mA sP 82 (upd (sP.2.2.1 82) nw (Int32.ofNat (kh + 1)))).2.2.1 80 nw = Int32.ofNat (if e = 6 then 3 else 4) := w80
  rcases he with he | he
  · subst he
    have w81 : sP.2.2.1 80 nw = Int32.ofNat 3 := w80
    have h5' : mf_310 N fx (Int32.ofNat 1) (Int32.ofNat kx) _ = _ := h5
    unfold mf_317 mf_317_0 mf_317_22 mf_317_26 mf_317_34 mf_317_54 mf_317_70 mf_317_97 mf_317_102 mf_317_106
    simp (disch := omega) only [ev_S, ev_P, ↓reduceIte, Nat.reduceEqDiff, Nat.reduceLeDiff, Nat.reduceAdd, Nat.reduceMul, Nat.reduceSub, reduceCtorEq, l32_0, l32_1, l32_2, l32_3, l32_4, l32_5, l32_6, l32_7, l32_8, l32_9, l32_10, l32_11, l32_12, l32_13, l32_14, l32_15, l32_16, l32_17, l32_18, l32_19, l32_20, l32_21, l32_22, l32_23, l32_24, l32_25, l32_26, l32_27, l32_28, l32_29, l32_33, l32_40, l32_41, l32_44, l32_45, l32_59, l32_61, l32_91, l32_93, l32_123, l32_125, u79, sb, u82, u83, n1, hstep, h66, h73, n10, v5, v8, e3, w82, w81, w25, h5', l32_8000]
  · subst he
    have w81 : sP.2.2.1 80 nw = Int32.ofNat 4 := w80
    have h5' : mf_310 N fx (Int32.ofNat 2) (Int32.ofNat kx) _ = _ := h5
    unfold mf_317 mf_317_0 mf_317_22 mf_317_26 mf_317_34 mf_317_54 mf_317_70 mf_317_101 mf_317_102 mf_317_106
    simp (disch := omega) only [ev_S, ev_P, ↓reduceIte, Nat.reduceEqDiff, Nat.reduceLeDiff, Nat.reduceAdd, Nat.reduceMul, Nat.reduceSub, reduceCtorEq, l32_0, l32_1, l32_2, l32_3, l32_4, l32_5, l32_6, l32_7, l32_8, l32_9, l32_10, l32_11, l32_12, l32_13, l32_14, l32_15, l32_16, l32_17, l32_18, l32_19, l32_20, l32_21, l32_22, l32_23, l32_24, l32_25, l32_26, l32_27, l32_28, l32_29, l32_33, l32_40, l32_41, l32_44, l32_45, l32_59, l32_61, l32_91, l32_93, l32_123, l32_125, u79, sb, u82, u83, n1, hstep, h66, h73, n10, v5, v8, e3, w82, w81, w25, h5', l32_8000]
end NXR
