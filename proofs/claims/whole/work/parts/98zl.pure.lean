/-! ===== PURE: run (115): a for goes on (the reference) ===== -/
section FOS
variable {N : Nat} {X : Nat → Option zz_C} {t0 t t1 t2 : cS} {s0 s s' s1 s2 : mS} {u w f f' p h fu m m' d d' n k b z j i rr kx : Nat} {code : List Ins} {Fs : List Fn} {T T' : Ty} {out out' : List Int32} {F G : List Fm} {sh sh' S0 : Nat → Option Nod} {vs vs' : List (Option Nod)} {I I' J : List It} {q r pl kk v gt : Int32} {x : Nod}
/-- the way's number is one more -/
theorem RXm.turn (R : RXm s0 s h code Fs fu f ((m, d, vs, (2, [x], i) :: I) :: G) sh T out) : RXm s0 (mA s 82 (upd (s.2.2.1 82) (wStk ((m, d, vs, I) :: G)).length (Int32.ofNat (i + 1)))) h code Fs fu f ((m', d', vs, (2, [x], i + 1) :: I) :: G) sh T out := by
  obtain ⟨r1, ⟨b1, b2, b3, b4, b5, b6, b7, b8⟩, r3⟩ := R
  have eW := wStk_w (m := m) (d := d) (m' := m) (d' := d) (vs := vs) (I := I) (G := G) (it := (2, [x], i)) (Or.inl rfl)
  have eW' := wStk_w (m := m') (d := d') (m' := m) (d' := d) (vs := vs) (I := I) (G := G) (it := (2, [x], i + 1)) (Or.inl rfl)
  have eR : rStk ((m', d', vs, (2, [x], i + 1) :: I) :: G) = rStk ((m, d, vs, (2, [x], i) :: I) :: G) := by
    rw [rStk_cons (m' := m) (d' := d), rStk_cons (m' := m) (d' := d)]
    rfl
  rw [eW] at b3
  obtain ⟨hv, hr⟩ := b3
  obtain ⟨v1, v2, v3⟩ := hv.1 rfl
  refine ⟨r1.keep ⟨⟨fun q r => rfl, fun _ _ => rfl, fun q r => ?_, fun _ _ => rfl⟩, fun _ _ => rfl⟩ (fun q r => rfl) rfl, ⟨by rw [eR]; exact b1, rFr.loc (s := s) (fun q q1 q2 y hy => ?_) (fun y hy => ⟨rfl, rfl⟩) (Nat.le_refl _) (fun _ _ => rfl) (F := (m', d', vs, (2, [x], i + 1) :: I) :: G) (rFr.hd (a := (m, d, vs, (2, [x], i) :: I)) rfl b2), ?_, b4, b5, b6, ?_, b8⟩, by rw [eR]; exact r3⟩
  · unfold aRn at r
    show (if q = 82 then _ else s.2.2.1 q) = _
    rw [if_neg (by omega)]
  · show (if q = 82 then _ else s.2.2.1 q) y = _
    rw [if_neg (by omega)]
  · rw [eW']
    refine ⟨⟨fun _ => ⟨v1, if_pos rfl, v3⟩, fun q => (by cases q), fun q => (by rcases q with q | q <;> cases q)⟩, hr.mono (fun _ _ _ z => z) (fun i' hi' => ?_)⟩
    show (_, _, (if i' = _ then _ else _), _, _, _) = _
    rw [if_neg (by omega)]
    rfl
  · rw [eW']
    rw [eW] at b7
    exact b7
theorem RXm.forG (R : RXm s0 s h code Fs fu f ((m, d, vs, (2, [x], i) :: I) :: G) sh T out) (hstep : mf_302 N s1 = some (s, none)) (hk : kx < 8000) (h24 : s.2.2.1 24 kx = gt) (h25 : s.2.2.1 25 kx = Int32.ofNat rr) (hl : (rStk ((m, d, vs, (2, [x], i) :: I) :: G)).length ≤ 8700) (hw : (wStk ((m, d, vs, (2, [x], i) :: I) :: G)).length ≤ 110) (hx : wfN x) (hn : kn x = 0 → ¬ ivN x < 0) (hi : i ≤ lim x) (hf : f ≤ 166300) (hG : G.length ≤ 9) (hr : rr < 22) : (i < lim x → ∃ s3 kk v, mf_315 N (Int32.ofNat kx) s1 = some (stM s3 rr G.length kk v, none) ∧ RXm s0 s3 h code Fs fu f ((m', d', vs, (2, [x], i + 1) :: I) :: G) sh T out ∧ rvl (s3.2.2.1 47) f kk v (elN x i) ∧ s3.1 69 = s.1 69) ∧ (i = lim x → ∃ s3, mf_315 N (Int32.ofNat kx) s1 = some (mI s3 69 gt, none) ∧ RXm s0 s3 h code Fs fu f ((m', d', vs, I) :: G) sh T out) := by
  have hlb := lim_b hx hn
  have eW := wStk_w (m := m) (d := d) (m' := m) (d' := d) (vs := vs) (I := I) (G := G) (it := (2, [x], i)) (Or.inl rfl)
  have h66 : s.1 66 = Int32.ofNat 0 := R.1.2.2.1.1
  have h79 := R.2.1.2.2.2.2.2.2.1
  have hv := R.2.1.2.2.1
  have h73 : s.1 73 = Int32.ofNat (G.length + 1) := R.2.1.2.2.2.2.2.1
  have h51 := R.2.2
  rw [eW, List.length_cons] at h79 hw
  rw [eW] at hv
  obtain ⟨v1, v2, v3⟩ := hv.1.1 rfl
  have v2 : s.2.2.1 82 (wStk ((m, d, vs, I) :: G)).length = Int32.ofNat i := v2
  obtain ⟨v4, v5⟩ := v3 x rfl
  have h83 : s.2.2.1 83 (wStk ((m, d, vs, I) :: G)).length = Int32.ofNat (lim x) := by
    unfold lim
    by_cases c0 : kn x = 0
    · obtain ⟨iv, hiv, eiv⟩ := i32nn (hn c0)
      rw [if_pos c0, eiv, ev_c hiv, ← eiv]
      exact (v4 c0).2
    · rw [if_neg c0]
      obtain ⟨a, -, -, e3⟩ := v5 c0
      exact e3
  have RT := fun (s' : mS) (Z : RXm s0 s' h code Fs fu f ((m, d, vs, (2, [x], i) :: I) :: G) sh T out) => Z.turn (m' := m') (d' := d')
  have RU := R.unway (m' := m') (d' := d') (Or.inl rfl) rfl
  have eU : (wStk ((m', d', vs, I) :: G)).length = (wStk ((m, d, vs, I) :: G)).length := rfl
  rw [eU] at RU
  refine ⟨fun hi2 => ?_, fun hi2 => ?_⟩
  · -- it goes on
    have key : ∃ kk v, rvl (s.2.2.1 47) f kk v (elN x i) ∧ mf_315_55 N (Int32.ofNat kx) (Int32.ofNat (wStk ((m, d, vs, I) :: G)).length) s = mf_315_95 N (Int32.ofNat kx) (Int32.ofNat (wStk ((m, d, vs, I) :: G)).length) (pus s (rStk ((m, d, vs, (2, [x], i) :: I) :: G)).length kk v) := by
      by_cases c0 : kn x = 0
      · have e81 : s.2.2.1 81 (wStk ((m, d, vs, I) :: G)).length = -Int32.ofNat 1 := (v4 c0).1
        have hp := r_psh (N := N) (k := Int32.ofNat 0) (v := Int32.ofNat i) h51 (by omega)
        refine ⟨Int32.ofNat 0, Int32.ofNat i, ?_, ?_⟩
        · unfold elN
          rw [if_pos c0]
          exact rvl_Z
        · clear RT RU hv v3 v4 v5 eW
          generalize pus s (rStk ((m, d, vs, (2, [x], i) :: I) :: G)).length (Int32.ofNat 0) (Int32.ofNat i) = sP at *
          generalize (wStk ((m, d, vs, I) :: G)).length = nw at *
          unfold mf_315_55 mf_315_65 mf_315_76
          simp (disch := omega) only [ev_S, ev_P, ↓reduceIte, Nat.reduceEqDiff, Nat.reduceLeDiff, Nat.reduceAdd, Nat.reduceMul, Nat.reduceSub, reduceCtorEq, l32_0, l32_1, l32_2, l32_3, l32_4, l32_5, l32_6, l32_7, l32_8, l32_9, l32_10, l32_11, l32_12, l32_13, l32_14, l32_15, l32_16, l32_17, l32_18, l32_19, l32_20, l32_21, l32_22, l32_23, l32_24, l32_25, l32_26, l32_27, l32_28, l32_29, l32_33, l32_40, l32_41, l32_44, l32_45, l32_59, l32_61, l32_91, l32_93, l32_123, l32_125, e81, v2, hp]
      · obtain ⟨a, e81, e2, -⟩ := v5 c0
        have e81 : s.2.2.1 81 (wStk ((m, d, vs, I) :: G)).length = Int32.ofNat a := e81
        have hip : i < (pts x).length := by
          rw [pts_len]
          unfold lim at hi2
          rw [if_neg c0] at hi2
          exact hi2
        obtain ⟨kk, v, e3, e4⟩ := r_elem (N := N) e2 hf hip h51 (by omega)
        refine ⟨kk, v, ?_, ?_⟩
        · unfold elN
          rw [if_neg c0, List.getD_eq_getElem?_getD, List.getElem?_eq_getElem hip]
          exact e4
        · have na : ¬ Int32.ofNat a = -Int32.ofNat 1 := by
            have := (LayN.lt e2).1
            exact fun q => i32n (a := a) (by omega) (by rw [q]; decide)
          clear RT RU hv v3 v4 v5 eW
          generalize pus s (rStk ((m, d, vs, (2, [x], i) :: I) :: G)).length kk v = sP at *
          generalize (wStk ((m, d, vs, I) :: G)).length = nw at *
          unfold mf_315_55 mf_315_79
          simp (disch := omega) only [ev_S, ev_P, ↓reduceIte, Nat.reduceEqDiff, Nat.reduceLeDiff, Nat.reduceAdd, Nat.reduceMul, Nat.reduceSub, reduceCtorEq, l32_0, l32_1, l32_2, l32_3, l32_4, l32_5, l32_6, l32_7, l32_8, l32_9, l32_10, l32_11, l32_12, l32_13, l32_14, l32_15, l32_16, l32_17, l32_18, l32_19, l32_20, l32_21, l32_22, l32_23, l32_24, l32_25, l32_26, l32_27, l32_28, l32_29, l32_33, l32_40, l32_41, l32_44, l32_45, l32_59, l32_61, l32_91, l32_93, l32_123, l32_125, e81, v2, e3, na]
    obtain ⟨kk, v, k1, k2⟩ := key
    obtain ⟨sP, g1, g2, g3, g4, g5⟩ := R.push (N := N) (m' := m) (d' := d) (it := (0, [elN x i], 0)) (by omega) k1 (by show ¬ ((0 : Nat) = 2 ∨ (0 : Nat) = 3 ∨ (0 : Nat) = 6 ∨ (0 : Nat) = 8); decide) rfl
    rw [r_psh (N := N) h51 (by omega)] at g1
    have g1 : sP = pus s (rStk ((m, d, vs, (2, [x], i) :: I) :: G)).length kk v := by
      have := congrArg (fun o => o.map Prod.fst) g1
      exact (Option.some.inj this).symm
    rw [← g1] at k2
    obtain ⟨o1, o2, o3⟩ := g2.hd (m' := m) (d' := d)
    have RZ := RT _ o3
    have w82 : sP.2.2.1 82 (wStk ((m, d, vs, I) :: G)).length = Int32.ofNat i := by rw [g1]; exact v2
    have w25 : sP.2.2.1 25 kx = Int32.ofNat rr := by rw [g1]; exact h25
    have w73 : sP.1 73 = Int32.ofNat (G.length + 1) := by rw [g1]; exact h73
    have w69 : sP.1 69 = s.1 69 := g3
    have hst := r_store (N := N) (s := mI (mA sP 82 (upd (sP.2.2.1 82) (wStk ((m, d, vs, I) :: G)).length (Int32.ofNat (i + 1)))) 51 (Int32.ofNat (rStk ((m, d, vs, (2, [x], i) :: I) :: G)).length)) (G := G) (r := rr) (k := sP.2.2.1 49 (rStk ((m, d, vs, (2, [x], i) :: I) :: G)).length) (v := sP.2.2.1 50 (rStk ((m, d, vs, (2, [x], i) :: I) :: G)).length) w73 hG hr
    refine ⟨mI (mA sP 82 (upd (sP.2.2.1 82) (wStk ((m, d, vs, I) :: G)).length (Int32.ofNat (i + 1)))) 51 (Int32.ofNat (rStk ((m, d, vs, (2, [x], i) :: I) :: G)).length), sP.2.2.1 49 (rStk ((m, d, vs, (2, [x], i) :: I) :: G)).length, sP.2.2.1 50 (rStk ((m, d, vs, (2, [x], i) :: I) :: G)).length, ?_, RZ, o2, w69⟩
    have E1 : mf_315 N (Int32.ofNat kx) s1 = mf_315_55 N (Int32.ofNat kx) (Int32.ofNat (wStk ((m, d, vs, I) :: G)).length) s := by
      clear hst RZ o1 o2 o3 g1 g2 k2 w82 RT RU hv v3 v4 v5 eW
      generalize (wStk ((m, d, vs, I) :: G)).length = nw at *
      have sb : Int32.ofNat (nw + 1) - Int32.ofNat 1 = Int32.ofNat nw := by rw [← Int32.ofNat_sub _ _ (by omega)]; rfl
      have ne : ¬ i = lim x := by omega
      generalize lim x = lx at *
      unfold mf_315 mf_315_0 mf_315_4 mf_315_12
      simp (disch := omega) only [ev_S, ev_P, ↓reduceIte, Nat.reduceEqDiff, Nat.reduceLeDiff, Nat.reduceAdd, Nat.reduceMul, Nat.reduceSub, reduceCtorEq, l32_0, l32_1, l32_2, l32_3, l32_4, l32_5, l32_6, l32_7, l32_8, l32_9, l32_10, l32_11, l32_12, l32_13, l32_14, l32_15, l32_16, l32_17, l32_18, l32_19, l32_20, l32_21, l32_22, l32_23, l32_24, l32_25, l32_26, l32_27, l32_28, l32_29, l32_33, l32_40, l32_41, l32_44, l32_45, l32_59, l32_61, l32_91, l32_93, l32_123, l32_125, hstep, h66, h79, sb, v2, h83, ne]
    rw [E1, k2]
    clear RZ o2 o3 g1 g2 k2 RT RU hv v3 v4 v5 eW E1
    generalize (wStk ((m, d, vs, I) :: G)).length = nw at *
    generalize (rStk ((m, d, vs, (2, [x], i) :: I) :: G)).length = nr at *
    have sb : Int32.ofNat (nr + 1) - Int32.ofNat 1 = Int32.ofNat nr := by rw [← Int32.ofNat_sub _ _ (by omega)]; rfl
    unfold mf_315_95 mf_315_143
    simp (disch := omega) only [ev_S, ev_P, ↓reduceIte, Nat.reduceEqDiff, Nat.reduceLeDiff, Nat.reduceAdd, Nat.reduceMul, Nat.reduceSub, reduceCtorEq, l32_0, l32_1, l32_2, l32_3, l32_4, l32_5, l32_6, l32_7, l32_8, l32_9, l32_10, l32_11, l32_12, l32_13, l32_14, l32_15, l32_16, l32_17, l32_18, l32_19, l32_20, l32_21, l32_22, l32_23, l32_24, l32_25, l32_26, l32_27, l32_28, l32_29, l32_33, l32_40, l32_41, l32_44, l32_45, l32_59, l32_61, l32_91, l32_93, l32_123, l32_125, o1, sb, w82, w25, hst, l32_8000]
  · -- it ends
    refine ⟨_, ?_, RU⟩
    clear RT RU hv v3 v4 v5 eW
    generalize (wStk ((m, d, vs, I) :: G)).length = nw at *
    have sb : Int32.ofNat (nw + 1) - Int32.ofNat 1 = Int32.ofNat nw := by rw [← Int32.ofNat_sub _ _ (by omega)]; rfl
    have ib : i < 2147483648 := by omega
    rw [← hi2] at h83
    unfold mf_315 mf_315_0 mf_315_4 mf_315_12 mf_315_34
    simp (disch := omega) only [ev_S, ev_P, ↓reduceIte, Nat.reduceEqDiff, Nat.reduceLeDiff, Nat.reduceAdd, Nat.reduceMul, Nat.reduceSub, reduceCtorEq, l32_0, l32_1, l32_2, l32_3, l32_4, l32_5, l32_6, l32_7, l32_8, l32_9, l32_10, l32_11, l32_12, l32_13, l32_14, l32_15, l32_16, l32_17, l32_18, l32_19, l32_20, l32_21, l32_22, l32_23, l32_24, l32_25, l32_26, l32_27, l32_28, l32_29, l32_33, l32_40, l32_41, l32_44, l32_45, l32_59, l32_61, l32_91, l32_93, l32_123, l32_125, hstep, h66, h79, sb, v2, h83, h24, l32_8000]
end FOS
