/-! ===== PURE: run (113): instructions: a call ===== -/
section CAL
variable {N : Nat} {X : Nat → Option zz_C} {t0 t t1 t2 : cS} {s0 s s' s1 s2 : mS} {u w f f' p h fu m m' d d' n k b z j k0 fi : Nat} {code : List Ins} {Fs : List Fn} {T T' T1 : Ty} {out out' : List Int32} {F G : List Fm} {sh sh' S0 : Nat → Option Nod} {vs vs' : List (Option Nod)} {I I' J : List It} {q r pl kk gg a1 b1 c1 : Int32} {x y : Nod} {L L' : List Nat} {g : Fn} {xs : List Nod}
/-- the picture with a call more: T1 the tally after the step -/
theorem CK.ent (K : CK code Fs fu ((m, d, vs, I) :: G) sh T out n) (P : PL code Fs m vs I g) (eI : I = J ++ I') (hG : G.length ≤ 8) (hfi : fi < Fs.length) (hx : ∀ x ∈ xs, wfN x ∧ x.1 ≤ 4) (hsus : tyS code (m, d', vs, I')) (hok : okIs code g.2.2.2.2.1 g.2.2.2.2.2 I') (hnv : xs.length ≤ Fs[fi].2.2.2.1) (hT1 : okTy fu T1 ∧ T1.2.1 = T.2.1 ∧ T1.1 = T.1 + 1) (hpot : k + 4 + crL I' + pvI I ≤ crL I + 20 + pvI I') (h5 : n5I I' ≤ n5I I) : CK code Fs fu ((Fs[fi].2.2.2.2.1, 0, xs.map some ++ List.replicate (Fs[fi].2.2.2.1 - xs.length) none, []) :: (m, d', vs, I') :: G) sh (opT T1 (G.length + 2)) out (n + k) := by
  have hK := K
  obtain ⟨⟨h1, h2⟩, h3, ⟨a, G', e', t1, t2, t3⟩, h6, h7, h8, h9⟩ := K
  cases e'
  obtain ⟨hT1a, hT1b, hT1c⟩ := hT1
  have hFO := h1.1 Fs[fi] (List.getElem_mem hfi)
  refine ⟨⟨h1, hT1a.1, hT1a.2.1, hT1a.2.2.1, ?_, hT1a.2.2.2.2⟩, ?_, ⟨_, _, rfl, ⟨[], hFO.2.2.1, Or.inl ⟨rfl, rfl, fun y hy => by cases hy⟩⟩, ⟨Fs[fi], List.getElem_mem hfi, Nat.le_refl _, hFO.1, ?_, trivial⟩, fun c hc => ?_⟩, fun x hx' => ?_, h7, ?_, ?_⟩
  · show (if T1.2.2.1 < G.length + 2 then G.length + 2 else T1.2.2.1) ≤ 10
    have := hT1a.2.2.2.1
    split <;> omega
  · show G.length + 1 + 1 ≤ 10
    omega
  · show (xs.map some ++ List.replicate (Fs[fi].2.2.2.1 - xs.length) none).length = _
    rw [List.length_append, List.length_map, List.length_replicate]
    omega
  · rcases List.mem_cons.mp hc with e | e
    · rw [e]
      exact ⟨hsus, g, P.1, P.2.1.1, P.2.1.2.1, P.2.2.1.1, hok⟩
    · exact t3 c e
  · have hx' : some x ∈ [] ++ ((xs.map some ++ List.replicate (Fs[fi].2.2.2.1 - xs.length) none).reverse ++ cStk ((m, d', vs, I') :: G)) := hx'
    rcases List.mem_append.mp hx' with e | e
    · cases e
    · rcases List.mem_append.mp e with e | e
      · rcases List.mem_append.mp (List.mem_reverse.mp e) with e | e
        · obtain ⟨y, hy, e2⟩ := List.mem_map.mp e
          cases e2
          exact hx x hy
        · have := List.eq_of_mem_replicate e
          cases this
      · refine h6 x ?_
        rw [eI, cStk_app (m' := m) (d' := d')]
        exact List.mem_append_right _ e
  · have h8 : n + (4 + crL I + cr G) ≤ 20 * T.1 + 60 * T.2.1 + (pvI I + pv G) + 4 := h8
    show n + k + (4 + 0 + (4 + crL I' + cr G)) ≤ 20 * T1.1 + 60 * T1.2.1 + (0 + (pvI I' + pv G)) + 4
    rw [hT1b, hT1c]
    omega
  · have h9 : out.length + 9100 * (n5I I + n5 G) ≤ 9100 * T.1 := h9
    show out.length + 9100 * (0 + (n5I I' + n5 G)) ≤ 9100 * T1.1
    rw [hT1c]
    omega
theorem okIs.suf : ∀ {J : List It}, okIs code b z (J ++ I') → okIs code b z I'
  | [], q => q
  | _ :: J, q => okIs.suf (J := J) q.2
theorem fr_fb {e j : Nat} (h : j < 20000) : fr e j = Int32.ofNat (fb0 e + j) := by
  unfold fr
  rw [if_neg (by show ¬ j = 99999; omega)]
theorem fa_e {j : Nat} (h : j < 20000) : fa j = Int32.ofNat j := by
  unfold fa
  rw [if_neg (by show ¬ j = 99999; omega)]
theorem i_9 (hN : 170000 ≤ N) (C : CS t0 t p code Fs fu S0 ((m, 0, vs, I) :: G) sh T out) (R : RSm s0 s h code Fs fu ((m, 0, vs, I) :: G) sh T out) (K : CK code Fs fu ((m, 0, vs, I) :: G) sh T out n) (ho : (inA code m).1 = 9) : GO N X t0 s0 p h code Fs fu S0 t s n := by
  obtain ⟨u, w, f, g, C1, C2, C4, R1, R2, R4, P, hm, hcx, hrl, hG, ⟨b1', b2, b6⟩, hT, hol⟩ := open0 C R K
  obtain ⟨ec, er⟩ := cI_9 (code := code) (own := posC code m) (e := h) ho
  obtain ⟨L', z3, z4⟩ := K.nxt
  obtain ⟨hl, hp⟩ := K.ly0
  obtain ⟨hfi, hpar⟩ := K.1.1.2.1 m hm (Or.inl ho)
  have hfi : (inA code m).2.1 < Fs.length := hfi
  have hpar : Fs[(inA code m).2.1].2.2.1 = (inA code m).2.2.1 := hpar
  have hFO := K.1.1.1 _ (List.getElem_mem hfi)
  have hF12 : Fs.length ≤ 12 := C1.1.1.2.2.2.2.1
  obtain ⟨M, hM1, hM2⟩ : ∃ M, pop0 (inA code m).2.2.1 (kd I) = some M ∧ L' = 0 :: M := by
    generalize inA code m = c at *
    obtain ⟨o', jj, r0, aa, pp, xx, yy⟩ := c
    have z : o' = 9 := ho
    subst z
    have z3 : (pop0 r0 (kd I)).map (0 :: ·) = some L' := z3
    show ∃ M, pop0 r0 (kd I) = some M ∧ L' = 0 :: M
    cases hM : pop0 r0 (kd I) with
    | none => rw [hM] at z3; cases z3
    | some M =>
      rw [hM] at z3
      exact ⟨M, rfl, (Option.some.inj z3).symm⟩
  obtain ⟨xs, J, I', e1, e2, e3, e4, e5, e6, e7, e8⟩ := topV K P hM1
  have hnv : xs.length ≤ Fs[(inA code m).2.1].2.2.2.1 ∧ Fs[(inA code m).2.1].2.2.2.1 ≤ 14 := by
    have := hFO.2.2.2.2.2.2.1
    rw [e2, ← hpar]
    omega
  have hx4 : xs.length ≤ 4 := by
    have := hFO.2.2.2.2.2.2.1
    rw [e2, ← hpar]
    omega
  have hsus : tyS code (m, 0, vs, I') := ⟨kd I, hl, Or.inl ⟨ho, by rw [e7]; exact hM1, fun y hy => hp y (by rw [e1]; exact List.mem_append_right _ hy)⟩⟩
  have hokI : okIs code g.2.2.2.2.1 g.2.2.2.2.2 I' := by
    have := P.2.2.2.1
    rw [e1] at this
    exact okIs.suf this
  rw [fa_e (by omega)] at ec
  rw [fr_fb (by omega), ← e2] at er
  have hpar' : Fs[(inA code m).2.1].2.2.1 = xs.length := by rw [hpar, e2]
  generalize (inA code m).2.2.2.2.1 = pl at *
  obtain ⟨D1, D2⟩ := C1.fet (N := N) (X := X) (n := n) (l1 := []) rfl C4 hm ec hcx (by omega)
  obtain ⟨s1, kx, y1, y2, y3, y4, y5, y6, ⟨y7, y8, y9, y10⟩, y11, y12⟩ := R1.fet (N := N) (l1 := []) hG rfl R4 hm er hrl
  have hop : mf_313 N (Int32.ofNat kx) s1 = mf_313_185 N (Int32.ofNat kx) s1 := r_op9 y3 y7
  have hcBk : cBk code ((m, 0, vs, I') :: G) = posC code m + 1 := by
    show posC code m + (if (inA code m).1 = 10 then 2 else 1) = _
    rw [if_neg (by omega)]
  generalize hfe : (inA code m).2.1 = fi at *
  by_cases hs : T.1 < fu
  · have hst := c_step (N := N) (X := X) (t := jI t 49 17 (Int32.ofNat (posC code m + 0 + 1))) (q := pl) D1.1.2.1.1 D1.1.2.1.2.1 hT.1 hs
    have hT1 : okTy fu (T.1 + 1, T.2) := ⟨hT.1, hs, hT.2.2⟩
    have Rst := y4.st
    have hstep := r_step (N := N) y4 hT.1 hs
    have h66 : (mI s1 60 (Int32.ofNat (T.1 + 1))).1 66 = Int32.ofNat 0 := Rst.1.2.2.1.1
    have hround : ∀ t3, cf_157 N X (Int32.ofNat fi) (Int32.ofNat xs.length) pl (jI (jI t 49 17 (Int32.ofNat (posC code m + 0 + 1))) 48 2 (Int32.ofNat (T.1 + 1))) = some (t3, .inl none) → ∀ Q, cf_141_L4 N X (Q + 1) 0 (Int32.ofNat n) t = cf_141_L4 N X Q 0 (Int32.ofNat (n + 1)) t3 := fun t3 ht Q => by
      rw [D2 Q]
      refine c_rdSM (by decide) (by decide) (by decide) hst (c_mv28.trans ?_)
      have CS1 := D1.st
      obtain ⟨-, w2, -⟩ := c_told (N := N) (X := X) CS1.1.1 hfi
      rw [hpar'] at w2
      have hP1 := CS1.1.1.1
      have hp2 : (p = 12 ∨ p = 21) = True := eq_true CS1.1.1.2.1
      clear D1 D2 CS1 hst
      generalize jI (jI t 49 17 (Int32.ofNat (posC code m + 0 + 1))) 48 2 (Int32.ofNat (T.1 + 1)) = tq at *
      unfold cf_142_281 cf_142_292 cf_142_296
      simp (disch := omega) only [ev_S, ev_C, ↓reduceIte, Nat.reduceEqDiff, Nat.reduceLeDiff, Nat.reduceAdd, Nat.reduceMul, Nat.reduceSub, reduceCtorEq, l32_0, l32_1, l32_2, l32_3, l32_4, l32_5, l32_6, l32_7, l32_8, l32_9, l32_10, l32_11, l32_12, l32_13, l32_14, l32_15, l32_16, l32_17, l32_18, l32_19, l32_20, l32_21, l32_22, l32_23, l32_24, l32_25, l32_26, l32_27, l32_28, l32_29, l32_33, l32_40, l32_41, l32_44, l32_45, l32_59, l32_61, l32_91, l32_93, l32_123, l32_125, hP1, hp2, w2, ht]
    have href : ∀ s3, mf_310 N (Int32.ofNat (fb0 h + fi)) (Int32.ofNat xs.length) (s1.1 69) (mI s1 60 (Int32.ofNat (T.1 + 1))) = some (s3, none) → mf_313 N (Int32.ofNat kx) s1 = some (s3, none) := fun s3 hs3 => by
      rw [hop]
      have y7' : (mI s1 60 (Int32.ofNat (T.1 + 1))).2.2.1 23 kx = Int32.ofNat 9 := y7
      have y8' : (mI s1 60 (Int32.ofNat (T.1 + 1))).2.2.1 24 kx = Int32.ofNat (fb0 h + fi) := y8
      have y9' : (mI s1 60 (Int32.ofNat (T.1 + 1))).2.2.1 25 kx = Int32.ofNat xs.length := y9
      have y69 : (mI s1 60 (Int32.ofNat (T.1 + 1))).1 69 = s1.1 69 := rfl
      clear Rst
      generalize mI s1 60 (Int32.ofNat (T.1 + 1)) = sS at *
      have hw9 : mf_316 N (Int32.ofNat kx) sS = some (s3, none) := by
        rw [r_wk9 y3 y7']
        generalize fb0 h + fi = fn at *
        unfold mf_316_109 mf_316_129
        simp (disch := omega) only [ev_S, ev_P, ↓reduceIte, Nat.reduceEqDiff, Nat.reduceLeDiff, Nat.reduceAdd, Nat.reduceMul, Nat.reduceSub, reduceCtorEq, l32_0, l32_1, l32_2, l32_3, l32_4, l32_5, l32_6, l32_7, l32_8, l32_9, l32_10, l32_11, l32_12, l32_13, l32_14, l32_15, l32_16, l32_17, l32_18, l32_19, l32_20, l32_21, l32_22, l32_23, l32_24, l32_25, l32_26, l32_27, l32_28, l32_29, l32_33, l32_40, l32_41, l32_44, l32_45, l32_59, l32_61, l32_91, l32_93, l32_123, l32_125, y8', y9', y69, hs3, l32_8000]
      unfold mf_313_185 mf_313_189 mf_313_196 mf_313_201
      simp (disch := omega) only [ev_S, ev_P, ↓reduceIte, Nat.reduceEqDiff, Nat.reduceLeDiff, Nat.reduceAdd, Nat.reduceMul, Nat.reduceSub, reduceCtorEq, l32_0, l32_1, l32_2, l32_3, l32_4, l32_5, l32_6, l32_7, l32_8, l32_9, l32_10, l32_11, l32_12, l32_13, l32_14, l32_15, l32_16, l32_17, l32_18, l32_19, l32_20, l32_21, l32_22, l32_23, l32_24, l32_25, l32_26, l32_27, l32_28, l32_29, l32_33, l32_40, l32_41, l32_44, l32_45, l32_59, l32_61, l32_91, l32_93, l32_123, l32_125, hstep, h66, hw9]
    have h30 := hT.2.2.1
    by_cases c10 : G.length ≤ 8
    · obtain ⟨t3, v1, v2, v3⟩ := (show CX t0 (jI (jI t 49 17 (Int32.ofNat (posC code m + 0 + 1))) 48 2 (Int32.ofNat (T.1 + 1))) p code Fs fu S0 u w ((m, 0, vs, J ++ I') :: G) sh (T.1 + 1, T.2) out from by rw [← e1]; exact D1.st).enter (N := N) (X := X) (d' := 0) (fi := fi) (q := pl) hN e4 (fun y hy => by have := e5 y hy; omega) hfi c10 (by rw [hcBk]; rfl) (by rw [← e1]; omega) hnv hT.2.2.2.1
      obtain ⟨s3, r1, r2, r3⟩ := (show RXm s0 (mI s1 60 (Int32.ofNat (T.1 + 1))) h code Fs fu f ((m, 0, vs, J ++ I') :: G) sh (T.1 + 1, T.2) out from by rw [← e1]; exact Rst).enter (N := N) (d' := 0) (fi := fi) hN e3 (wStk_v e5) hfi hF12 c10 (by rw [← e1]; omega) hnv hT.2.2.2.1
      have hbk : rBk h code ((m, 0, vs, I') :: G) = s1.1 69 := by
        rw [y5, y1]
        rfl
      rw [hbk] at r1
      refine goOn (k := 1) (j := 1) (by omega) (hround t3 v1) (fun Q x2 => y11 s3 (href s3 r1) r2.1.2.2.1.1 Q x2) v2 C2 v3 r2 R2 r3 (K.ent P e1 c10 hfi e8 hsus hokI hnv.1 ⟨hT1, rfl, rfl⟩ ?_ ?_)
      · rw [e1, crL_app, pv_app (fun y hy => Or.inl (e5 y hy)), e6, ← e2]
        omega
      · rw [e1, n5I_app]
        omega
    · -- too deep
      have hg9 : G.length = 9 := by omega
      obtain ⟨x1, x2, x3⟩ := Rst.trb (N := N) (k := 8) (q := pl)
      refine trob0 (kq := 8) (k0 := 1) (ra := Int32.ofNat 0) (by omega) (by omega) (by omega) K hT1 ⟨by show T.1 ≤ T.1 + 1; omega, Nat.le_refl _⟩ (D1.st) (Nat.le_trans C2 (Nat.le_add_right _ _)) x2 x3 ⟨R2.1, Nat.le_trans R2.2 (Nat.le_add_right _ _)⟩ rfl (fun t3 ht => hround t3 ?_) (y12 _ 8 (href _ ?_) rfl (by omega)) b6
      · have z7 : kI (jI (jI t 49 17 (Int32.ofNat (posC code m + 0 + 1))) 48 2 (Int32.ofNat (T.1 + 1))) 49 11 = Int32.ofNat 10 := by
          have := (D1.st).2.1.2.2.2.2.2.2.1
          rw [List.length_cons, hg9] at this
          exact this
        clear D1 D2 hst hround
        generalize jI (jI t 49 17 (Int32.ofNat (posC code m + 0 + 1))) 48 2 (Int32.ofNat (T.1 + 1)) = tq at *
        unfold cf_157 cf_157_0 cf_157_9 cf_157_17
        simp (disch := omega) only [ev_S, ev_C, ↓reduceIte, Nat.reduceEqDiff, Nat.reduceLeDiff, Nat.reduceAdd, Nat.reduceMul, Nat.reduceSub, reduceCtorEq, l32_0, l32_1, l32_2, l32_3, l32_4, l32_5, l32_6, l32_7, l32_8, l32_9, l32_10, l32_11, l32_12, l32_13, l32_14, l32_15, l32_16, l32_17, l32_18, l32_19, l32_20, l32_21, l32_22, l32_23, l32_24, l32_25, l32_26, l32_27, l32_28, l32_29, l32_33, l32_40, l32_41, l32_44, l32_45, l32_59, l32_61, l32_91, l32_93, l32_123, l32_125, z7, ht]
      · have z73 : (mI s1 60 (Int32.ofNat (T.1 + 1))).1 73 = Int32.ofNat 10 := by
          have := Rst.2.1.2.2.2.2.2.1
          rw [List.length_cons, hg9] at this
          exact this
        have z70 : (mI s1 60 (Int32.ofNat (T.1 + 1))).1 70 = pl := y6
        clear href x2 x3 Rst
        generalize mI s1 60 (Int32.ofNat (T.1 + 1)) = sS at *
        unfold mf_310 mf_310_0 mf_310_9 mf_310_19
        simp (disch := omega) only [ev_S, ev_P, ↓reduceIte, Nat.reduceEqDiff, Nat.reduceLeDiff, Nat.reduceAdd, Nat.reduceMul, Nat.reduceSub, reduceCtorEq, l32_0, l32_1, l32_2, l32_3, l32_4, l32_5, l32_6, l32_7, l32_8, l32_9, l32_10, l32_11, l32_12, l32_13, l32_14, l32_15, l32_16, l32_17, l32_18, l32_19, l32_20, l32_21, l32_22, l32_23, l32_24, l32_25, l32_26, l32_27, l32_28, l32_29, l32_33, l32_40, l32_41, l32_44, l32_45, l32_59, l32_61, l32_91, l32_93, l32_123, l32_125, z73, z70, x1]
  · obtain ⟨e1', e2', e3'⟩ := r_nost (N := N) y4 hT.1 hs hT.2.1
    rw [y6] at e1' e2' e3'
    refine nofuel (l1 := 0) (j0 := 0) C1 D2 (by decide) hT hs e2' e3' (y12 _ 10 ?_ rfl (by omega)) hol hG
    rw [hop]
    have h66 : (trb s1 (Int32.ofNat 10) pl).1 66 = Int32.ofNat 10 := rfl
    clear e2' e3'
    generalize trb s1 (Int32.ofNat 10) pl = sT at *
    unfold mf_313_185 mf_313_189 mf_313_201
    simp (disch := omega) only [ev_S, ev_P, ↓reduceIte, Nat.reduceEqDiff, Nat.reduceLeDiff, Nat.reduceAdd, Nat.reduceMul, Nat.reduceSub, reduceCtorEq, l32_0, l32_1, l32_2, l32_3, l32_4, l32_5, l32_6, l32_7, l32_8, l32_9, l32_10, l32_11, l32_12, l32_13, l32_14, l32_15, l32_16, l32_17, l32_18, l32_19, l32_20, l32_21, l32_22, l32_23, l32_24, l32_25, l32_26, l32_27, l32_28, l32_29, l32_33, l32_40, l32_41, l32_44, l32_45, l32_59, l32_61, l32_91, l32_93, l32_123, l32_125, e1', h66]
end CAL
