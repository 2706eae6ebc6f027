/-! ===== PURE: run (104): instructions: what is said; a for begins ===== -/
section IN8
variable {N : Nat} {X : Nat → Option zz_C} {t0 t t1 t2 : cS} {s0 s s' s1 s2 : mS} {u w f f' p h fu m m' d d' n k b z j rr : Nat} {code : List Ins} {Fs : List Fn} {T T' : Ty} {out out' : List Int32} {F G : List Fm} {sh sh' S0 : Nat → Option Nod} {vs vs' : List (Option Nod)} {I I' J : List It} {q r pl kk v : Int32} {it : It} {x : Nod} {l : List Nod} {c : Ins} {L L' : List Nat} {g : Fn} {a a' : Fm}
theorem i_19 (hN : 170000 ≤ N) (C : CS t0 t p code Fs fu S0 ((m, 0, vs, I) :: G) sh T out) (R : RSm s0 s h code Fs fu ((m, 0, vs, I) :: G) sh T out) (K : CK code Fs fu ((m, 0, vs, I) :: G) sh T out n) (ho : (inA code m).1 = 19) : GO N X t0 s0 p h code Fs fu S0 t s n := by
  obtain ⟨u, w, f, g, C1, C2, C4, R1, R2, R4, P, hm, hcx, hrl, hG, ⟨b1, b2, b6⟩, hT, hol⟩ := open0 C R K
  obtain ⟨ec, er⟩ := cI_19 (code := code) (own := posC code m) (e := h) ho
  obtain ⟨D1, D2⟩ := C1.fet (N := N) (X := X) (n := n) (l1 := []) rfl C4 hm ec hcx (by omega)
  obtain ⟨s1, kx, y1, y2, y3, y4, y5, y6, ⟨y7, y8, y9, y10⟩, y11, y12⟩ := R1.fet (N := N) (l1 := []) hG rfl R4 hm er hrl
  obtain ⟨x, j, y, I', q1, q2, q3, q4, q5, q6⟩ := payI K P (by omega)
  subst q1
  obtain ⟨t2, v, nr, s3, e1, e2, e3, e4, e5, e6, e7, e8, e9, e10, e11, e12, e13, e14, e15⟩ := openP (N := N) (X := X) hN D1 b2 y4 b1
  have h30 := hT.2.2.1
  have hbw := bulk_wf x.1 x.2 q6.1
  have hfl := fm_len x.1 x.2
  have hfl : (fmN x).length + 1 ≤ 15 * bulkN x := hfl
  have hbw : bulkN x ≤ 600 := hbw
  obtain ⟨t3, w1, w2, w3⟩ := c_tell (N := N) (X := X) (x := x) hN q6.1 q6.2 t2 out u w v e3.1.2.2.2.1 e3.2.2.1 e2 (by omega)
  have w1 : cf_169 N X v t2 = some (t3, .inl none) := w1
  obtain ⟨t4, w4, w5, w6, -⟩ := c_says (N := N) (X := X) (c := Int32.ofNat 10) w2 (by rw [List.length_append, List.length_map]; omega)
  obtain ⟨CT, ct17⟩ := e3.tel (w3.tr w6) w5
  have CY := CT.no (m' := m + 1) (d' := 0) (Or.inr q2)
  have h23 : s3.2.2.1 23 kx = Int32.ofNat 19 := by rw [e12]; exact y7
  have key : ∃ s4, mf_314 N (Int32.ofNat kx) s3 = mf_314_251 N s4 ∧ rOut s4 (out ++ (fmN x).map nb) ∧ fF s3 s4 := by
    by_cases c0 : kn x = 0
    · obtain ⟨i1, i2⟩ := e13.iv c0
      obtain ⟨s4, v1, v2, v3⟩ := r_number (N := N) (z := ivN x) hN e8.1.2.2.2.1 (by omega)
      refine ⟨s4, ?_, ?_, v3.fF⟩
      · generalize ivN x = iv at *
        unfold mf_314 mf_314_0 mf_314_13 mf_314_100 mf_314_204 mf_314_210 mf_314_222 mf_314_235
        simp (disch := omega) only [ev_S, ev_P, ↓reduceIte, Nat.reduceEqDiff, Nat.reduceLeDiff, Nat.reduceAdd, Nat.reduceMul, Nat.reduceSub, reduceCtorEq, l32_0, l32_1, l32_2, l32_3, l32_4, l32_5, l32_6, l32_7, l32_8, l32_9, l32_10, l32_11, l32_12, l32_13, l32_14, l32_15, l32_16, l32_17, l32_18, l32_19, l32_20, l32_21, l32_22, l32_23, l32_24, l32_25, l32_26, l32_27, l32_28, l32_29, l32_33, l32_40, l32_41, l32_44, l32_45, l32_59, l32_61, l32_91, l32_93, l32_123, l32_125, h23, e9, i1, i2, v1, l32_8000]
      · have : fmN x = numL (ivN x) := by rw [vw_fm, kn0 c0]; rfl
        rw [this]
        exact v2
    · obtain ⟨i1, a0, i2, i3⟩ := e13.th c0
      obtain ⟨s4, v1, v2, v3⟩ := r_form (N := N) (R := Rf f) hN (fun y (hy : y < f ∧ _) => by have := hy.1; omega) q6.1 q6.2 i3 e8.1.2.2.2.1 (by omega)
      refine ⟨s4, ?_, v2, v3⟩
      unfold mf_314 mf_314_0 mf_314_13 mf_314_100 mf_314_204 mf_314_210 mf_314_238
      simp (disch := omega) only [ev_S, ev_P, ↓reduceIte, Nat.reduceEqDiff, Nat.reduceLeDiff, Nat.reduceAdd, Nat.reduceMul, Nat.reduceSub, reduceCtorEq, l32_0, l32_1, l32_2, l32_3, l32_4, l32_5, l32_6, l32_7, l32_8, l32_9, l32_10, l32_11, l32_12, l32_13, l32_14, l32_15, l32_16, l32_17, l32_18, l32_19, l32_20, l32_21, l32_22, l32_23, l32_24, l32_25, l32_26, l32_27, l32_28, l32_29, l32_33, l32_40, l32_41, l32_44, l32_45, l32_59, l32_61, l32_91, l32_93, l32_123, l32_125, h23, e9, i1, i2, v1, l32_8000]
  obtain ⟨s4, k1, k2, k3⟩ := key
  obtain ⟨s5, k4, k5, k6⟩ := r_says (N := N) (c := Int32.ofNat 10) k2 (by rw [List.length_append, List.length_map]; omega)
  obtain ⟨RT, rt69, -⟩ := e8.tel (mfr.tr k3 k6.fF) k5
  have RY := RT.no (m' := m + 1) (d' := 0) (Or.inr q2)
  refine goOn (k := 1) (j := 1) (by omega) (fun Q => ?_) (fun Q x2 => y11 _ ?_ RY.1.2.2.1.1 Q x2) CY C2 ?_ RY R2 ?_ (paid K P (by omega) q2 q3 q4 q5 rfl ?_ K.2.2.2.2.1 ?_ (by omega))
  · rw [D2 Q]
    clear D1 D2
    generalize jI t 49 17 (Int32.ofNat (posC code m + 0 + 1)) = t1 at *
    refine c_rdM (by decide) (by decide) (c_mv7.trans ?_)
    unfold cf_142_201 cf_142_213 cf_142_216 cf_142_225 cf_142_296
    simp (disch := omega) only [ev_S, ev_C, ↓reduceIte, Nat.reduceEqDiff, Nat.reduceLeDiff, Nat.reduceAdd, Nat.reduceMul, Nat.reduceSub, reduceCtorEq, l32_0, l32_1, l32_2, l32_3, l32_4, l32_5, l32_6, l32_7, l32_8, l32_9, l32_10, l32_11, l32_12, l32_13, l32_14, l32_15, l32_16, l32_17, l32_18, l32_19, l32_20, l32_21, l32_22, l32_23, l32_24, l32_25, l32_26, l32_27, l32_28, l32_29, l32_33, l32_40, l32_41, l32_44, l32_45, l32_59, l32_61, l32_91, l32_93, l32_123, l32_125, e1, w1, w4]
  · rw [r_op19 y3 y7]
    refine e15 _ _ y3 ?_
    rw [k1]
    unfold mf_314_251 mf_314_257 mf_314_337
    simp (disch := omega) only [ev_S, ev_P, ↓reduceIte, Nat.reduceEqDiff, Nat.reduceLeDiff, Nat.reduceAdd, Nat.reduceMul, Nat.reduceSub, reduceCtorEq, l32_0, l32_1, l32_2, l32_3, l32_4, l32_5, l32_6, l32_7, l32_8, l32_9, l32_10, l32_11, l32_12, l32_13, l32_14, l32_15, l32_16, l32_17, l32_18, l32_19, l32_20, l32_21, l32_22, l32_23, l32_24, l32_25, l32_26, l32_27, l32_28, l32_29, l32_33, l32_40, l32_41, l32_44, l32_45, l32_59, l32_61, l32_91, l32_93, l32_123, l32_125, k4]
  · rw [ct17, e4]
    show Int32.ofNat (posC code m + 0 + 1) = Int32.ofNat (posC code (m + 1) + 0)
    rw [posC_s hm, show clen (inA code m) = 1 by unfold clen; rw [ho]; rfl]
  · rw [rt69, e10, y5, y1]
    show Int32.ofNat (ob0 h + posR code m + 0 + 1) = Int32.ofNat (ob0 h + posR code (m + 1) + 0)
    rw [posR_s hm, show rlen (inA code m) = 1 by unfold rlen; rw [ho]; rfl]
    rfl
  · exact gd_suf (m := m) (d := 0) (J := [((0, [x], j) : It), y]) K.2.2.2.1
  · rw [List.length_append, List.length_append, List.length_map, List.length_singleton]
    omega
theorem i_17 (hN : 170000 ≤ N) (C : CS t0 t p code Fs fu S0 ((m, 0, vs, I) :: G) sh T out) (R : RSm s0 s h code Fs fu ((m, 0, vs, I) :: G) sh T out) (K : CK code Fs fu ((m, 0, vs, I) :: G) sh T out n) (ho : (inA code m).1 = 17) : GO N X t0 s0 p h code Fs fu S0 t s n := by
  obtain ⟨u, w, f, g, C1, C2, C4, R1, R2, R4, P, hm, hcx, hrl, hG, ⟨b1, b2, b6⟩, hT, hol⟩ := open0 C R K
  obtain ⟨ec, er⟩ := cI_17 (code := code) (own := posC code m) (e := h) ho
  obtain ⟨hl, hp⟩ := K.ly0
  obtain ⟨L2, z3, z4⟩ := K.nxt
  have hnx := P.2.2.2.2.2.1 (by omega)
  have hpb := P.2.1
  have hbd := K.bd
  obtain ⟨M, hM, z5⟩ : ∃ M, kd I = 0 :: 5 :: M ∧ L2 = 2 :: M := by
    generalize inA code m = c at *
    obtain ⟨o', jj, r0, aa, pp, xx, yy⟩ := c
    have z : o' = 17 := ho
    subst z
    have z3 : (match (generalizing := false) kd I with | 0 :: 5 :: M => if nF M < 10 then some (2 :: M) else none | _ => none) = some L2 := z3
    split at z3
    · rename_i M hM
      split at z3
      · exact ⟨M, hM, (Option.some.inj z3).symm⟩
      · cases z3
    · cases z3
  obtain ⟨x, j, I1, q1, q2, q3⟩ := kdV0 hM P.2.2.2.1
  obtain ⟨y, I', r1, r2, r3⟩ := kdC q2
  subst r1
  subst q1
  generalize (inA code m).2.2.2.2.1 = pl at *
  obtain ⟨D1, D2⟩ := C1.fet (N := N) (X := X) (n := n) (l1 := []) rfl C4 hm ec hcx (by omega)
  obtain ⟨s1, kx, y1, y2, y3, y4, y5, y6, ⟨y7, y8, y9, y10⟩, y11, y12⟩ := R1.fet (N := N) (l1 := []) hG rfl R4 hm er hrl
  obtain ⟨t2, v0, nr, s3, e1, e2, e3, e4, e5, e6, e7, e8, e9, e10, e11, e12, e13, e14, e15⟩ := openP (N := N) (X := X) hN D1 b2 y4 b1
  have q6 : wfN x ∧ x.1 ≤ 4 := by
    refine K.2.2.2.1 x ?_
    rw [cStk_cons (m' := m) (d' := 0)]
    exact List.mem_append_left _ List.mem_cons_self
  obtain ⟨v, p1, p2⟩ := D1.top1 (N := N) (X := X) (o := some x) (l := cStk ((m, 0, vs, y :: I') :: G)) (cStk_cons (m' := m) (d' := 0))
  have p2 : cN (cel (jI t 49 17 (Int32.ofNat (posC code m + 0 + 1)))) u v x := p2
  have kx1 := c_kn (N := N) (X := X) p2
  have lx := kn_le (x := x)
  have h23 : s3.2.2.1 23 kx = Int32.ofNat 17 := by rw [e12]; exact y7
  have h70 : s3.1 70 = pl := e11.trans y6
  have E0 : mf_314 N (Int32.ofNat kx) s3 = mf_314_106 N s3 := by
    unfold mf_314 mf_314_0 mf_314_13 mf_314_100
    simp (disch := omega) only [ev_S, ev_P, ↓reduceIte, Nat.reduceEqDiff, Nat.reduceLeDiff, Nat.reduceAdd, Nat.reduceMul, Nat.reduceSub, reduceCtorEq, l32_0, l32_1, l32_2, l32_3, l32_4, l32_5, l32_6, l32_7, l32_8, l32_9, l32_10, l32_11, l32_12, l32_13, l32_14, l32_15, l32_16, l32_17, l32_18, l32_19, l32_20, l32_21, l32_22, l32_23, l32_24, l32_25, l32_26, l32_27, l32_28, l32_29, l32_33, l32_40, l32_41, l32_44, l32_45, l32_59, l32_61, l32_91, l32_93, l32_123, l32_125, h23, l32_8000]
  by_cases cneg : kn x = 0 ∧ ivN x < 0
  · -- none so small
    obtain ⟨i1, i2⟩ := e13.iv cneg.1
    have ev := p2.z cneg.1
    have lo := c_lowOf (N := N) (X := X) (t := jI t 49 17 (Int32.ofNat (posC code m + 0 + 1))) (k := 0) (a := ivN x)
    rw [← ev] at lo
    rw [cneg.1] at kx1
    have hng : (Int32.ofNat 0 ≤ ivN x) = False := by
      refine eq_false ?_
      have := (i32neg cneg.2 (k := 0) (by omega)).2.2.1
      exact this
    obtain ⟨x1, x2, -⟩ := e8.trb (N := N) (k := 1) (q := pl)
    have x3 : RM0 (trb s3 (Int32.ofNat 1) pl) f h code ((m, 0, vs, (0, [x], j) :: y :: I') :: G) sh := RM0.mv y4.2.1 (fun q _ => by rw [e7]; rfl) (by rw [e7]; rfl) (by rw [e7]; rfl) (Nat.le_refl _) (fun _ _ => by rw [e7]; rfl) (by rw [e7]; exact y4.2.1.2.2.2.2.2.2.2) (by rw [e7]; exact y4.2.1.1) rfl rfl
    refine trob0 (kq := 1) (k0 := 1) (ra := Int32.ofNat 0) (by omega) (by omega) (by omega) K hT ⟨Nat.le_refl _, Nat.le_refl _⟩ D1 (Nat.le_trans C2 (Nat.le_add_right _ _)) x2 x3 ⟨R2.1, Nat.le_trans R2.2 (Nat.le_add_right _ _)⟩ rfl (fun t3 ht Q => ?_) (y12 _ 1 ?_ rfl (by omega)) b6
    · rw [D2 Q]
      clear D1 D2
      generalize jI t 49 17 (Int32.ofNat (posC code m + 0 + 1)) = t1 at *
      refine c_rdM (by decide) (by decide) (c_mv6.trans ?_)
      generalize ivN x = iv at *
      unfold cf_142_185 cf_142_190 cf_142_296 cf_151 cf_151_0 cf_151_5 cf_151_10 cf_151_13 cf_151_17 cf_151_20 cf_151_27 cf_151_39
      simp (disch := omega) only [ev_S, ev_C, ↓reduceIte, Nat.reduceEqDiff, Nat.reduceLeDiff, Nat.reduceAdd, Nat.reduceMul, Nat.reduceSub, reduceCtorEq, l32_0, l32_1, l32_2, l32_3, l32_4, l32_5, l32_6, l32_7, l32_8, l32_9, l32_10, l32_11, l32_12, l32_13, l32_14, l32_15, l32_16, l32_17, l32_18, l32_19, l32_20, l32_21, l32_22, l32_23, l32_24, l32_25, l32_26, l32_27, l32_28, l32_29, l32_33, l32_40, l32_41, l32_44, l32_45, l32_59, l32_61, l32_91, l32_93, l32_123, l32_125, p1, kx1, lo, hng, ht]
    · rw [r_op17 y3 y7]
      refine e15 _ _ y3 ?_
      rw [E0]
      generalize ivN x = iv at *
      unfold mf_314_106 mf_314_118 mf_314_130 mf_314_139 mf_314_337
      simp (disch := omega) only [ev_S, ev_P, ↓reduceIte, Nat.reduceEqDiff, Nat.reduceLeDiff, Nat.reduceAdd, Nat.reduceMul, Nat.reduceSub, reduceCtorEq, l32_0, l32_1, l32_2, l32_3, l32_4, l32_5, l32_6, l32_7, l32_8, l32_9, l32_10, l32_11, l32_12, l32_13, l32_14, l32_15, l32_16, l32_17, l32_18, l32_19, l32_20, l32_21, l32_22, l32_23, l32_24, l32_25, l32_26, l32_27, l32_28, l32_29, l32_33, l32_40, l32_41, l32_44, l32_45, l32_59, l32_61, l32_91, l32_93, l32_123, l32_125, e9, i1, i2, hng, h70, x1]
  · -- it begins
    obtain ⟨t3, a1, a2, a3, a4⟩ := D1.push (N := N) (X := X) (m' := m) (d' := 0) (it := (0, [nZ 0], 0)) (o := some (nZ 0)) (v := tg 0 0) (by omega) cN_Z (by show ¬ (0 : Nat) = 3; decide) rfl
    have CY : CX t0 t3 p code Fs fu S0 u w ((m + 1, 0, vs, (2, [x], 0) :: I') :: G) sh T out := by
      refine a2.re ?_ ?_
      · rw [cStk_cons (m := m) (d := 0) (m' := m) (d' := 0), cStk_cons (m := m) (d := 0) (m' := m) (d' := 0), cStk_cons (m := m) (d := 0) (m' := m + 1) (d' := 0), (iC_no (Or.inr r2)).1, cStk_cons (m := m + 1) (d := 0) (m' := m + 1) (d' := 0)]
        rfl
      · rw [tStk_cons (m := m + 1) (d := 0) (m' := m + 1) (d' := 0) (by show ¬ (2 : Nat) = 3; decide), tStk_cons (m := m) (d := 0) (m' := m) (d' := 0) (by show ¬ (0 : Nat) = 3; decide), tStk_cons (m := m) (d := 0) (m' := m) (d' := 0) (by show ¬ (0 : Nat) = 3; decide), tStk_cons (m := m) (d := 0) (m' := m + 1) (d' := 0) (by omega)]
    have e8n := e8.no (m' := m) (d' := 0) (Or.inr r2)
    have hwl : (wStk ((m, 0, vs, I') :: G)).length ≤ 110 := by
      have := hbd.2.2.1
      rw [wStk_cons (m' := m) (d' := 0) (by show ¬ ((0 : Nat) = 2 ∨ (0 : Nat) = 3 ∨ (0 : Nat) = 6 ∨ (0 : Nat) = 8); decide), wStk_cons (m' := m) (d' := 0) (by omega)] at this
      exact this
    have h73 : s3.1 73 = Int32.ofNat (G.length + 1) := e8.2.1.2.2.2.2.2.1
    have h79 := e8n.2.1.2.2.2.2.2.2.1
    have hgd := gd_suf (m' := m + 1) (d' := 0) (J := [((0, [x], j) : It), y]) (I := I') K.2.2.2.1
    -- the way
    have key : ∃ vw2, mf_314 N (Int32.ofNat kx) s3 = some (wyS s3 (wStk ((m, 0, vs, I') :: G)).length vw2, none) ∧ wayP (s3.2.2.1 47) f h code vw2 ((2, [x], 0), (rStk ((m, 0, vs, I') :: G)).length, G.length + 1) := by
      generalize (wStk ((m, 0, vs, I') :: G)).length = nw at *
      by_cases c0 : kn x = 0
      · obtain ⟨i1, i2⟩ := e13.iv c0
        have cn : ¬ ivN x < 0 := fun q => cneg ⟨c0, q⟩
        obtain ⟨iv, hiv, eiv⟩ := i32nn cn
        have hw := r_way (N := N) (x1 := Int32.ofNat 1) (x2 := -Int32.ofNat 1) (x3 := Int32.ofNat iv) (x4 := Int32.ofNat 0) h79 (by omega)
        refine ⟨(Int32.ofNat 1, -Int32.ofNat 1, Int32.ofNat 0, Int32.ofNat iv, Int32.ofNat 0, s3.1 73), ?_, ⟨fun _ => ⟨rfl, rfl, fun y' hy' => ⟨fun _ => ⟨rfl, ?_⟩, fun q => ?_⟩⟩, fun q => (by cases q), fun q => (by rcases q with q | q <;> cases q)⟩⟩
        · rw [E0]
          rw [eiv] at i2
          unfold mf_314_106 mf_314_118 mf_314_142 mf_314_154 mf_314_170 mf_314_337
          simp (disch := omega) only [ev_S, ev_P, ↓reduceIte, Nat.reduceEqDiff, Nat.reduceLeDiff, Nat.reduceAdd, Nat.reduceMul, Nat.reduceSub, reduceCtorEq, l32_0, l32_1, l32_2, l32_3, l32_4, l32_5, l32_6, l32_7, l32_8, l32_9, l32_10, l32_11, l32_12, l32_13, l32_14, l32_15, l32_16, l32_17, l32_18, l32_19, l32_20, l32_21, l32_22, l32_23, l32_24, l32_25, l32_26, l32_27, l32_28, l32_29, l32_33, l32_40, l32_41, l32_44, l32_45, l32_59, l32_61, l32_91, l32_93, l32_123, l32_125, e9, i1, i2, hw]
        · have : y' = x := by simpa using hy'.symm
          rw [this]
          exact eiv.symm
        · have : y' = x := by simpa using hy'.symm
          rw [this] at q
          exact absurd c0 q
      · obtain ⟨i1, a0, i2, i3⟩ := e13.th c0
        have hsz : mf_77 N (Int32.ofNat a0) s3 = some (s3, some (.int (Int32.ofNat (szN x)))) := r_size (N := N) (s := s3) (LayN_iff.mp i3).2 (Nat.le_trans (LayN.lt i3).1 (by have := hT.2.2.1; omega))
        have hw := r_way (N := N) (x1 := Int32.ofNat 1) (x2 := Int32.ofNat a0) (x3 := Int32.ofNat (szN x)) (x4 := Int32.ofNat 0) h79 (by omega)
        refine ⟨(Int32.ofNat 1, Int32.ofNat a0, Int32.ofNat 0, Int32.ofNat (szN x), Int32.ofNat 0, s3.1 73), ?_, ⟨fun _ => ⟨rfl, rfl, fun y' hy' => ⟨fun q => ?_, fun _ => ⟨a0, rfl, ?_, ?_⟩⟩⟩, fun q => (by cases q), fun q => (by rcases q with q | q <;> cases q)⟩⟩
        · rw [E0]
          generalize szN x = sx at *
          unfold mf_314_106 mf_314_142 mf_314_173 mf_314_197 mf_314_201 mf_314_337
          simp (disch := omega) only [ev_S, ev_P, ↓reduceIte, Nat.reduceEqDiff, Nat.reduceLeDiff, Nat.reduceAdd, Nat.reduceMul, Nat.reduceSub, reduceCtorEq, l32_0, l32_1, l32_2, l32_3, l32_4, l32_5, l32_6, l32_7, l32_8, l32_9, l32_10, l32_11, l32_12, l32_13, l32_14, l32_15, l32_16, l32_17, l32_18, l32_19, l32_20, l32_21, l32_22, l32_23, l32_24, l32_25, l32_26, l32_27, l32_28, l32_29, l32_33, l32_40, l32_41, l32_44, l32_45, l32_59, l32_61, l32_91, l32_93, l32_123, l32_125, e9, i1, i2, hsz, hw]
        · have : y' = x := by simpa using hy'.symm
          rw [this] at q
          exact absurd q c0
        · have : y' = x := by simpa using hy'.symm
          rw [this]
          exact i3
        · have : y' = x := by simpa using hy'.symm
          rw [this]
    obtain ⟨vw2, k1, k2⟩ := key
    have RY := e8n.way (m' := m + 1) (d' := 0) (it := (2, [x], 0)) (Or.inl rfl) rfl k2
    refine goOn (k := 1) (j := 1) (by omega) (fun Q => ?_) (fun Q x2 => y11 _ (by rw [r_op17 y3 y7]; exact e15 _ _ y3 k1) RY.1.2.2.1.1 Q x2) CY C2 ?_ RY R2 ?_ (K.to P (by omega) (I' := (2, [x], 0) :: I') (by rw [z4, z5, ← r3]; rfl) ?_ ⟨?_, q3.2⟩ rfl ?_ K.2.2.2.2.1 hT ?_ ?_)
    · rw [D2 Q]
      clear D1 D2
      generalize jI t 49 17 (Int32.ofNat (posC code m + 0 + 1)) = t1 at *
      refine c_rdM (by decide) (by decide) (c_mv6.trans ?_)
      have eth := c_thing (N := N) (X := X) (t := t1) (k := Int32.ofNat 0) (a := Int32.ofNat 0)
      have a1 : cf_165 N X (tg (Int32.ofNat 0) (Int32.ofNat 0)) t1 = _ := a1
      by_cases c0 : kn x = 0
      · have ev := p2.z c0
        have lo := c_lowOf (N := N) (X := X) (t := t1) (k := 0) (a := ivN x)
        rw [← ev] at lo
        rw [c0] at kx1
        have cn : ¬ ivN x < 0 := fun q => cneg ⟨c0, q⟩
        obtain ⟨iv, hiv, eiv⟩ := i32nn cn
        rw [eiv] at lo
        unfold cf_142_185 cf_142_190 cf_142_296 cf_151 cf_151_0 cf_151_5 cf_151_10 cf_151_13 cf_151_17 cf_151_30 cf_151_36 cf_151_39
        simp (disch := omega) only [ev_S, ev_C, ↓reduceIte, Nat.reduceEqDiff, Nat.reduceLeDiff, Nat.reduceAdd, Nat.reduceMul, Nat.reduceSub, reduceCtorEq, l32_0, l32_1, l32_2, l32_3, l32_4, l32_5, l32_6, l32_7, l32_8, l32_9, l32_10, l32_11, l32_12, l32_13, l32_14, l32_15, l32_16, l32_17, l32_18, l32_19, l32_20, l32_21, l32_22, l32_23, l32_24, l32_25, l32_26, l32_27, l32_28, l32_29, l32_33, l32_40, l32_41, l32_44, l32_45, l32_59, l32_61, l32_91, l32_93, l32_123, l32_125, p1, kx1, lo, eth, a1]
      · clear cneg
        generalize kn x = kn' at *
        unfold cf_142_185 cf_142_190 cf_142_296 cf_151 cf_151_0 cf_151_5 cf_151_10 cf_151_30 cf_151_36 cf_151_39
        simp (disch := omega) only [ev_S, ev_C, ↓reduceIte, Nat.reduceEqDiff, Nat.reduceLeDiff, Nat.reduceAdd, Nat.reduceMul, Nat.reduceSub, reduceCtorEq, l32_0, l32_1, l32_2, l32_3, l32_4, l32_5, l32_6, l32_7, l32_8, l32_9, l32_10, l32_11, l32_12, l32_13, l32_14, l32_15, l32_16, l32_17, l32_18, l32_19, l32_20, l32_21, l32_22, l32_23, l32_24, l32_25, l32_26, l32_27, l32_28, l32_29, l32_33, l32_40, l32_41, l32_44, l32_45, l32_59, l32_61, l32_91, l32_93, l32_123, l32_125, p1, kx1, c0, eth, a1]
    · rw [a3]
      show Int32.ofNat (posC code m + 0 + 1) = Int32.ofNat (posC code (m + 1) + 0)
      rw [posC_s hm, show clen (inA code m) = 1 by unfold clen; rw [ho]; rfl]
    · show s3.1 69 = _
      rw [e10, y5, y1]
      show Int32.ofNat (ob0 h + posR code m + 0 + 1) = Int32.ofNat (ob0 h + posR code (m + 1) + 0)
      rw [posR_s hm, show rlen (inA code m) = 1 by unfold rlen; rw [ho]; rfl]
      rfl
    · intro q hq
      rcases List.mem_cons.mp hq with e | e
      · rw [e]; show (2 : Nat) ≤ 5; omega
      · exact hp.tl.tl q e
    · refine ⟨by show (2 : Nat) ≤ 8; omega, fun q => (by rcases q with q | q <;> cases q), fun _ => ⟨x, rfl, fun c0 => ⟨fun q => cneg ⟨c0, q⟩, Nat.zero_le _⟩, fun _ => Nat.zero_le _⟩, fun q => (by cases q), fun q => (by cases q), fun q => (by cases q)⟩
    · rw [cStk_cons (m' := m + 1) (d' := 0)]
      show gdS (some (nZ (Int32.ofNat 0)) :: some x :: cStk ((m + 1, 0, vs, I') :: G))
      exact gd_c gd_Z (gd_c (fun y' hy' => by cases hy'; exact q6) hgd)
    · have f2 : pvI ((0, [x], j) :: y :: I') = 1 + pvI (y :: I') := rfl
      have f3 : crI (2, [x], 0) = 0 := rfl
      rw [crL_c, crL_c, crL_c, cr5 r2, f2, f3, pv5 (I := I') (by omega)]
      show 1 + (0 + crL I') + 20 * T.1 + 60 * T.2.1 + (1 + 0) ≤ 0 + (8 + crL I') + 20 * T.1 + 60 * T.2.1 + _
      omega
    · rw [n5I_c, n5I_c, n5I_c, if_pos r2]
      show out.length + 9100 * (0 + n5I I') + 9100 * T.1 ≤ out.length + 9100 * (0 + (1 + n5I I')) + 9100 * T.1
      omega
end IN8
