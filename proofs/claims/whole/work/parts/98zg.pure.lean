/-! ===== PURE: run (110): instructions: not ===== -/
section IN11
variable {N : Nat} {X : Nat → Option zz_C} {t0 t t1 t2 : cS} {s0 s s' s1 s2 : mS} {u w f f' p h fu m m' d d' n k b z j jn k0 nb an o : Nat} {code : List Ins} {Fs : List Fn} {T T' T1 : Ty} {out out' : List Int32} {F G : List Fm} {sh sh' S0 : Nat → Option Nod} {vs vs' : List (Option Nod)} {I I' J : List It} {q r pl kk gg a1 b1 c1 : Int32} {v va vb : Int64} {it : It} {x y : Nod} {l : List (Option Nod)} {L L' : List Nat} {g : Fn} {a a' : Fm} {ans : Ans} {xs ys : List Nod}
/-- no fuel is left -/
theorem nofuelE {sf : mS} {j0 : Nat} {ac g : Int32} {l1 : Nat} (C : CX t0 t p code Fs fu S0 u w (a :: G) sh T out) (hQ : ∀ Q, cf_141_L4 N X (Q + 1) 0 (Int32.ofNat n) t = if ac < Int32.ofNat 19 then cf_141_120 N X (cf_141_L4 N X Q) (Int32.ofNat n) ac g pl (jI t 49 17 q) else cf_141_108 N X (cf_141_L4 N X Q) (Int32.ofNat n) ac g pl (jI t 49 17 q)) (hac : ¬ ac < Int32.ofNat 19) (hT : okTy fu T) (hs : ¬ T.1 < fu) (B : RBk s0 sf h code Fs fu T out (Int32.ofNat 10) pl) (M : RM0 sf f h code (a :: G) sh) (hs2 : ∀ Q x2, mf_68_L10 N (Q + (0 + 1)) 0 x2 s = mo_bi (mf_312 N sf) (fun s3 y => mf_68_L10 N Q 0 x2 s3)) (ho : out.length ≤ 200000000) (hG : G.length ≤ 9) : ∃ t' s', (∀ Q, cf_141_L4 N X (Q + 1) 0 (Int32.ofNat n) t = some (t', .inl none)) ∧ (∀ Q x2, mf_68_L10 N (Q + 2) 0 x2 s = mf_68_320 N x2 s') ∧ FIN t0 t' s0 s' S0 := by
  obtain ⟨f1, f2, f3, f4, f5⟩ := hT
  have C1 := C.pc (z := q) (Or.inl rfl)
  refine ⟨_, sf, fun Q => ?_, fun Q x2 => ?_, tr_end (k := 10) (r := Int32.ofNat 0) (by omega) C1.cy B rfl ho⟩
  · rw [hQ Q]
    have h1 : kI (jI t 49 17 q) 48 1 = Int32.ofNat fu := C1.1.2.1.1
    have h2 : kI (jI t 49 17 q) 48 2 = Int32.ofNat T.1 := C1.1.2.1.2.1
    rw [show T.1 = fu by omega] at h2
    exact c_rdX hac h1 h2 f1
  · rw [show Q + 2 = Q + 1 + (0 + 1) by omega, hs2 (Q + 1) x2]
    have h66 : sf.1 66 = Int32.ofNat 10 := B.2.2.1.1
    have hd : sf.1 73 = Int32.ofNat (G.length + 1) := M.2.2.2.2.2.1
    have e1 : mf_312 N sf = some (sf, some (.int (Int32.ofNat 0))) := by
      unfold mf_312 mf_312_0 mf_312_9
      simp (disch := omega) only [ev_S, ev_P, ↓reduceIte, Nat.reduceEqDiff, Nat.reduceLeDiff, Nat.reduceAdd, Nat.reduceMul, Nat.reduceSub, reduceCtorEq, l32_0, l32_1, l32_2, l32_3, l32_4, l32_5, l32_6, l32_7, l32_8, l32_9, l32_10, l32_11, l32_12, l32_13, l32_14, l32_15, l32_16, l32_17, l32_18, l32_19, l32_20, l32_21, l32_22, l32_23, l32_24, l32_25, l32_26, l32_27, l32_28, l32_29, l32_33, l32_40, l32_41, l32_44, l32_45, l32_59, l32_61, l32_91, l32_93, l32_123, l32_125, h66]
    rw [e1, ev_bi]
    show mf_68_258 N (mf_68_L10 N Q) x2 sf = _
    generalize G.length = nf at *
    unfold mf_68_258 mf_68_265
    simp (disch := omega) only [ev_S, ev_P, ↓reduceIte, Nat.reduceEqDiff, Nat.reduceLeDiff, Nat.reduceAdd, Nat.reduceMul, Nat.reduceSub, reduceCtorEq, l32_0, l32_1, l32_2, l32_3, l32_4, l32_5, l32_6, l32_7, l32_8, l32_9, l32_10, l32_11, l32_12, l32_13, l32_14, l32_15, l32_16, l32_17, l32_18, l32_19, l32_20, l32_21, l32_22, l32_23, l32_24, l32_25, l32_26, l32_27, l32_28, l32_29, l32_33, l32_40, l32_41, l32_44, l32_45, l32_59, l32_61, l32_91, l32_93, l32_123, l32_125, hd, h66]
theorem i_4 (hN : 170000 ≤ N) (C : CS t0 t p code Fs fu S0 ((m, 0, vs, I) :: G) sh T out) (R : RSm s0 s h code Fs fu ((m, 0, vs, I) :: G) sh T out) (K : CK code Fs fu ((m, 0, vs, I) :: G) sh T out n) (ho : (inA code m).1 = 4) : GO N X t0 s0 p h code Fs fu S0 t s n := by
  obtain ⟨u, w, f, g, C1, C2, C4, R1, R2, R4, P, hm, hcx, hrl, hG, ⟨b1', b2, b6⟩, hT, hol⟩ := open0 C R K
  obtain ⟨ec, er⟩ := cI_4 (code := code) (own := posC code m) (e := h) ho
  obtain ⟨L', z3, z4⟩ := K.nxt
  obtain ⟨M, hM1, hM2⟩ : ∃ M, pop0 1 (kd I) = some M ∧ L' = 0 :: M := by
    generalize inA code m = c at *
    obtain ⟨o', jj, r0, aa, pp, xx, yy⟩ := c
    have z : o' = 4 := ho
    subst z
    have z3 : (pop0 1 (kd I)).map (0 :: ·) = some L' := z3
    cases hM : pop0 1 (kd I) with
    | none => rw [hM] at z3; cases z3
    | some M =>
      rw [hM] at z3
      exact ⟨M, rfl, (Option.some.inj z3).symm⟩
  obtain ⟨xs, J, I', e1, e2, e3, e4, e5, e6, e7, e8⟩ := topV K P hM1
  obtain ⟨x, rfl⟩ := one_xs e2
  have hx := e8 x List.mem_cons_self
  generalize (inA code m).2.2.2.2.1 = pl at *
  obtain ⟨D1, D2⟩ := C1.fet (N := N) (X := X) (n := n) (l1 := []) rfl C4 hm ec hcx (by omega)
  obtain ⟨s1, kx, y1, y2, y3, y4, y5, y6, ⟨y7, y8, y9, y10⟩, y11, y12⟩ := R1.fet (N := N) (l1 := []) hG rfl R4 hm er hrl
  -- the class lays a 0
  obtain ⟨t2, a1, a2, a3, a4⟩ := D1.push (N := N) (X := X) (m' := m) (d' := 0) (it := (1, [], 0)) (o := some (nZ 0)) (v := tg 0 0) (by omega) cN_Z (by show ¬ (1 : Nat) = 3; decide) rfl
  have hfirst : ∀ Q, cf_141_L4 N X (Q + 1) 0 (Int32.ofNat n) t = cf_141_L4 N X Q 0 (Int32.ofNat (n + 1)) t2 := fun Q => by
    rw [D2 Q]
    clear D1 D2
    generalize jI t 49 17 (Int32.ofNat (posC code m + 0 + 1)) = t1 at *
    refine c_rdM (by decide) (by decide) (c_mv0.trans ?_)
    have eth := c_thing (N := N) (X := X) (t := t1) (k := Int32.ofNat 0) (a := Int32.ofNat 0)
    have a1 : cf_165 N X (tg (Int32.ofNat 0) (Int32.ofNat 0)) t1 = _ := a1
    unfold cf_142_131 cf_142_137 cf_142_140 cf_142_296
    simp (disch := omega) only [ev_S, ev_C, ↓reduceIte, Nat.reduceEqDiff, Nat.reduceLeDiff, Nat.reduceAdd, Nat.reduceMul, Nat.reduceSub, reduceCtorEq, l32_0, l32_1, l32_2, l32_3, l32_4, l32_5, l32_6, l32_7, l32_8, l32_9, l32_10, l32_11, l32_12, l32_13, l32_14, l32_15, l32_16, l32_17, l32_18, l32_19, l32_20, l32_21, l32_22, l32_23, l32_24, l32_25, l32_26, l32_27, l32_28, l32_29, l32_33, l32_40, l32_41, l32_44, l32_45, l32_59, l32_61, l32_91, l32_93, l32_123, l32_125, eth, a1]
  have p17 : kI t2 49 17 = Int32.ofNat (posC code m + 1) := a3
  obtain ⟨E1, E2⟩ := a2.fet (N := N) (X := X) (n := n + 1) (l1 := [((0 : Int32), (0 : Int32), pl)]) (dd := 1) rfl p17 hm ec hcx (by omega)
  have hop : mf_313 N (Int32.ofNat kx) s1 = mf_313_185 N (Int32.ofNat kx) s1 := r_op4 y3 y7
  have hlC : (cStk ((m, 0, vs, (1, [], 0) :: I) :: G)).length ≤ 17501 := by
    rw [cStk_cons (m' := m) (d' := 0), List.length_append]
    show 1 + _ ≤ _
    omega
  by_cases hs : T.1 < fu
  · obtain ⟨hl, hp⟩ := K.ly0
    have hly : lyo (code.take (m + 1)) = some (0 :: kd I') := by rw [z4, hM2, e7]
    have h30 := hT.2.2.1
    have hst := c_step (N := N) (X := X) (t := jI t2 49 17 (Int32.ofNat (posC code m + 1 + 1))) (q := pl) E1.1.2.1.1 E1.1.2.1.2.1 hT.1 hs
    obtain ⟨F1, F2⟩ := (E1.st).forget (N := N) (X := X)
    have eC : cStk ((m, 0, vs, (1, [], 0) :: I) :: G) = some (nZ 0) :: some x :: cStk ((m, 0, vs, I') :: G) := by
      rw [cStk_cons (m' := m) (d' := 0), e1, cStk_app (m' := m) (d' := 0), e4]
      rfl
    obtain ⟨va, p1, p2⟩ := F2.top1 (N := N) (X := X) eC
    obtain ⟨vb, p3, p4⟩ := F2.top2 (N := N) (X := X) eC
    obtain ⟨t3, v, q1, q2⟩ := c_two (N := N) (X := X) (sg := 256) hN (by unfold isS; omega) F2.2.2.1 p4 p2 hx.1 trivial (by omega) (Nat.zero_le _)
    have q1 : cf_222 N X (Int32.ofNat 317) vb va _ = _ := q1
    have Rst := y4.st
    have Rst' := Rst
    rw [e1] at Rst'
    have hT1 : okTy fu (T.1 + 1, T.2) := ⟨hT.1, hs, hT.2.2⟩
    obtain ⟨A1, A2⟩ := Rst'.rA (m' := m) (d' := 0) e3 hT1 R2 (by rw [← e1]; exact b1') e8
    obtain ⟨s2, S1, S2⟩ := r_not (N := N) hN A1
    have hstep := r_step (N := N) y4 hT.1 hs
    have h66 : (mI s1 60 (Int32.ofNat (T.1 + 1))).1 66 = Int32.ofNat 0 := Rst.1.2.2.1.1
    have hrun : mf_313 N (Int32.ofNat kx) s1 = some (s2, none) := by
      rw [hop]
      have y7' : (mI s1 60 (Int32.ofNat (T.1 + 1))).2.2.1 23 kx = Int32.ofNat 4 := y7
      have y8' : (mI s1 60 (Int32.ofNat (T.1 + 1))).2.2.1 24 kx = Int32.ofNat 33 := y8
      clear S2 A1 A2 Rst Rst'
      generalize mI s1 60 (Int32.ofNat (T.1 + 1)) = sS at *
      have hw4 : mf_316 N (Int32.ofNat kx) sS = some (s2, none) := by
        rw [r_wk4 y3 y7']
        unfold mf_316_44 mf_316_54
        simp (disch := omega) only [ev_S, ev_P, ↓reduceIte, Nat.reduceEqDiff, Nat.reduceLeDiff, Nat.reduceAdd, Nat.reduceMul, Nat.reduceSub, reduceCtorEq, l32_0, l32_1, l32_2, l32_3, l32_4, l32_5, l32_6, l32_7, l32_8, l32_9, l32_10, l32_11, l32_12, l32_13, l32_14, l32_15, l32_16, l32_17, l32_18, l32_19, l32_20, l32_21, l32_22, l32_23, l32_24, l32_25, l32_26, l32_27, l32_28, l32_29, l32_33, l32_40, l32_41, l32_44, l32_45, l32_59, l32_61, l32_91, l32_93, l32_123, l32_125, y8', S1, l32_8000]
      unfold mf_313_185 mf_313_189 mf_313_196 mf_313_201
      simp (disch := omega) only [ev_S, ev_P, ↓reduceIte, Nat.reduceEqDiff, Nat.reduceLeDiff, Nat.reduceAdd, Nat.reduceMul, Nat.reduceSub, reduceCtorEq, l32_0, l32_1, l32_2, l32_3, l32_4, l32_5, l32_6, l32_7, l32_8, l32_9, l32_10, l32_11, l32_12, l32_13, l32_14, l32_15, l32_16, l32_17, l32_18, l32_19, l32_20, l32_21, l32_22, l32_23, l32_24, l32_25, l32_26, l32_27, l32_28, l32_29, l32_33, l32_40, l32_41, l32_44, l32_45, l32_59, l32_61, l32_91, l32_93, l32_123, l32_125, hstep, h66, hw4]
    have Mlow : RM0 (mI s1 60 (Int32.ofNat (T.1 + 1))) f h code ((m, 0, vs, I') :: G) sh := by
      refine RM0.mv Rst'.2.1 (fun _ _ => rfl) rfl rfl (Nat.le_refl _) (fun _ _ => rfl) Rst'.2.1.2.2.2.2.2.2.2 ?_ rfl (wStk_v e5).symm
      have := Rst'.2.1.1
      rw [rStk_app (m' := m) (d' := 0)] at this
      exact this.app
    have hpJ : plI I' := fun y hy => hp y (by rw [e1]; exact List.mem_append_right _ hy)
    have hoJ : okIs code g.2.2.2.2.1 g.2.2.2.2.2 I' := by
      have := P.2.2.2.1
      rw [e1] at this
      have key : ∀ {J : List It} {b z : Nat}, okIs code b z (J ++ I') → okIs code b z I' := by
        intro J
        induction J with
        | nil => intro b z q; exact q
        | cons x J ih => intro b z q; exact ih q.2
      exact key this
    have hcIt : (cIt (((1, [], 0) : It) :: J)).length = 2 := by
      rw [cIt_cons, e4]
      rfl
    have hJ3 : ∀ y ∈ (((1, [], 0) : It) :: J), ¬ y.1 = 3 := fun y hy => by
      rcases List.mem_cons.mp hy with e | e
      · rw [e]; show ¬ (1 : Nat) = 3; omega
      · have := e5 y e; omega
    subst e1
    refine vop (k0 := 2) (T1 := (T.1 + 1, T.2)) (d' := 0) (jn := 2) (J := ((1, [], 0) : It) :: J) (JK := J) hN (by omega) K P (show (cStk ((m, 0, vs, ((1, [], 0) : It) :: (J ++ I')) :: G)).length ≤ 20000 by omega) (by omega) hJ3 hcIt ⟨hT1, by show T.1 ≤ T.1 + 1; omega, rfl⟩ hly hpJ hoJ F2 C2 q2.F ?_ (fun t4 ht Q => ?_) Rst.1 Mlow R2 y6 ?_ S2 okAn_T (fun e => y11 s2 hrun e) (fun kq e1 e2 => y12 s2 kq hrun e1 e2) ?_ hol
    · show Int32.ofNat (posC code m + 1 + 1) = _
      rw [posC_s hm, show clen (inA code m) = 2 by unfold clen; rw [ho]; rfl]
    · rw [show Q + 2 = Q + 1 + 1 from rfl, hfirst (Q + 1), E2 Q]
      rw [show n + 2 = n + 1 + 1 from rfl]
      refine c_rdSW (by decide) (by decide) (by decide) hst ?_
      have hw := c_wk19 (N := N) (X := X) (g := 317) (q := pl) (v := va) (v' := vb) (t := jI (jI (jI t2 49 17 (Int32.ofNat (posC code m + 1 + 1))) 48 2 (Int32.ofNat (T.1 + 1))) 42 3 (Int32.ofNat 0))
      have G3 : cf_143_19 N X (Int32.ofNat 19) 317 pl va vb (jI (jI (jI t2 49 17 (Int32.ofNat (posC code m + 1 + 1))) 48 2 (Int32.ofNat (T.1 + 1))) 42 3 (Int32.ofNat 0)) = some (t4, .inl none) := by
        rw [hw]
        clear F1 F2 E1 E2 hst hw p2 p4 eC
        generalize jI (jI (jI t2 49 17 (Int32.ofNat (posC code m + 1 + 1))) 48 2 (Int32.ofNat (T.1 + 1))) 42 3 (Int32.ofNat 0) = tq at *
        unfold cf_143_88 cf_143_101 cf_143_106 cf_143_296
        simp (disch := omega) only [ev_S, ev_C, ↓reduceIte, Nat.reduceEqDiff, Nat.reduceLeDiff, Nat.reduceAdd, Nat.reduceMul, Nat.reduceSub, reduceCtorEq, l32_0, l32_1, l32_2, l32_3, l32_4, l32_5, l32_6, l32_7, l32_8, l32_9, l32_10, l32_11, l32_12, l32_13, l32_14, l32_15, l32_16, l32_17, l32_18, l32_19, l32_20, l32_21, l32_22, l32_23, l32_24, l32_25, l32_26, l32_27, l32_28, l32_29, l32_33, l32_40, l32_41, l32_44, l32_45, l32_59, l32_61, l32_91, l32_93, l32_123, l32_125, q1, ht, l32_317]
      have G3 : cf_143_19 N X 19 317 pl va vb (jI (jI (jI t2 49 17 (Int32.ofNat (posC code m + 1 + 1))) 48 2 (Int32.ofNat (T.1 + 1))) 42 3 (Int32.ofNat 0)) = some (t4, .inl none) := G3
      unfold cf_143 cf_143_0 cf_143_7 cf_143_12
      rw [F1]
      show ko_call 3 (cf_167 N X (Int32.ofNat 1) _) _ = _
      rw [p1]
      show ko_call 3 (cf_167 N X (Int32.ofNat 2) _) _ = _
      rw [p3]
      exact G3
    · show s1.1 69 = _
      rw [y5, y1, posR_s hm, show rlen (inA code m) = 1 by unfold rlen; rw [ho]; rfl]
      rfl
    · intro x' hx'
      rw [pv_app (fun y hy => Or.inl (e5 y hy)), e6]
      show 2 + 20 * T.1 + (1 + pvI I') ≤ crL J + 20 * (T.1 + 1) + 60 * ctV (vw x') + 1 + pvI I'
      omega
  · -- no fuel
    obtain ⟨n1, n2, n3⟩ := r_nost (N := N) y4 hT.1 hs hT.2.1
    rw [y6] at n1 n2 n3
    have hno : mf_313 N (Int32.ofNat kx) s1 = some (trb s1 (Int32.ofNat 10) pl, none) := by
      rw [hop]
      have h66 : (trb s1 (Int32.ofNat 10) pl).1 66 = Int32.ofNat 10 := rfl
      clear n2 n3
      generalize trb s1 (Int32.ofNat 10) pl = sT at *
      unfold mf_313_185 mf_313_189 mf_313_201
      simp (disch := omega) only [ev_S, ev_P, ↓reduceIte, Nat.reduceEqDiff, Nat.reduceLeDiff, Nat.reduceAdd, Nat.reduceMul, Nat.reduceSub, reduceCtorEq, l32_0, l32_1, l32_2, l32_3, l32_4, l32_5, l32_6, l32_7, l32_8, l32_9, l32_10, l32_11, l32_12, l32_13, l32_14, l32_15, l32_16, l32_17, l32_18, l32_19, l32_20, l32_21, l32_22, l32_23, l32_24, l32_25, l32_26, l32_27, l32_28, l32_29, l32_33, l32_40, l32_41, l32_44, l32_45, l32_59, l32_61, l32_91, l32_93, l32_123, l32_125, n1, h66]
    obtain ⟨t3, s3, v3, v4, v5⟩ := nofuelE (l1 := 0) (j0 := 0) (t := t2) (s := s) (n := n + 1) a2 E2 (by decide) hT hs n2 (RM0.mv n3 (b := (m, 0, vs, (1, [], 0) :: I)) (fun _ _ => rfl) rfl rfl (Nat.le_refl _) (fun _ _ => rfl) n3.2.2.2.2.2.2.2 n3.1 rfl rfl) (y12 _ 10 hno rfl (by omega)) hol hG
    refine Or.inr ⟨2, 2, t3, s3, by omega, by omega, fun Q => ?_, v4, v5⟩
    rw [show Q + 2 = Q + 1 + 1 from rfl, hfirst (Q + 1)]
    exact v3 Q
end IN11
