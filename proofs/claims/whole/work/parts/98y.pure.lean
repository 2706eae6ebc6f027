/-! ===== PURE: run (102): instructions: ask, get ===== -/
/-- what a variable has -/
def gV (r : Nat) (vs : List (Option Nod)) (sh : Nat → Option Nod) : Option Nod := if r < 8 then sh r else vs.getD (r - 8) none
section IN6
variable {N : Nat} {X : Nat → Option zz_C} {t0 t t1 t2 : cS} {s0 s s' s1 s2 : mS} {u w f f' p h fu m m' d d' n k b z j rr : Nat} {code : List Ins} {Fs : List Fn} {T T' : Ty} {out out' : List Int32} {F G : List Fm} {sh sh' S0 : Nat → Option Nod} {vs vs' : List (Option Nod)} {I I' J : List It} {q r pl kk v : Int32} {it : It} {x : Nod} {l : List Nod} {c : Ins} {L L' : List Nat} {g : Fn} {a a' : Fm}
theorem i_13 (hN : 170000 ≤ N) (C : CS t0 t p code Fs fu S0 ((m, 0, vs, I) :: G) sh T out) (R : RSm s0 s h code Fs fu ((m, 0, vs, I) :: G) sh T out) (K : CK code Fs fu ((m, 0, vs, I) :: G) sh T out n) (ho : (inA code m).1 = 13) : GO N X t0 s0 p h code Fs fu S0 t s n := by
  obtain ⟨u, w, f, g, C1, C2, C4, R1, R2, R4, P, hm, hcx, hrl, hG, ⟨b1, b2, b6⟩, hT, hol⟩ := open0 C R K
  obtain ⟨ec, er⟩ := cI_13 (code := code) (own := posC code m) (e := h) ho
  obtain ⟨hl, hp⟩ := K.ly0
  obtain ⟨hjb, L', hL', hjl⟩ := P.jmp hl (by unfold noJ; omega)
  have hlen := code_len K.1.1.2.2.1 hcx
  have hzl := (K.1.1.1 g P.1).2.1
  have hnx := P.2.2.2.2.2.1 (by omega)
  have hpb := P.2.1
  rw [tgC_e (by omega)] at ec
  rw [tgR_e (by omega)] at er
  have hjl' : kd I = 0 :: 5 :: L' ∨ kd I = 0 :: 5 :: 5 :: L' := by
    rcases hjl with ⟨-, z⟩ | z | z | z | z
    · exact z
    · omega
    · omega
    · omega
    · omega
  obtain ⟨M, hM⟩ : ∃ M, kd I = 0 :: 5 :: M := by
    rcases hjl' with z | z
    · exact ⟨_, z⟩
    · exact ⟨_, z⟩
  obtain ⟨L2, z3, z4⟩ := K.nxt
  have z5 : L2 = 4 :: M := by
    generalize inA code m = c at *
    obtain ⟨o', jj, r0, aa, pp, xx, yy⟩ := c
    have z : o' = 13 := ho
    subst z
    rw [hM] at z3
    have z3 : (if nF M < 10 then some (4 :: M) else none) = some L2 := z3
    split at z3
    · exact (Option.some.inj z3).symm
    · cases z3
  obtain ⟨x, j, I1, q1, q2, q3⟩ := kdV0 hM P.2.2.2.1
  obtain ⟨y, I', r1, r2, r3⟩ := kdC q2
  subst r1
  obtain ⟨D1, D2⟩ := C1.fet (N := N) (X := X) (n := n) (l1 := []) rfl C4 hm ec hcx (by omega)
  obtain ⟨s1, kx, y1, y2, y3, y4, y5, y6, ⟨y7, y8, y9, y10⟩, y11, y12⟩ := R1.fet (N := N) (l1 := []) hG rfl R4 hm er hrl
  subst q1
  generalize (inA code m).2.2.2.2.1 = pl at *
  generalize hjj : (inA code m).2.1 = jt at *
  obtain ⟨t2, v, nr, s3, e1, e2, e3, e4, e5, e6, e7, e8, e9, e10, e11, e12, e13, e14, e15⟩ := openP (N := N) (X := X) hN D1 b2 y4 b1
  have kx1 := c_kn (N := N) (X := X) e2
  have lx := kn_le (x := x)
  have h23 : s3.2.2.1 23 kx = Int32.ofNat 14 := by rw [e12]; exact y7
  have h24 : s3.2.2.1 24 kx = Int32.ofNat (ob0 h + posR code jt) := by rw [e12]; exact y8
  have h70 : s3.1 70 = pl := e11.trans y6
  have E0 : mf_314 N (Int32.ofNat kx) s3 = mf_314_19 N (Int32.ofNat kx) (Int32.ofNat 14) s3 := by
    unfold mf_314 mf_314_0
    simp (disch := omega) only [ev_S, ev_P, ↓reduceIte, Nat.reduceEqDiff, Nat.reduceLeDiff, Nat.reduceAdd, Nat.reduceMul, Nat.reduceSub, reduceCtorEq, l32_0, l32_1, l32_2, l32_3, l32_4, l32_5, l32_6, l32_7, l32_8, l32_9, l32_10, l32_11, l32_12, l32_13, l32_14, l32_15, l32_16, l32_17, l32_18, l32_19, l32_20, l32_21, l32_22, l32_23, l32_24, l32_25, l32_26, l32_27, l32_28, l32_29, l32_33, l32_40, l32_41, l32_44, l32_45, l32_59, l32_61, l32_91, l32_93, l32_123, l32_125, h23, l32_8000]
  by_cases c0 : kn x = 0
  · have ev := e2.z c0
    have lo := c_lowOf (N := N) (X := X) (t := t2) (k := 0) (a := ivN x)
    rw [← ev] at lo
    rw [c0] at kx1
    obtain ⟨i1, i2⟩ := e13.iv c0
    by_cases cz : ivN x = 0
    · -- it jumps
      obtain ⟨A, I2, w1, w2, w3⟩ : ∃ A I2, I' = A ++ I2 ∧ kd I2 = L' ∧ (A = [] ∨ ∃ b, A = [b] ∧ b.1 = 5) := by
        have h2 : kd I' = M := r3
        rcases hjl' with z' | z'
        · rw [hM] at z'
          have e : M = L' := by simpa using z'
          exact ⟨[], I', rfl, by rw [h2, e], Or.inl rfl⟩
        · rw [hM] at z'
          have e : M = 5 :: L' := by simpa using z'
          rw [e] at h2
          obtain ⟨b, I2, v1, v2, v3⟩ := kdC h2
          exact ⟨[b], I2, v1, v3, Or.inr ⟨b, rfl, v2⟩⟩
      have hok2 : okIs code g.2.2.2.2.1 g.2.2.2.2.2 I2 := by
        have := q3.2
        rw [w1] at this
        rcases w3 with z' | ⟨b, z', -⟩
        · rw [z'] at this; exact this
        · rw [z'] at this; exact this.2
      have hp2 : plI I2 := fun q hq => hp.tl.tl q (by rw [w1]; exact List.mem_append_right _ hq)
      have hgd := gd_suf (m' := jt) (d' := 0) (J := ((0, [x], j) : It) :: y :: A) (I := I2) (by have := K.2.2.2.1; rw [w1] at this; exact this)
      have CY : CX t0 (jI t2 49 17 (Int32.ofNat (posC code jt))) p code Fs fu S0 u w ((jt, 0, vs, I2) :: G) sh T out := by
        have h1 := (e3.no (m' := m) (d' := 0) (Or.inr r2)).pc (z := Int32.ofNat (posC code jt)) (Or.inl rfl)
        rw [w1] at h1
        rcases w3 with z' | ⟨b, z', zb⟩
        · rw [z'] at h1; exact h1
        · rw [z'] at h1; exact h1.no (Or.inr zb)
      have RY : RXm s0 (mI s3 69 (Int32.ofNat (ob0 h + posR code jt))) h code Fs fu f ((jt, 0, vs, I2) :: G) sh T out := by
        have h1 := (e8.no (m' := m) (d' := 0) (Or.inr r2)).pc (z := Int32.ofNat (ob0 h + posR code jt))
        rw [w1] at h1
        rcases w3 with z' | ⟨b, z', zb⟩
        · rw [z'] at h1; exact h1
        · rw [z'] at h1; exact h1.no (Or.inr zb)
      refine goOn (k := 1) (j := 1) (by omega) (fun Q => ?_) (fun Q x2 => y11 _ ?_ RY.1.2.2.1.1 Q x2) CY C2 rfl RY R2 rfl (K.to P hjb (by rw [w2]; exact hL') hp2 hok2 rfl hgd K.2.2.2.2.1 hT ?_ ?_)
      · rw [D2 Q]
        clear D1 D2
        generalize jI t 49 17 (Int32.ofNat (posC code m + 0 + 1)) = t1 at *
        refine c_rdM (by decide) (by decide) (c_mv5.trans ?_)
        rw [cz] at lo
        have lo : cf_256 N X v t2 = some (t2, .inl (some (.int (Int32.ofNat 0)))) := lo
        unfold cf_142_176 cf_142_182 cf_142_296 cf_150 cf_150_0 cf_150_4 cf_150_9 cf_150_22 cf_150_26 cf_150_29 cf_150_34
        simp (disch := omega) only [ev_S, ev_C, ↓reduceIte, Nat.reduceEqDiff, Nat.reduceLeDiff, Nat.reduceAdd, Nat.reduceMul, Nat.reduceSub, reduceCtorEq, l32_0, l32_1, l32_2, l32_3, l32_4, l32_5, l32_6, l32_7, l32_8, l32_9, l32_10, l32_11, l32_12, l32_13, l32_14, l32_15, l32_16, l32_17, l32_18, l32_19, l32_20, l32_21, l32_22, l32_23, l32_24, l32_25, l32_26, l32_27, l32_28, l32_29, l32_33, l32_40, l32_41, l32_44, l32_45, l32_59, l32_61, l32_91, l32_93, l32_123, l32_125, e1, kx1, lo]
      · rw [r_op14 y3 y7]
        refine e15 _ _ y3 ?_
        rw [E0]
        rw [cz] at i2
        have i2 : s3.2.2.1 50 nr = Int32.ofNat 0 := i2
        generalize ob0 h + posR code jt = tj at *
        unfold mf_314_19 mf_314_43 mf_314_49 mf_314_61 mf_314_337
        simp (disch := omega) only [ev_S, ev_P, ↓reduceIte, Nat.reduceEqDiff, Nat.reduceLeDiff, Nat.reduceAdd, Nat.reduceMul, Nat.reduceSub, reduceCtorEq, l32_0, l32_1, l32_2, l32_3, l32_4, l32_5, l32_6, l32_7, l32_8, l32_9, l32_10, l32_11, l32_12, l32_13, l32_14, l32_15, l32_16, l32_17, l32_18, l32_19, l32_20, l32_21, l32_22, l32_23, l32_24, l32_25, l32_26, l32_27, l32_28, l32_29, l32_33, l32_40, l32_41, l32_44, l32_45, l32_59, l32_61, l32_91, l32_93, l32_123, l32_125, e9, i1, i2, h24, l32_8000]
      · have f1 : crL I' = crL A + crL I2 := by rw [w1, crL_app]
        have f2 : pvI ((0, [x], j) :: y :: I') = 1 + pvI (y :: I') := rfl
        rw [crL_c, crL_c, cr5 r2, f2, pv5 (by omega), f1]
        show 1 + crL I2 + 20 * T.1 + 60 * T.2.1 + (1 + 0) ≤ 0 + (8 + (crL A + crL I2)) + 20 * T.1 + 60 * T.2.1 + pvI I2
        omega
      · have f1 : n5I I' = n5I A + n5I I2 := by rw [w1, n5I_app]
        rw [n5I_c, n5I_c, f1]
        omega
    · -- it goes on
      have CY := (e3.no (m' := m) (d' := 0) (Or.inr r2)).yes (m' := m + 1) (d' := 0) (it := (4, [], 0)) (Or.inl rfl)
      have RY := (e8.no (m' := m) (d' := 0) (Or.inr r2)).yes (m' := m + 1) (d' := 0) (it := (4, [], 0)) (Or.inl rfl)
      have hgd := gd_suf (m' := m + 1) (d' := 0) (J := [((0, [x], j) : It), y]) (I := I') K.2.2.2.1
      have cz' : ¬ ivN x = Int32.ofNat 0 := cz
      refine goOn (k := 1) (j := 1) (by omega) (fun Q => ?_) (fun Q x2 => y11 _ ?_ RY.1.2.2.1.1 Q x2) CY C2 ?_ RY R2 ?_ (K.to P (by omega) (I' := (4, [], 0) :: I') (by rw [z4, z5, ← r3]; rfl) ?_ ⟨ok4, q3.2⟩ rfl ?_ K.2.2.2.2.1 hT ?_ ?_)
      · rw [D2 Q]
        clear D1 D2
        generalize jI t 49 17 (Int32.ofNat (posC code m + 0 + 1)) = t1 at *
        refine c_rdM (by decide) (by decide) (c_mv5.trans ?_)
        generalize ivN x = iv at *
        unfold cf_142_176 cf_142_182 cf_142_296 cf_150 cf_150_0 cf_150_4 cf_150_9 cf_150_22 cf_150_26 cf_150_34
        simp (disch := omega) only [ev_S, ev_C, ↓reduceIte, Nat.reduceEqDiff, Nat.reduceLeDiff, Nat.reduceAdd, Nat.reduceMul, Nat.reduceSub, reduceCtorEq, l32_0, l32_1, l32_2, l32_3, l32_4, l32_5, l32_6, l32_7, l32_8, l32_9, l32_10, l32_11, l32_12, l32_13, l32_14, l32_15, l32_16, l32_17, l32_18, l32_19, l32_20, l32_21, l32_22, l32_23, l32_24, l32_25, l32_26, l32_27, l32_28, l32_29, l32_33, l32_40, l32_41, l32_44, l32_45, l32_59, l32_61, l32_91, l32_93, l32_123, l32_125, e1, kx1, lo, cz']
      · rw [r_op14 y3 y7]
        refine e15 _ _ y3 ?_
        rw [E0]
        generalize ivN x = iv at *
        unfold mf_314_19 mf_314_43 mf_314_49 mf_314_337
        simp (disch := omega) only [ev_S, ev_P, ↓reduceIte, Nat.reduceEqDiff, Nat.reduceLeDiff, Nat.reduceAdd, Nat.reduceMul, Nat.reduceSub, reduceCtorEq, l32_0, l32_1, l32_2, l32_3, l32_4, l32_5, l32_6, l32_7, l32_8, l32_9, l32_10, l32_11, l32_12, l32_13, l32_14, l32_15, l32_16, l32_17, l32_18, l32_19, l32_20, l32_21, l32_22, l32_23, l32_24, l32_25, l32_26, l32_27, l32_28, l32_29, l32_33, l32_40, l32_41, l32_44, l32_45, l32_59, l32_61, l32_91, l32_93, l32_123, l32_125, e9, i1, i2, cz']
      · rw [e4]
        show Int32.ofNat (posC code m + 0 + 1) = Int32.ofNat (posC code (m + 1) + 0)
        rw [posC_s hm, show clen (inA code m) = 1 by unfold clen; rw [ho]; rfl]
      · rw [e10, y5, y1]
        show Int32.ofNat (ob0 h + posR code m + 0 + 1) = Int32.ofNat (ob0 h + posR code (m + 1) + 0)
        rw [posR_s hm, show rlen (inA code m) = 1 by unfold rlen; rw [ho]; rfl]
        rfl
      · intro q hq
        rcases List.mem_cons.mp hq with e | e
        · rw [e]; show (4 : Nat) ≤ 5; omega
        · exact hp.tl.tl q e
      · rw [cStk_cons (m' := m + 1) (d' := 0), (iC_no (it := (4, [], 0)) (Or.inl rfl)).1]
        exact hgd
      · have f2 : pvI ((0, [x], j) :: y :: I') = 1 + pvI (y :: I') := rfl
        have f3 : crI (4, [], 0) = 2 := rfl
        rw [crL_c, crL_c, crL_c, cr5 r2, f2, f3, pv5 (by omega)]
        show 1 + (2 + crL I') + 20 * T.1 + 60 * T.2.1 + (1 + 0) ≤ 0 + (8 + crL I') + 20 * T.1 + 60 * T.2.1 + _
        omega
      · rw [n5I_c, n5I_c, n5I_c, if_pos r2]
        show out.length + 9100 * (0 + n5I I') + 9100 * T.1 ≤ out.length + 9100 * (0 + (1 + n5I I')) + 9100 * T.1
        omega
  · obtain ⟨i1, -⟩ := e13.th c0
    obtain ⟨x1, x2, x3⟩ := e8.trb (N := N) (k := 3) (q := pl)
    refine trob1 (kq := 3) (ra := Int32.ofNat 0) (by omega) (by omega) K e3 C2 x2 x3 R2 rfl (fun t3 ht Q => ?_) (y12 _ 3 ?_ rfl (by omega)) b6 hT
    · rw [D2 Q]
      clear D1 D2
      generalize jI t 49 17 (Int32.ofNat (posC code m + 0 + 1)) = t1 at *
      refine c_rdM (by decide) (by decide) (c_mv5.trans ?_)
      generalize kn x = kn' at *
      unfold cf_142_176 cf_142_182 cf_142_296 cf_150 cf_150_0 cf_150_4 cf_150_9 cf_150_12 cf_150_19 cf_150_34
      simp (disch := omega) only [ev_S, ev_C, ↓reduceIte, Nat.reduceEqDiff, Nat.reduceLeDiff, Nat.reduceAdd, Nat.reduceMul, Nat.reduceSub, reduceCtorEq, l32_0, l32_1, l32_2, l32_3, l32_4, l32_5, l32_6, l32_7, l32_8, l32_9, l32_10, l32_11, l32_12, l32_13, l32_14, l32_15, l32_16, l32_17, l32_18, l32_19, l32_20, l32_21, l32_22, l32_23, l32_24, l32_25, l32_26, l32_27, l32_28, l32_29, l32_33, l32_40, l32_41, l32_44, l32_45, l32_59, l32_61, l32_91, l32_93, l32_123, l32_125, e1, kx1, c0, ht]
    · rw [r_op14 y3 y7]
      refine e15 _ _ y3 ?_
      rw [E0]
      unfold mf_314_19 mf_314_31 mf_314_40 mf_314_337
      simp (disch := omega) only [ev_S, ev_P, ↓reduceIte, Nat.reduceEqDiff, Nat.reduceLeDiff, Nat.reduceAdd, Nat.reduceMul, Nat.reduceSub, reduceCtorEq, l32_0, l32_1, l32_2, l32_3, l32_4, l32_5, l32_6, l32_7, l32_8, l32_9, l32_10, l32_11, l32_12, l32_13, l32_14, l32_15, l32_16, l32_17, l32_18, l32_19, l32_20, l32_21, l32_22, l32_23, l32_24, l32_25, l32_26, l32_27, l32_28, l32_29, l32_33, l32_40, l32_41, l32_44, l32_45, l32_59, l32_61, l32_91, l32_93, l32_123, l32_125, e9, i1, h70, x1]
/-- a variable's value, the class -/
theorem CX.var (C : CX t0 t p code Fs fu S0 u w ((m, d, vs, I) :: G) sh T out) (hl : (cStk ((m, d, vs, I) :: G)).length ≤ 20000) (hG : G.length ≤ 9) (hr : rr < 8 + vs.length) (hv : vs.length ≤ 14) : ∃ v, cC (cel t) u v (gV rr vs sh) ∧ cf_147 N X (cv rr) q t = cf_147_66 N X q v t := by
  obtain ⟨c1, ⟨z1, z2, z3, z4, z5, z6, z7, z8⟩, c3, c4⟩ := C
  unfold gV
  have eb : cf_253 N X (-1) 0 t = some (t, .inl (some (.long bare))) := rfl
  by_cases c : rr < 8
  · rw [if_pos c]
    refine ⟨(kB t 50).2 rr, (z6 rr c).1, ?_⟩
    have ecv : cv rr = -Int32.ofNat (rr + 1) := if_pos c
    have h50 : (kB t 50).1 = 8 := z4.2.2.1
    have eS := c_isSh (N := N) (X := X) (t := t) c
    have hv8 : rr = 0 ∨ rr = 1 ∨ rr = 2 ∨ rr = 3 ∨ rr = 4 ∨ rr = 5 ∨ rr = 6 ∨ rr = 7 := by omega
    have esb : (-1 : Int32) - (-Int32.ofNat (rr + 1)) = Int32.ofNat rr := by
      rcases hv8 with rfl | rfl | rfl | rfl | rfl | rfl | rfl | rfl <;> decide
    have eng : (Int32.ofNat 0 ≤ -Int32.ofNat (rr + 1)) = False := by
      rcases hv8 with rfl | rfl | rfl | rfl | rfl | rfl | rfl | rfl <;> decide
    have E1 : cf_147 N X (cv rr) q t = cf_147_10 N X (-Int32.ofNat (rr + 1)) q bare t := by
      rw [ecv]
      have eb : cf_253 N X (-Int32.ofNat 1) (Int32.ofNat 0) t = _ := eb
      unfold cf_147 cf_147_0 cf_147_5
      simp (disch := omega) only [ev_S, ev_C, ↓reduceIte, Nat.reduceEqDiff, Nat.reduceLeDiff, Nat.reduceAdd, Nat.reduceMul, Nat.reduceSub, reduceCtorEq, l32_0, l32_1, l32_2, l32_3, l32_4, l32_5, l32_6, l32_7, l32_8, l32_9, l32_10, l32_11, l32_12, l32_13, l32_14, l32_15, l32_16, l32_17, l32_18, l32_19, l32_20, l32_21, l32_22, l32_23, l32_24, l32_25, l32_26, l32_27, l32_28, l32_29, l32_33, l32_40, l32_41, l32_44, l32_45, l32_59, l32_61, l32_91, l32_93, l32_123, l32_125, eb, eng]
    rw [E1]
    unfold cf_147_10
    rw [esb]
    unfold cf_147_20 cf_147_23 cf_147_34
    simp (disch := omega) only [ev_S, ev_C, ↓reduceIte, Nat.reduceEqDiff, Nat.reduceLeDiff, Nat.reduceAdd, Nat.reduceMul, Nat.reduceSub, reduceCtorEq, l32_0, l32_1, l32_2, l32_3, l32_4, l32_5, l32_6, l32_7, l32_8, l32_9, l32_10, l32_11, l32_12, l32_13, l32_14, l32_15, l32_16, l32_17, l32_18, l32_19, l32_20, l32_21, l32_22, l32_23, l32_24, l32_25, l32_26, l32_27, l32_28, l32_29, l32_33, l32_40, l32_41, l32_44, l32_45, l32_59, l32_61, l32_91, l32_93, l32_123, l32_125, eS, h50, c]
  · rw [if_neg c]
    have hi : rr - 8 < vs.length := by omega
    have hlen : (cStk ((m, d, vs, I) :: G)).length = (cIt I).length + (vs.length + (cStk G).length) := by
      show (cIt I ++ (vs.reverse ++ cStk G)).length = _
      rw [List.length_append, List.length_append, List.length_reverse]
    have hget := z1.1.get (i := (cIt I).length + (vs.length - 1 - (rr - 8))) (by rw [hlen]; omega)
    have hgi : (cStk ((m, d, vs, I) :: G))[(cIt I).length + (vs.length - 1 - (rr - 8))]'(by rw [hlen]; omega) = vs.getD (rr - 8) none := by
      have e : (cStk ((m, d, vs, I) :: G))[(cIt I).length + (vs.length - 1 - (rr - 8))]? = some (vs.getD (rr - 8) none) := by
        rw [show cStk ((m, d, vs, I) :: G) = cIt I ++ (vs.reverse ++ cStk G) from rfl, List.getElem?_append_right (by omega), Nat.add_sub_cancel_left, List.getElem?_append_left (by rw [List.length_reverse]; omega), List.getElem?_eq_getElem (by rw [List.length_reverse]; omega), List.getElem_reverse, List.getD_eq_getElem?_getD, List.getElem?_eq_getElem hi]
        simp only [Option.getD_some]
        congr 2
        omega
      rw [List.getElem?_eq_getElem (by rw [hlen]; omega)] at e
      exact Option.some.inj e
    rw [hgi, hlen, show (cIt I).length + (vs.length + (cStk G).length) - 1 - ((cIt I).length + (vs.length - 1 - (rr - 8))) = (cStk G).length + (rr - 8) by omega] at hget
    refine ⟨_, hget, ?_⟩
    have ecv : cv rr = Int32.ofNat (rr - 8) := if_neg c
    have z7 : kI t 49 11 = Int32.ofNat (G.length + 1) := z7
    have hb : (kA t 53).2 G.length = Int32.ofNat (cStk G).length := z2.1
    have h53 : (kA t 53).1 = 10 := z4.1
    have sb : Int32.ofNat (G.length + 1) - Int32.ofNat 1 = Int32.ofNat G.length := by rw [← Int32.ofNat_sub _ _ (by omega)]; rfl
    have n1 : ¬ G.length + 1 ≤ 0 := by omega
    have eAt : cf_149 N X (Int32.ofNat (rr - 8)) t = some (t, .inl (some (.int (Int32.ofNat ((cStk G).length + (rr - 8)))))) := by
      unfold cf_149 cf_149_0 cf_149_7 cf_149_24
      simp (disch := omega) only [ev_S, ev_C, ↓reduceIte, Nat.reduceEqDiff, Nat.reduceLeDiff, Nat.reduceAdd, Nat.reduceMul, Nat.reduceSub, reduceCtorEq, l32_0, l32_1, l32_2, l32_3, l32_4, l32_5, l32_6, l32_7, l32_8, l32_9, l32_10, l32_11, l32_12, l32_13, l32_14, l32_15, l32_16, l32_17, l32_18, l32_19, l32_20, l32_21, l32_22, l32_23, l32_24, l32_25, l32_26, l32_27, l32_28, l32_29, l32_33, l32_40, l32_41, l32_44, l32_45, l32_59, l32_61, l32_91, l32_93, l32_123, l32_125, z7, n1, sb, h53, hb]
    rw [hlen] at c4 hl
    have hst := z1.2.1
    rw [hlen] at hst
    have hq2 : ¬ (cIt I).length + (vs.length + (cStk G).length) ≤ (cStk G).length + (rr - 8) := by omega
    have hq : (cStk G).length + (rr - 8) < (kB t 52).1 := by omega
    have hq4 := z1.2.2.2
    have hq5 : (cStk G).length + (rr - 8) < 20000 := by omega
    rw [ecv]
    clear hget hgi z1 z2 z3 hlen
    generalize (cStk G).length + (rr - 8) = at' at *
    generalize (cIt I).length + (vs.length + (cStk G).length) = tp at *
    generalize rr - 8 = r8 at *
    have eb : cf_253 N X (-Int32.ofNat 1) (Int32.ofNat 0) t = _ := eb
    unfold cf_147 cf_147_0 cf_147_5 cf_147_38 cf_147_43 cf_147_54 cf_147_65
    simp (disch := omega) only [ev_S, ev_C, ↓reduceIte, Nat.reduceEqDiff, Nat.reduceLeDiff, Nat.reduceAdd, Nat.reduceMul, Nat.reduceSub, reduceCtorEq, l32_0, l32_1, l32_2, l32_3, l32_4, l32_5, l32_6, l32_7, l32_8, l32_9, l32_10, l32_11, l32_12, l32_13, l32_14, l32_15, l32_16, l32_17, l32_18, l32_19, l32_20, l32_21, l32_22, l32_23, l32_24, l32_25, l32_26, l32_27, l32_28, l32_29, l32_33, l32_40, l32_41, l32_44, l32_45, l32_59, l32_61, l32_91, l32_93, l32_123, l32_125, eb, eAt, c4, hq2]
/-- the reference -/
theorem r_get (R : RXm s0 s h code Fs fu f ((m, d, vs, I) :: G) sh T out) (hG : G.length ≤ 9) (hr : rr < 8 + vs.length) (hv : vs.length ≤ 14) : ∃ k v, mf_308 N (Int32.ofNat rr) s = some (s, some (.int k)) ∧ mf_309 N (Int32.ofNat rr) s = some (s, some (.int v)) ∧ rvo (s.2.2.1 47) f k v (gV rr vs sh) := by
  obtain ⟨r1, ⟨b1, b2, b3, b4, b5, b6, b7, b8⟩, r3⟩ := R
  unfold gV
  by_cases c : rr < 8
  · rw [if_pos c]
    refine ⟨_, _, ?_, ?_, b4 rr c⟩
    · have c' : ¬ 8 ≤ rr := by omega
      unfold mf_308 mf_308_0 mf_308_6 mf_308_34
      simp (disch := omega) only [ev_S, ev_P, ↓reduceIte, Nat.reduceEqDiff, Nat.reduceLeDiff, Nat.reduceAdd, Nat.reduceMul, Nat.reduceSub, reduceCtorEq, l32_0, l32_1, l32_2, l32_3, l32_4, l32_5, l32_6, l32_7, l32_8, l32_9, l32_10, l32_11, l32_12, l32_13, l32_14, l32_15, l32_16, l32_17, l32_18, l32_19, l32_20, l32_21, l32_22, l32_23, l32_24, l32_25, l32_26, l32_27, l32_28, l32_29, l32_33, l32_40, l32_41, l32_44, l32_45, l32_59, l32_61, l32_91, l32_93, l32_123, l32_125, c']
    · have c' : ¬ 8 ≤ rr := by omega
      unfold mf_309 mf_309_0 mf_309_6 mf_309_34
      simp (disch := omega) only [ev_S, ev_P, ↓reduceIte, Nat.reduceEqDiff, Nat.reduceLeDiff, Nat.reduceAdd, Nat.reduceMul, Nat.reduceSub, reduceCtorEq, l32_0, l32_1, l32_2, l32_3, l32_4, l32_5, l32_6, l32_7, l32_8, l32_9, l32_10, l32_11, l32_12, l32_13, l32_14, l32_15, l32_16, l32_17, l32_18, l32_19, l32_20, l32_21, l32_22, l32_23, l32_24, l32_25, l32_26, l32_27, l32_28, l32_29, l32_33, l32_40, l32_41, l32_44, l32_45, l32_59, l32_61, l32_91, l32_93, l32_123, l32_125, c']
  · rw [if_neg c]
    have b6 : s.1 73 = Int32.ofNat (G.length + 1) := b6
    have e := r_var (r := rr) b6 hG (by omega) (by omega)
    refine ⟨_, _, ?_, ?_, b2.2.2.2.1 (rr - 8) (by omega)⟩
    · have c' : 8 ≤ rr := by omega
      have E1 : mf_308 N (Int32.ofNat rr) s = mf_308_15 N (Int32.ofNat rr) s := by
        unfold mf_308 mf_308_0
        simp (disch := omega) only [ev_S, ev_P, ↓reduceIte, Nat.reduceEqDiff, Nat.reduceLeDiff, Nat.reduceAdd, Nat.reduceMul, Nat.reduceSub, reduceCtorEq, l32_0, l32_1, l32_2, l32_3, l32_4, l32_5, l32_6, l32_7, l32_8, l32_9, l32_10, l32_11, l32_12, l32_13, l32_14, l32_15, l32_16, l32_17, l32_18, l32_19, l32_20, l32_21, l32_22, l32_23, l32_24, l32_25, l32_26, l32_27, l32_28, l32_29, l32_33, l32_40, l32_41, l32_44, l32_45, l32_59, l32_61, l32_91, l32_93, l32_123, l32_125, c']
      rw [E1]
      unfold mf_308_15 mf_308_34
      rw [b6]
      have e : ((14 : Int32) * (Int32.ofNat (G.length + 1) - 1) + Int32.ofNat rr) - 8 = _ := e
      rw [e]
      have hb : 14 * G.length + (rr - 8) < 140 := by omega
      generalize 14 * G.length + (rr - 8) = qq at *
      simp (disch := omega) only [ev_S, ev_P, ↓reduceIte, Nat.reduceEqDiff, Nat.reduceLeDiff, Nat.reduceAdd, Nat.reduceMul, Nat.reduceSub, reduceCtorEq, l32_0, l32_1, l32_2, l32_3, l32_4, l32_5, l32_6, l32_7, l32_8, l32_9, l32_10, l32_11, l32_12, l32_13, l32_14, l32_15, l32_16, l32_17, l32_18, l32_19, l32_20, l32_21, l32_22, l32_23, l32_24, l32_25, l32_26, l32_27, l32_28, l32_29, l32_33, l32_40, l32_41, l32_44, l32_45, l32_59, l32_61, l32_91, l32_93, l32_123, l32_125]
    · have c' : 8 ≤ rr := by omega
      have E1 : mf_309 N (Int32.ofNat rr) s = mf_309_15 N (Int32.ofNat rr) s := by
        unfold mf_309 mf_309_0
        simp (disch := omega) only [ev_S, ev_P, ↓reduceIte, Nat.reduceEqDiff, Nat.reduceLeDiff, Nat.reduceAdd, Nat.reduceMul, Nat.reduceSub, reduceCtorEq, l32_0, l32_1, l32_2, l32_3, l32_4, l32_5, l32_6, l32_7, l32_8, l32_9, l32_10, l32_11, l32_12, l32_13, l32_14, l32_15, l32_16, l32_17, l32_18, l32_19, l32_20, l32_21, l32_22, l32_23, l32_24, l32_25, l32_26, l32_27, l32_28, l32_29, l32_33, l32_40, l32_41, l32_44, l32_45, l32_59, l32_61, l32_91, l32_93, l32_123, l32_125, c']
      rw [E1]
      unfold mf_309_15 mf_309_34
      rw [b6]
      have e : ((14 : Int32) * (Int32.ofNat (G.length + 1) - 1) + Int32.ofNat rr) - 8 = _ := e
      rw [e]
      have hb : 14 * G.length + (rr - 8) < 140 := by omega
      generalize 14 * G.length + (rr - 8) = qq at *
      simp (disch := omega) only [ev_S, ev_P, ↓reduceIte, Nat.reduceEqDiff, Nat.reduceLeDiff, Nat.reduceAdd, Nat.reduceMul, Nat.reduceSub, reduceCtorEq, l32_0, l32_1, l32_2, l32_3, l32_4, l32_5, l32_6, l32_7, l32_8, l32_9, l32_10, l32_11, l32_12, l32_13, l32_14, l32_15, l32_16, l32_17, l32_18, l32_19, l32_20, l32_21, l32_22, l32_23, l32_24, l32_25, l32_26, l32_27, l32_28, l32_29, l32_33, l32_40, l32_41, l32_44, l32_45, l32_59, l32_61, l32_91, l32_93, l32_123, l32_125]
end IN6
