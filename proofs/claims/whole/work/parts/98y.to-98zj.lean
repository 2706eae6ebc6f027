-- ### 98y.pure.lean.txt
section
/-! ===== PURE: run (102): instructions: ask, get ===== -/
/-- what a variable has -/
def gV (r : Nat) (vs : List (Option Nod)) (sh : Nat → Option Nod) : Option Nod := if r < 8 then sh r else vs.getD (r - 8) none
section IN6
variable {N : Nat} {X : Nat → Option zz_C} {t0 t t1 t2 : cS} {s0 s s' s1 s2 : mS} {u w f f' p h fu m m' d d' n k b z j rr : Nat} {code : List Ins} {Fs : List Fn} {T T' : Ty} {out out' : List Int32} {F G : List Fm} {sh sh' S0 : Nat → Option Nod} {vs vs' : List (Option Nod)} {I I' J : List It} {q r pl kk v : Int32} {it : It} {x : Nod} {l : List Nod} {c : Ins} {L L' : List Nat} {g : Fn} {a a' : Fm}
theorem i_13 (hN : 170000 ≤ N) (C : CS t0 t p code Fs fu S0 ((m, 0, vs, I) :: G) sh T out) (R : RSm s0 s h code Fs fu ((m, 0, vs, I) :: G) sh T out) (K : CK code Fs fu ((m, 0, vs, I) :: G) sh T out n) (ho : (inA code m).1 = 13) : GO N X t0 s0 p h code Fs fu S0 t s n := by
  obtain ⟨u, w, f, g, C1, C2, C4, R1, R2, R4, P, hm, hcx, hrl, hG, ⟨b1, b2, b6⟩, hT, hol⟩ := open0 C R K
  obtain ⟨ec, er⟩ := cI_13 (code := code) (own := posC code m) (e := h) ho
  obtain ⟨hl, hp⟩ := K.ly0
  obtain ⟨hjb, L', hL', hjl⟩ := P.jmp hl (by unfold noJ; omega)
  have hlen := code_len K.1.1.2.2.1 hcx
  have hzl := (K.1.1.1 g P.1).2.1
  have hnx := P.2.2.2.2.2.1 (by omega)
  have hpb := P.2.1
  rw [tgC_e (by omega)] at ec
  rw [tgR_e (by omega)] at er
  have hjl' : kd I = 0 :: 5 :: L' ∨ kd I = 0 :: 5 :: 5 :: L' := by
    rcases hjl with ⟨-, z⟩ | z | z | z | z
    · exact z
    · omega
    · omega
    · omega
    · omega
  obtain ⟨M, hM⟩ : ∃ M, kd I = 0 :: 5 :: M := by
    rcases hjl' with z | z
    · exact ⟨_, z⟩
    · exact ⟨_, z⟩
  obtain ⟨L2, z3, z4⟩ := K.nxt
  have z5 : L2 = 4 :: M := by
    generalize inA code m = c at *
    obtain ⟨o', jj, r0, aa, pp, xx, yy⟩ := c
    have z : o' = 13 := ho
    subst z
    rw [hM] at z3
    have z3 : (if nF M < 10 then some (4 :: M) else none) = some L2 := z3
    split at z3
    · exact (Option.some.inj z3).symm
    · cases z3
  obtain ⟨x, j, I1, q1, q2, q3⟩ := kdV0 hM P.2.2.2.1
  obtain ⟨y, I', r1, r2, r3⟩ := kdC q2
  subst r1
  obtain ⟨D1, D2⟩ := C1.fet (N := N) (X := X) (n := n) (l1 := []) rfl C4 hm ec hcx (by omega)
  obtain ⟨s1, kx, y1, y2, y3, y4, y5, y6, ⟨y7, y8, y9, y10⟩, y11, y12⟩ := R1.fet (N := N) (l1 := []) hG rfl R4 hm er hrl
  subst q1
  generalize (inA code m).2.2.2.2.1 = pl at *
  generalize hjj : (inA code m).2.1 = jt at *
  obtain ⟨t2, v, nr, s3, e1, e2, e3, e4, e5, e6, e7, e8, e9, e10, e11, e12, e13, e14, e15⟩ := openP (N := N) (X := X) hN D1 b2 y4 b1
  have kx1 := c_kn (N := N) (X := X) e2
  have lx := kn_le (x := x)
  have h23 : s3.2.2.1 23 kx = Int32.ofNat 14 := by rw [e12]; exact y7
  have h24 : s3.2.2.1 24 kx = Int32.ofNat (ob0 h + posR code jt) := by rw [e12]; exact y8
  have h70 : s3.1 70 = pl := e11.trans y6
  have E0 : mf_314 N (Int32.ofNat kx) s3 = mf_314_19 N (Int32.ofNat kx) (Int32.ofNat 14) s3 := by
    unfold mf_314 mf_314_0
    simp (disch := omega) only [ev_S, ev_P, ↓reduceIte, Nat.reduceEqDiff, Nat.reduceLeDiff, Nat.reduceAdd, Nat.reduceMul, Nat.reduceSub, reduceCtorEq, l32_0, l32_1, l32_2, l32_3, l32_4, l32_5, l32_6, l32_7, l32_8, l32_9, l32_10, l32_11, l32_12, l32_13, l32_14, l32_15, l32_16, l32_17, l32_18, l32_19, l32_20, l32_21, l32_22, l32_23, l32_24, l32_25, l32_26, l32_27, l32_28, l32_29, l32_33, l32_40, l32_41, l32_44, l32_45, l32_59, l32_61, l32_91, l32_93, l32_123, l32_125, h23, l32_8000]
  by_cases c0 : kn x = 0
  · have ev := e2.z c0
    have lo := c_lowOf (N := N) (X := X) (t := t2) (k := 0) (a := ivN x)
    rw [← ev] at lo
    rw [c0] at kx1
    obtain ⟨i1, i2⟩ := e13.iv c0
    by_cases cz : ivN x = 0
    · -- it jumps
      obtain ⟨A, I2, w1, w2, w3⟩ : ∃ A I2, I' = A ++ I2 ∧ kd I2 = L' ∧ (A = [] ∨ ∃ b, A = [b] ∧ b.1 = 5) := by
        have h2 : kd I' = M := r3
        rcases hjl' with z' | z'
        · rw [hM] at z'
          have e : M = L' := by simpa using z'
          exact ⟨[], I', rfl, by rw [h2, e], Or.inl rfl⟩
        · rw [hM] at z'
          have e : M = 5 :: L' := by simpa using z'
          rw [e] at h2
          obtain ⟨b, I2, v1, v2, v3⟩ := kdC h2
          exact ⟨[b], I2, v1, v3, Or.inr ⟨b, rfl, v2⟩⟩
      have hok2 : okIs code g.2.2.2.2.1 g.2.2.2.2.2 I2 := by
        have := q3.2
        rw [w1] at this
        rcases w3 with z' | ⟨b, z', -⟩
        · rw [z'] at this; exact this
        · rw [z'] at this; exact this.2
      have hp2 : plI I2 := fun q hq => hp.tl.tl q (by rw [w1]; exact List.mem_append_right _ hq)
      have hgd := gd_suf (m' := jt) (d' := 0) (J := ((0, [x], j) : It) :: y :: A) (I := I2) (by have := K.2.2.2.1; rw [w1] at this; exact this)
      have CY : CX t0 (jI t2 49 17 (Int32.ofNat (posC code jt))) p code Fs fu S0 u w ((jt, 0, vs, I2) :: G) sh T out := by
        have h1 := (e3.no (m' := m) (d' := 0) (Or.inr r2)).pc (z := Int32.ofNat (posC code jt)) (Or.inl rfl)
        rw [w1] at h1
        rcases w3 with z' | ⟨b, z', zb⟩
        · rw [z'] at h1; exact h1
        · rw [z'] at h1; exact h1.no (Or.inr zb)
      have RY : RXm s0 (mI s3 69 (Int32.ofNat (ob0 h + posR code jt))) h code Fs fu f ((jt, 0, vs, I2) :: G) sh T out := by
        have h1 := (e8.no (m' := m) (d' := 0) (Or.inr r2)).pc (z := Int32.ofNat (ob0 h + posR code jt))
        rw [w1] at h1
        rcases w3 with z' | ⟨b, z', zb⟩
        · rw [z'] at h1; exact h1
        · rw [z'] at h1; exact h1.no (Or.inr zb)
      refine goOn (k := 1) (j := 1) (by omega) (fun Q => ?_) (fun Q x2 => y11 _ ?_ RY.1.2.2.1.1 Q x2) CY C2 rfl RY R2 rfl (K.to P hjb (by rw [w2]; exact hL') hp2 hok2 rfl hgd K.2.2.2.2.1 hT ?_ ?_)
      · rw [D2 Q]
        clear D1 D2
        generalize jI t 49 17 (Int32.ofNat (posC code m + 0 + 1)) = t1 at *
        refine c_rdM (by decide) (by decide) (c_mv5.trans ?_)
        rw [cz] at lo
        have lo : cf_256 N X v t2 = some (t2, .inl (some (.int (Int32.ofNat 0)))) := lo
        unfold cf_142_176 cf_142_182 cf_142_296 cf_150 cf_150_0 cf_150_4 cf_150_9 cf_150_22 cf_150_26 cf_150_29 cf_150_34
        simp (disch := omega) only [ev_S, ev_C, ↓reduceIte, Nat.reduceEqDiff, Nat.reduceLeDiff, Nat.reduceAdd, Nat.reduceMul, Nat.reduceSub, reduceCtorEq, l32_0, l32_1, l32_2, l32_3, l32_4, l32_5, l32_6, l32_7, l32_8, l32_9, l32_10, l32_11, l32_12, l32_13, l32_14, l32_15, l32_16, l32_17, l32_18, l32_19, l32_20, l32_21, l32_22, l32_23, l32_24, l32_25, l32_26, l32_27, l32_28, l32_29, l32_33, l32_40, l32_41, l32_44, l32_45, l32_59, l32_61, l32_91, l32_93, l32_123, l32_125, e1, kx1, lo]
      · rw [r_op14 y3 y7]
        refine e15 _ _ y3 ?_
        rw [E0]
        rw [cz] at i2
        have i2 : s3.2.2.1 50 nr = Int32.ofNat 0 := i2
        generalize ob0 h + posR code jt = tj at *
        unfold mf_314_19 mf_314_43 mf_314_49 mf_314_61 mf_314_337
        simp (disch := omega) only [ev_S, ev_P, ↓reduceIte, Nat.reduceEqDiff, Nat.reduceLeDiff, Nat.reduceAdd, Nat.reduceMul, Nat.reduceSub, reduceCtorEq, l32_0, l32_1, l32_2, l32_3, l32_4, l32_5, l32_6, l32_7, l32_8, l32_9, l32_10, l32_11, l32_12, l32_13, l32_14, l32_15, l32_16, l32_17, l32_18, l32_19, l32_20, l32_21, l32_22, l32_23, l32_24, l32_25, l32_26, l32_27, l32_28, l32_29, l32_33, l32_40, l32_41, l32_44, l32_45, l32_59, l32_61, l32_91, l32_93, l32_123, l32_125, e9, i1, i2, h24, l32_8000]
      · have f1 : crL I' = crL A + crL I2 := by rw [w1, crL_app]
        have f2 : pvI ((0, [x], j) :: y :: I') = 1 + pvI (y :: I') := rfl
        rw [crL_c, crL_c, cr5 r2, f2, pv5 (by omega), f1]
        show 1 + crL I2 + 20 * T.1 + 60 * T.2.1 + (1 + 0) ≤ 0 + (8 + (crL A + crL I2)) + 20 * T.1 + 60 * T.2.1 + pvI I2
        omega
      · have f1 : n5I I' = n5I A + n5I I2 := by rw [w1, n5I_app]
        rw [n5I_c, n5I_c, f1]
        omega
    · -- it goes on
      have CY := (e3.no (m' := m) (d' := 0) (Or.inr r2)).yes (m' := m + 1) (d' := 0) (it := (4, [], 0)) (Or.inl rfl)
      have RY := (e8.no (m' := m) (d' := 0) (Or.inr r2)).yes (m' := m + 1) (d' := 0) (it := (4, [], 0)) (Or.inl rfl)
      have hgd := gd_suf (m' := m + 1) (d' := 0) (J := [((0, [x], j) : It), y]) (I := I') K.2.2.2.1
      have cz' : ¬ ivN x = Int32.ofNat 0 := cz
      refine goOn (k := 1) (j := 1) (by omega) (fun Q => ?_) (fun Q x2 => y11 _ ?_ RY.1.2.2.1.1 Q x2) CY C2 ?_ RY R2 ?_ (K.to P (by omega) (I' := (4, [], 0) :: I') (by rw [z4, z5, ← r3]; rfl) ?_ ⟨ok4, q3.2⟩ rfl ?_ K.2.2.2.2.1 hT ?_ ?_)
      · rw [D2 Q]
        clear D1 D2
        generalize jI t 49 17 (Int32.ofNat (posC code m + 0 + 1)) = t1 at *
        refine c_rdM (by decide) (by decide) (c_mv5.trans ?_)
        generalize ivN x = iv at *
        unfold cf_142_176 cf_142_182 cf_142_296 cf_150 cf_150_0 cf_150_4 cf_150_9 cf_150_22 cf_150_26 cf_150_34
        simp (disch := omega) only [ev_S, ev_C, ↓reduceIte, Nat.reduceEqDiff, Nat.reduceLeDiff, Nat.reduceAdd, Nat.reduceMul, Nat.reduceSub, reduceCtorEq, l32_0, l32_1, l32_2, l32_3, l32_4, l32_5, l32_6, l32_7, l32_8, l32_9, l32_10, l32_11, l32_12, l32_13, l32_14, l32_15, l32_16, l32_17, l32_18, l32_19, l32_20, l32_21, l32_22, l32_23, l32_24, l32_25, l32_26, l32_27, l32_28, l32_29, l32_33, l32_40, l32_41, l32_44, l32_45, l32_59, l32_61, l32_91, l32_93, l32_123, l32_125, e1, kx1, lo, cz']
      · rw [r_op14 y3 y7]
        refine e15 _ _ y3 ?_
        rw [E0]
        generalize ivN x = iv at *
        unfold mf_314_19 mf_314_43 mf_314_49 mf_314_337
        simp (disch := omega) only [ev_S, ev_P, ↓reduceIte, Nat.reduceEqDiff, Nat.reduceLeDiff, Nat.reduceAdd, Nat.reduceMul, Nat.reduceSub, reduceCtorEq, l32_0, l32_1, l32_2, l32_3, l32_4, l32_5, l32_6, l32_7, l32_8, l32_9, l32_10, l32_11, l32_12, l32_13, l32_14, l32_15, l32_16, l32_17, l32_18, l32_19, l32_20, l32_21, l32_22, l32_23, l32_24, l32_25, l32_26, l32_27, l32_28, l32_29, l32_33, l32_40, l32_41, l32_44, l32_45, l32_59, l32_61, l32_91, l32_93, l32_123, l32_125, e9, i1, i2, cz']
      · rw [e4]
        show Int32.ofNat (posC code m + 0 + 1) = Int32.ofNat (posC code (m + 1) + 0)
        rw [posC_s hm, show clen (inA code m) = 1 by unfold clen; rw [ho]; rfl]
      · rw [e10, y5, y1]
        show Int32.ofNat (ob0 h + posR code m + 0 + 1) = Int32.ofNat (ob0 h + posR code (m + 1) + 0)
        rw [posR_s hm, show rlen (inA code m) = 1 by unfold rlen; rw [ho]; rfl]
        rfl
      · intro q hq
        rcases List.mem_cons.mp hq with e | e
        · rw [e]; show (4 : Nat) ≤ 5; omega
        · exact hp.tl.tl q e
      · rw [cStk_cons (m' := m + 1) (d' := 0), (iC_no (it := (4, [], 0)) (Or.inl rfl)).1]
        exact hgd
      · have f2 : pvI ((0, [x], j) :: y :: I') = 1 + pvI (y :: I') := rfl
        have f3 : crI (4, [], 0) = 2 := rfl
        rw [crL_c, crL_c, crL_c, cr5 r2, f2, f3, pv5 (by omega)]
        show 1 + (2 + crL I') + 20 * T.1 + 60 * T.2.1 + (1 + 0) ≤ 0 + (8 + crL I') + 20 * T.1 + 60 * T.2.1 + _
        omega
      · rw [n5I_c, n5I_c, n5I_c, if_pos r2]
        show out.length + 9100 * (0 + n5I I') + 9100 * T.1 ≤ out.length + 9100 * (0 + (1 + n5I I')) + 9100 * T.1
        omega
  · obtain ⟨i1, -⟩ := e13.th c0
    obtain ⟨x1, x2, x3⟩ := e8.trb (N := N) (k := 3) (q := pl)
    refine trob1 (kq := 3) (ra := Int32.ofNat 0) (by omega) (by omega) K e3 C2 x2 x3 R2 rfl (fun t3 ht Q => ?_) (y12 _ 3 ?_ rfl (by omega)) b6 hT
    · rw [D2 Q]
      clear D1 D2
      generalize jI t 49 17 (Int32.ofNat (posC code m + 0 + 1)) = t1 at *
      refine c_rdM (by decide) (by decide) (c_mv5.trans ?_)
      generalize kn x = kn' at *
      unfold cf_142_176 cf_142_182 cf_142_296 cf_150 cf_150_0 cf_150_4 cf_150_9 cf_150_12 cf_150_19 cf_150_34
      simp (disch := omega) only [ev_S, ev_C, ↓reduceIte, Nat.reduceEqDiff, Nat.reduceLeDiff, Nat.reduceAdd, Nat.reduceMul, Nat.reduceSub, reduceCtorEq, l32_0, l32_1, l32_2, l32_3, l32_4, l32_5, l32_6, l32_7, l32_8, l32_9, l32_10, l32_11, l32_12, l32_13, l32_14, l32_15, l32_16, l32_17, l32_18, l32_19, l32_20, l32_21, l32_22, l32_23, l32_24, l32_25, l32_26, l32_27, l32_28, l32_29, l32_33, l32_40, l32_41, l32_44, l32_45, l32_59, l32_61, l32_91, l32_93, l32_123, l32_125, e1, kx1, c0, ht]
    · rw [r_op14 y3 y7]
      refine e15 _ _ y3 ?_
      rw [E0]
      unfold mf_314_19 mf_314_31 mf_314_40 mf_314_337
      simp (disch := omega) only [ev_S, ev_P, ↓reduceIte, Nat.reduceEqDiff, Nat.reduceLeDiff, Nat.reduceAdd, Nat.reduceMul, Nat.reduceSub, reduceCtorEq, l32_0, l32_1, l32_2, l32_3, l32_4, l32_5, l32_6, l32_7, l32_8, l32_9, l32_10, l32_11, l32_12, l32_13, l32_14, l32_15, l32_16, l32_17, l32_18, l32_19, l32_20, l32_21, l32_22, l32_23, l32_24, l32_25, l32_26, l32_27, l32_28, l32_29, l32_33, l32_40, l32_41, l32_44, l32_45, l32_59, l32_61, l32_91, l32_93, l32_123, l32_125, e9, i1, h70, x1]
/-- a variable's value, the class -/
theorem CX.var (C : CX t0 t p code Fs fu S0 u w ((m, d, vs, I) :: G) sh T out) (hl : (cStk ((m, d, vs, I) :: G)).length ≤ 20000) (hG : G.length ≤ 9) (hr : rr < 8 + vs.length) (hv : vs.length ≤ 14) : ∃ v, cC (cel t) u v (gV rr vs sh) ∧ cf_147 N X (cv rr) q t = cf_147_66 N X q v t := by
  obtain ⟨c1, ⟨z1, z2, z3, z4, z5, z6, z7, z8⟩, c3, c4⟩ := C
  unfold gV
  have eb : cf_253 N X (-1) 0 t = some (t, .inl (some (.long bare))) := rfl
  by_cases c : rr < 8
  · rw [if_pos c]
    refine ⟨(kB t 50).2 rr, (z6 rr c).1, ?_⟩
    have ecv : cv rr = -Int32.ofNat (rr + 1) := if_pos c
    have h50 : (kB t 50).1 = 8 := z4.2.2.1
    have eS := c_isSh (N := N) (X := X) (t := t) c
    have hv8 : rr = 0 ∨ rr = 1 ∨ rr = 2 ∨ rr = 3 ∨ rr = 4 ∨ rr = 5 ∨ rr = 6 ∨ rr = 7 := by omega
    have esb : (-1 : Int32) - (-Int32.ofNat (rr + 1)) = Int32.ofNat rr := by
      rcases hv8 with rfl | rfl | rfl | rfl | rfl | rfl | rfl | rfl <;> decide
    have eng : (Int32.ofNat 0 ≤ -Int32.ofNat (rr + 1)) = False := by
      rcases hv8 with rfl | rfl | rfl | rfl | rfl | rfl | rfl | rfl <;> decide
    have E1 : cf_147 N X (cv rr) q t = cf_147_10 N X (-Int32.ofNat (rr + 1)) q bare t := by
      rw [ecv]
      have eb : cf_253 N X (-Int32.ofNat 1) (Int32.ofNat 0) t = _ := eb
      unfold cf_147 cf_147_0 cf_147_5
      simp (disch := omega) only [ev_S, ev_C, ↓reduceIte, Nat.reduceEqDiff, Nat.reduceLeDiff, Nat.reduceAdd, Nat.reduceMul, Nat.reduceSub, reduceCtorEq, l32_0, l32_1, l32_2, l32_3, l32_4, l32_5, l32_6, l32_7, l32_8, l32_9, l32_10, l32_11, l32_12, l32_13, l32_14, l32_15, l32_16, l32_17, l32_18, l32_19, l32_20, l32_21, l32_22, l32_23, l32_24, l32_25, l32_26, l32_27, l32_28, l32_29, l32_33, l32_40, l32_41, l32_44, l32_45, l32_59, l32_61, l32_91, l32_93, l32_123, l32_125, eb, eng]
    rw [E1]
    unfold cf_147_10
    rw [esb]
    unfold cf_147_20 cf_147_23 cf_147_34
    simp (disch := omega) only [ev_S, ev_C, ↓reduceIte, Nat.reduceEqDiff, Nat.reduceLeDiff, Nat.reduceAdd, Nat.reduceMul, Nat.reduceSub, reduceCtorEq, l32_0, l32_1, l32_2, l32_3, l32_4, l32_5, l32_6, l32_7, l32_8, l32_9, l32_10, l32_11, l32_12, l32_13, l32_14, l32_15, l32_16, l32_17, l32_18, l32_19, l32_20, l32_21, l32_22, l32_23, l32_24, l32_25, l32_26, l32_27, l32_28, l32_29, l32_33, l32_40, l32_41, l32_44, l32_45, l32_59, l32_61, l32_91, l32_93, l32_123, l32_125, eS, h50, c]
  · rw [if_neg c]
    have hi : rr - 8 < vs.length := by omega
    have hlen : (cStk ((m, d, vs, I) :: G)).length = (cIt I).length + (vs.length + (cStk G).length) := by
      show (cIt I ++ (vs.reverse ++ cStk G)).length = _
      rw [List.length_append, List.length_append, List.length_reverse]
    have hget := z1.1.get (i := (cIt I).length + (vs.length - 1 - (rr - 8))) (by rw [hlen]; omega)
    have hgi : (cStk ((m, d, vs, I) :: G))[(cIt I).length + (vs.length - 1 - (rr - 8))]'(by rw [hlen]; omega) = vs.getD (rr - 8) none := by
      have e : (cStk ((m, d, vs, I) :: G))[(cIt I).length + (vs.length - 1 - (rr - 8))]? = some (vs.getD (rr - 8) none) := by
        rw [show cStk ((m, d, vs, I) :: G) = cIt I ++ (vs.reverse ++ cStk G) from rfl, List.getElem?_append_right (by omega), Nat.add_sub_cancel_left, List.getElem?_append_left (by rw [List.length_reverse]; omega), List.getElem?_eq_getElem (by rw [List.length_reverse]; omega), List.getElem_reverse, List.getD_eq_getElem?_getD, List.getElem?_eq_getElem hi]
        simp only [Option.getD_some]
        congr 2
        omega
      rw [List.getElem?_eq_getElem (by rw [hlen]; omega)] at e
      exact Option.some.inj e
    rw [hgi, hlen, show (cIt I).length + (vs.length + (cStk G).length) - 1 - ((cIt I).length + (vs.length - 1 - (rr - 8))) = (cStk G).length + (rr - 8) by omega] at hget
    refine ⟨_, hget, ?_⟩
    have ecv : cv rr = Int32.ofNat (rr - 8) := if_neg c
    have z7 : kI t 49 11 = Int32.ofNat (G.length + 1) := z7
    have hb : (kA t 53).2 G.length = Int32.ofNat (cStk G).length := z2.1
    have h53 : (kA t 53).1 = 10 := z4.1
    have sb : Int32.ofNat (G.length + 1) - Int32.ofNat 1 = Int32.ofNat G.length := by rw [← Int32.ofNat_sub _ _ (by omega)]; rfl
    have n1 : ¬ G.length + 1 ≤ 0 := by omega
    have eAt : cf_149 N X (Int32.ofNat (rr - 8)) t = some (t, .inl (some (.int (Int32.ofNat ((cStk G).length + (rr - 8)))))) := by
      unfold cf_149 cf_149_0 cf_149_7 cf_149_24
      simp (disch := omega) only [ev_S, ev_C, ↓reduceIte, Nat.reduceEqDiff, Nat.reduceLeDiff, Nat.reduceAdd, Nat.reduceMul, Nat.reduceSub, reduceCtorEq, l32_0, l32_1, l32_2, l32_3, l32_4, l32_5, l32_6, l32_7, l32_8, l32_9, l32_10, l32_11, l32_12, l32_13, l32_14, l32_15, l32_16, l32_17, l32_18, l32_19, l32_20, l32_21, l32_22, l32_23, l32_24, l32_25, l32_26, l32_27, l32_28, l32_29, l32_33, l32_40, l32_41, l32_44, l32_45, l32_59, l32_61, l32_91, l32_93, l32_123, l32_125, z7, n1, sb, h53, hb]
    rw [hlen] at c4 hl
    have hst := z1.2.1
    rw [hlen] at hst
    have hq2 : ¬ (cIt I).length + (vs.length + (cStk G).length) ≤ (cStk G).length + (rr - 8) := by omega
    have hq : (cStk G).length + (rr - 8) < (kB t 52).1 := by omega
    have hq4 := z1.2.2.2
    have hq5 : (cStk G).length + (rr - 8) < 20000 := by omega
    rw [ecv]
    clear hget hgi z1 z2 z3 hlen
    generalize (cStk G).length + (rr - 8) = at' at *
    generalize (cIt I).length + (vs.length + (cStk G).length) = tp at *
    generalize rr - 8 = r8 at *
    have eb : cf_253 N X (-Int32.ofNat 1) (Int32.ofNat 0) t = _ := eb
    unfold cf_147 cf_147_0 cf_147_5 cf_147_38 cf_147_43 cf_147_54 cf_147_65
    simp (disch := omega) only [ev_S, ev_C, ↓reduceIte, Nat.reduceEqDiff, Nat.reduceLeDiff, Nat.reduceAdd, Nat.reduceMul, Nat.reduceSub, reduceCtorEq, l32_0, l32_1, l32_2, l32_3, l32_4, l32_5, l32_6, l32_7, l32_8, l32_9, l32_10, l32_11, l32_12, l32_13, l32_14, l32_15, l32_16, l32_17, l32_18, l32_19, l32_20, l32_21, l32_22, l32_23, l32_24, l32_25, l32_26, l32_27, l32_28, l32_29, l32_33, l32_40, l32_41, l32_44, l32_45, l32_59, l32_61, l32_91, l32_93, l32_123, l32_125, eb, eAt, c4, hq2]
/-- the reference -/
theorem r_get (R : RXm s0 s h code Fs fu f ((m, d, vs, I) :: G) sh T out) (hG : G.length ≤ 9) (hr : rr < 8 + vs.length) (hv : vs.length ≤ 14) : ∃ k v, mf_308 N (Int32.ofNat rr) s = some (s, some (.int k)) ∧ mf_309 N (Int32.ofNat rr) s = some (s, some (.int v)) ∧ rvo (s.2.2.1 47) f k v (gV rr vs sh) := by
  obtain ⟨r1, ⟨b1, b2, b3, b4, b5, b6, b7, b8⟩, r3⟩ := R
  unfold gV
  by_cases c : rr < 8
  · rw [if_pos c]
    refine ⟨_, _, ?_, ?_, b4 rr c⟩
    · have c' : ¬ 8 ≤ rr := by omega
      unfold mf_308 mf_308_0 mf_308_6 mf_308_34
      simp (disch := omega) only [ev_S, ev_P, ↓reduceIte, Nat.reduceEqDiff, Nat.reduceLeDiff, Nat.reduceAdd, Nat.reduceMul, Nat.reduceSub, reduceCtorEq, l32_0, l32_1, l32_2, l32_3, l32_4, l32_5, l32_6, l32_7, l32_8, l32_9, l32_10, l32_11, l32_12, l32_13, l32_14, l32_15, l32_16, l32_17, l32_18, l32_19, l32_20, l32_21, l32_22, l32_23, l32_24, l32_25, l32_26, l32_27, l32_28, l32_29, l32_33, l32_40, l32_41, l32_44, l32_45, l32_59, l32_61, l32_91, l32_93, l32_123, l32_125, c']
    · have c' : ¬ 8 ≤ rr := by omega
      unfold mf_309 mf_309_0 mf_309_6 mf_309_34
      simp (disch := omega) only [ev_S, ev_P, ↓reduceIte, Nat.reduceEqDiff, Nat.reduceLeDiff, Nat.reduceAdd, Nat.reduceMul, Nat.reduceSub, reduceCtorEq, l32_0, l32_1, l32_2, l32_3, l32_4, l32_5, l32_6, l32_7, l32_8, l32_9, l32_10, l32_11, l32_12, l32_13, l32_14, l32_15, l32_16, l32_17, l32_18, l32_19, l32_20, l32_21, l32_22, l32_23, l32_24, l32_25, l32_26, l32_27, l32_28, l32_29, l32_33, l32_40, l32_41, l32_44, l32_45, l32_59, l32_61, l32_91, l32_93, l32_123, l32_125, c']
  · rw [if_neg c]
    have b6 : s.1 73 = Int32.ofNat (G.length + 1) := b6
    have e := r_var (r := rr) b6 hG (by omega) (by omega)
    refine ⟨_, _, ?_, ?_, b2.2.2.2.1 (rr - 8) (by omega)⟩
    · have c' : 8 ≤ rr := by omega
      have E1 : mf_308 N (Int32.ofNat rr) s = mf_308_15 N (Int32.ofNat rr) s := by
        unfold mf_308 mf_308_0
        simp (disch := omega) only [ev_S, ev_P, ↓reduceIte, Nat.reduceEqDiff, Nat.reduceLeDiff, Nat.reduceAdd, Nat.reduceMul, Nat.reduceSub, reduceCtorEq, l32_0, l32_1, l32_2, l32_3, l32_4, l32_5, l32_6, l32_7, l32_8, l32_9, l32_10, l32_11, l32_12, l32_13, l32_14, l32_15, l32_16, l32_17, l32_18, l32_19, l32_20, l32_21, l32_22, l32_23, l32_24, l32_25, l32_26, l32_27, l32_28, l32_29, l32_33, l32_40, l32_41, l32_44, l32_45, l32_59, l32_61, l32_91, l32_93, l32_123, l32_125, c']
      rw [E1]
      unfold mf_308_15 mf_308_34
      rw [b6]
      have e : ((14 : Int32) * (Int32.ofNat (G.length + 1) - 1) + Int32.ofNat rr) - 8 = _ := e
      rw [e]
      have hb : 14 * G.length + (rr - 8) < 140 := by omega
      generalize 14 * G.length + (rr - 8) = qq at *
      simp (disch := omega) only [ev_S, ev_P, ↓reduceIte, Nat.reduceEqDiff, Nat.reduceLeDiff, Nat.reduceAdd, Nat.reduceMul, Nat.reduceSub, reduceCtorEq, l32_0, l32_1, l32_2, l32_3, l32_4, l32_5, l32_6, l32_7, l32_8, l32_9, l32_10, l32_11, l32_12, l32_13, l32_14, l32_15, l32_16, l32_17, l32_18, l32_19, l32_20, l32_21, l32_22, l32_23, l32_24, l32_25, l32_26, l32_27, l32_28, l32_29, l32_33, l32_40, l32_41, l32_44, l32_45, l32_59, l32_61, l32_91, l32_93, l32_123, l32_125]
    · have c' : 8 ≤ rr := by omega
      have E1 : mf_309 N (Int32.ofNat rr) s = mf_309_15 N (Int32.ofNat rr) s := by
        unfold mf_309 mf_309_0
        simp (disch := omega) only [ev_S, ev_P, ↓reduceIte, Nat.reduceEqDiff, Nat.reduceLeDiff, Nat.reduceAdd, Nat.reduceMul, Nat.reduceSub, reduceCtorEq, l32_0, l32_1, l32_2, l32_3, l32_4, l32_5, l32_6, l32_7, l32_8, l32_9, l32_10, l32_11, l32_12, l32_13, l32_14, l32_15, l32_16, l32_17, l32_18, l32_19, l32_20, l32_21, l32_22, l32_23, l32_24, l32_25, l32_26, l32_27, l32_28, l32_29, l32_33, l32_40, l32_41, l32_44, l32_45, l32_59, l32_61, l32_91, l32_93, l32_123, l32_125, c']
      rw [E1]
      unfold mf_309_15 mf_309_34
      rw [b6]
      have e : ((14 : Int32) * (Int32.ofNat (G.length + 1) - 1) + Int32.ofNat rr) - 8 = _ := e
      rw [e]
      have hb : 14 * G.length + (rr - 8) < 140 := by omega
      generalize 14 * G.length + (rr - 8) = qq at *
      simp (disch := omega) only [ev_S, ev_P, ↓reduceIte, Nat.reduceEqDiff, Nat.reduceLeDiff, Nat.reduceAdd, Nat.reduceMul, Nat.reduceSub, reduceCtorEq, l32_0, l32_1, l32_2, l32_3, l32_4, l32_5, l32_6, l32_7, l32_8, l32_9, l32_10, l32_11, l32_12, l32_13, l32_14, l32_15, l32_16, l32_17, l32_18, l32_19, l32_20, l32_21, l32_22, l32_23, l32_24, l32_25, l32_26, l32_27, l32_28, l32_29, l32_33, l32_40, l32_41, l32_44, l32_45, l32_59, l32_61, l32_91, l32_93, l32_123, l32_125]
end IN6
end
-- ### 98z.pure.lean.txt
section
/-! ===== PURE: run (103): instructions: get; what is said; a for begins ===== -/
section IN7
variable {N : Nat} {X : Nat → Option zz_C} {t0 t t1 t2 : cS} {s0 s s' s1 s2 : mS} {u w f f' p h fu m m' d d' n k b z j rr : Nat} {code : List Ins} {Fs : List Fn} {T T' : Ty} {out out' : List Int32} {F G : List Fm} {sh sh' S0 : Nat → Option Nod} {vs vs' : List (Option Nod)} {I I' J : List It} {q r pl kk v : Int32} {it : It} {x : Nod} {l : List Nod} {c : Ins} {L L' : List Nat} {g : Fn} {a a' : Fm}
theorem gV_gd (K : CK code Fs fu ((m, d, vs, I) :: G) sh T out n) (e : gV rr vs sh = some x) : wfN x ∧ x.1 ≤ 4 := by
  unfold gV at e
  by_cases c : rr < 8
  · rw [if_pos c] at e
    exact K.2.2.2.2.1 rr c x e
  · rw [if_neg c] at e
    refine K.2.2.2.1 x ?_
    show some x ∈ cIt I ++ (vs.reverse ++ cStk G)
    refine List.mem_append_right _ (List.mem_append_left _ (List.mem_reverse.mpr ?_))
    rw [List.getD_eq_getElem?_getD] at e
    cases e2 : vs[rr - 8]? with
    | none => rw [e2] at e; cases e
    | some o =>
      rw [e2] at e
      have e : o = some x := e
      rw [← e]
      exact List.mem_of_getElem? e2
/-- a trouble before anything was done -/
theorem trob0 {kq k0 : Nat} {ra : Int32} (hN : 500 ≤ N) (hq : 1 ≤ kq ∧ kq < 12) (h0 : 1 ≤ k0 ∧ k0 ≤ 5) (K : CK code Fs fu ((m, d, vs, I) :: G) sh T out n) (hT' : okTy fu T') (hTT : T.1 ≤ T'.1 ∧ T.2.1 ≤ T'.2.1) (C : CX t0 t2 p code Fs fu S0 u w ((m, d', vs, I) :: G) sh T' out) (C2 : u ≤ 100000 + 20 * T'.2.1 + 2100) (B : RBk s0 s2 h code Fs fu T' out (Int32.ofNat kq) pl) (M : RM0 s2 f h code ((m, d', vs, I) :: G) sh) (R2 : 154242 ≤ f ∧ f ≤ 154250 + T'.2.1 + 300) (hr : ra = if kq = 9 then s2.1 65 else 0) (hc : ∀ t3, cf_156 N X (Int32.ofNat kq) pl ra t2 = some (t3, .inl none) → ∀ Q, cf_141_L4 N X (Q + k0) 0 (Int32.ofNat n) t = cf_141_L4 N X Q 0 (Int32.ofNat (n + k0)) t3) (hs : ∀ Q x2, mf_68_L10 N (Q + (0 + 1)) 0 x2 s = mo_bi (mf_312 N s2) (fun s3 y => mf_68_L10 N Q 0 x2 s3)) (hn : n ≤ 597000) : GO N X t0 s0 p h code Fs fu S0 t s n := trob hN hq h0 (j0 := 0) (by omega) C.cy C2 B M R2 (by intro q; cases q) hr (K.kt (J := []) (I' := I) rfl hT' hTT (by omega)) hc hs (by omega)
theorem i_1 (hN : 170000 ≤ N) (C : CS t0 t p code Fs fu S0 ((m, 0, vs, I) :: G) sh T out) (R : RSm s0 s h code Fs fu ((m, 0, vs, I) :: G) sh T out) (K : CK code Fs fu ((m, 0, vs, I) :: G) sh T out n) (ho : (inA code m).1 = 1) : GO N X t0 s0 p h code Fs fu S0 t s n := by
  obtain ⟨u, w, f, g, C1, C2, C4, R1, R2, R4, P, hm, hcx, hrl, hG, ⟨b1, b2, b6⟩, hT, hol⟩ := open0 C R K
  obtain ⟨ec, er⟩ := cI_1 (code := code) (own := posC code m) (e := h) ho
  have hrr : (inA code m).2.2.1 < 8 + vs.length := P.2.2.2.2.1.1 (by omega)
  have hv14 := P.2.2.1.2
  have ef : eff (inA code m) (kd I) = some (0 :: kd I) := by
    generalize inA code m = c at *
    obtain ⟨o, jj, rr, aa, pp, xx, yy⟩ := c
    have ho : o = 1 := ho
    subst ho
    rfl
  obtain ⟨D1, D2⟩ := C1.fet (N := N) (X := X) (n := n) (l1 := []) rfl C4 hm ec hcx (by omega)
  obtain ⟨s1, kx, y1, y2, y3, y4, y5, y6, ⟨y7, y8, y9, y10⟩, y11, y12⟩ := R1.fet (N := N) (l1 := []) hG rfl R4 hm er hrl
  generalize (inA code m).2.2.2.2.1 = pl at *
  generalize hr0 : (inA code m).2.2.1 = rr at *
  obtain ⟨v, d1, d2⟩ := D1.var (N := N) (X := X) (q := pl) (by omega) hG hrr hv14
  obtain ⟨k0, v0, g1, g2, g3⟩ := r_get (N := N) y4 hG hrr hv14
  cases hgv : gV rr vs sh with
  | none =>
    rw [hgv] at d1 g3
    have d1 : v = bare := d1
    have g3 : k0 = Int32.ofNat 2 := g3
    obtain ⟨x1, x2, x3⟩ := y4.trb (N := N) (k := 7) (q := pl)
    refine trob0 (kq := 7) (k0 := 1) (ra := Int32.ofNat 0) (by omega) (by omega) (by omega) K hT ⟨Nat.le_refl _, Nat.le_refl _⟩ D1 (Nat.le_trans C2 (Nat.le_add_right _ _)) x2 x3 ⟨R2.1, Nat.le_trans R2.2 (Nat.le_add_right _ _)⟩ rfl (fun t3 ht Q => ?_) (y12 _ 7 ?_ rfl (by omega)) b6
    · rw [D2 Q]
      clear D1 D2
      generalize jI t 49 17 (Int32.ofNat (posC code m + 0 + 1)) = t1 at *
      refine c_rdM (by decide) (by decide) (c_mv1.trans ?_)
      have ek : cf_255 N X v t1 = some (t1, .inl (some (.int (-Int32.ofNat 1)))) := by rw [d1]; exact c_kindOf
      have e66 : cf_147_66 N X pl v t1 = some (t3, .inl none) := by
        unfold cf_147_66 cf_147_70 cf_147_74 cf_147_82 cf_147_90
        simp (disch := omega) only [ev_S, ev_C, ↓reduceIte, Nat.reduceEqDiff, Nat.reduceLeDiff, Nat.reduceAdd, Nat.reduceMul, Nat.reduceSub, reduceCtorEq, l32_0, l32_1, l32_2, l32_3, l32_4, l32_5, l32_6, l32_7, l32_8, l32_9, l32_10, l32_11, l32_12, l32_13, l32_14, l32_15, l32_16, l32_17, l32_18, l32_19, l32_20, l32_21, l32_22, l32_23, l32_24, l32_25, l32_26, l32_27, l32_28, l32_29, l32_33, l32_40, l32_41, l32_44, l32_45, l32_59, l32_61, l32_91, l32_93, l32_123, l32_125, ek, ht]
      rw [e66] at d2
      unfold cf_142_143 cf_142_149 cf_142_296
      simp (disch := omega) only [ev_S, ev_C, ↓reduceIte, Nat.reduceEqDiff, Nat.reduceLeDiff, Nat.reduceAdd, Nat.reduceMul, Nat.reduceSub, reduceCtorEq, l32_0, l32_1, l32_2, l32_3, l32_4, l32_5, l32_6, l32_7, l32_8, l32_9, l32_10, l32_11, l32_12, l32_13, l32_14, l32_15, l32_16, l32_17, l32_18, l32_19, l32_20, l32_21, l32_22, l32_23, l32_24, l32_25, l32_26, l32_27, l32_28, l32_29, l32_33, l32_40, l32_41, l32_44, l32_45, l32_59, l32_61, l32_91, l32_93, l32_123, l32_125, d2]
    · rw [r_op3 y3 y7]
      rw [g3] at g1
      unfold mf_313_133 mf_313_143 mf_313_147 mf_313_157 mf_313_184
      simp (disch := omega) only [ev_S, ev_P, ↓reduceIte, Nat.reduceEqDiff, Nat.reduceLeDiff, Nat.reduceAdd, Nat.reduceMul, Nat.reduceSub, reduceCtorEq, l32_0, l32_1, l32_2, l32_3, l32_4, l32_5, l32_6, l32_7, l32_8, l32_9, l32_10, l32_11, l32_12, l32_13, l32_14, l32_15, l32_16, l32_17, l32_18, l32_19, l32_20, l32_21, l32_22, l32_23, l32_24, l32_25, l32_26, l32_27, l32_28, l32_29, l32_33, l32_40, l32_41, l32_44, l32_45, l32_59, l32_61, l32_91, l32_93, l32_123, l32_125, y8, g1, y6, x1, l32_8000]
  | some x =>
    rw [hgv] at d1 g3
    have gx := gV_gd K hgv
    have g3 : rvl (s1.2.2.1 47) f k0 v0 x := g3
    obtain ⟨t2, a1, a2, a3, a4⟩ := D1.push (N := N) (X := X) (m' := m + 1) (d' := 0) (it := (0, [x], 0)) (o := some x) (by omega) d1 (by show ¬ (0 : Nat) = 3; decide) rfl
    obtain ⟨s2, c1, c2, c3, c4, c5⟩ := y4.push (N := N) (m' := m + 1) (d' := 0) (it := (0, [x], 0)) (by omega) g3 (by show ¬ ((0 : Nat) = 2 ∨ (0 : Nat) = 3 ∨ (0 : Nat) = 6 ∨ (0 : Nat) = 8); decide) rfl
    refine goOn (k := 1) (j := 1) (by omega) (fun Q => ?_) (fun Q x2 => y11 s2 ?_ c2.1.2.2.1.1 Q x2) a2 C2 ?_ c2 R2 ?_ (more1 (it := (0, [x], 0)) hcx K ef (Or.inl rfl) (fun b z => okV) rfl (fun y q => by cases q; exact gx) (by omega))
    · rw [D2 Q]
      clear D1 D2
      generalize jI t 49 17 (Int32.ofNat (posC code m + 0 + 1)) = t1 at *
      refine c_rdM (by decide) (by decide) (c_mv1.trans ?_)
      have ek := c_kn (N := N) (X := X) d1
      have lx := kn_le (x := x)
      have e66 : cf_147_66 N X pl v t1 = some (t2, .inl none) := by
        generalize kn x = kq at *
        unfold cf_147_66 cf_147_70 cf_147_85 cf_147_90
        simp (disch := omega) only [ev_S, ev_C, ↓reduceIte, Nat.reduceEqDiff, Nat.reduceLeDiff, Nat.reduceAdd, Nat.reduceMul, Nat.reduceSub, reduceCtorEq, l32_0, l32_1, l32_2, l32_3, l32_4, l32_5, l32_6, l32_7, l32_8, l32_9, l32_10, l32_11, l32_12, l32_13, l32_14, l32_15, l32_16, l32_17, l32_18, l32_19, l32_20, l32_21, l32_22, l32_23, l32_24, l32_25, l32_26, l32_27, l32_28, l32_29, l32_33, l32_40, l32_41, l32_44, l32_45, l32_59, l32_61, l32_91, l32_93, l32_123, l32_125, ek, a1]
      rw [e66] at d2
      unfold cf_142_143 cf_142_149 cf_142_296
      simp (disch := omega) only [ev_S, ev_C, ↓reduceIte, Nat.reduceEqDiff, Nat.reduceLeDiff, Nat.reduceAdd, Nat.reduceMul, Nat.reduceSub, reduceCtorEq, l32_0, l32_1, l32_2, l32_3, l32_4, l32_5, l32_6, l32_7, l32_8, l32_9, l32_10, l32_11, l32_12, l32_13, l32_14, l32_15, l32_16, l32_17, l32_18, l32_19, l32_20, l32_21, l32_22, l32_23, l32_24, l32_25, l32_26, l32_27, l32_28, l32_29, l32_33, l32_40, l32_41, l32_44, l32_45, l32_59, l32_61, l32_91, l32_93, l32_123, l32_125, d2]
    · rw [r_op3 y3 y7]
      have hk2 : k0 = Int32.ofNat 0 ∨ k0 = Int32.ofNat 1 := by
        rcases g3.kz with z | z
        · exact Or.inl z.1
        · exact Or.inr z.1
      have hk3 : ¬ k0 = Int32.ofNat 2 := by
        rcases hk2 with z | z <;> rw [z] <;> decide
      clear hk2
      unfold mf_313_133 mf_313_143 mf_313_160 mf_313_171 mf_313_181 mf_313_184
      simp (disch := omega) only [ev_S, ev_P, ↓reduceIte, Nat.reduceEqDiff, Nat.reduceLeDiff, Nat.reduceAdd, Nat.reduceMul, Nat.reduceSub, reduceCtorEq, l32_0, l32_1, l32_2, l32_3, l32_4, l32_5, l32_6, l32_7, l32_8, l32_9, l32_10, l32_11, l32_12, l32_13, l32_14, l32_15, l32_16, l32_17, l32_18, l32_19, l32_20, l32_21, l32_22, l32_23, l32_24, l32_25, l32_26, l32_27, l32_28, l32_29, l32_33, l32_40, l32_41, l32_44, l32_45, l32_59, l32_61, l32_91, l32_93, l32_123, l32_125, y8, g1, hk3, g2, c1, l32_8000]
    · rw [a3]
      show Int32.ofNat (posC code m + 0 + 1) = Int32.ofNat (posC code (m + 1) + 0)
      rw [posC_s hm, show clen (inA code m) = 1 by unfold clen; rw [ho]; rfl]
    · rw [c3, y5, y1]
      show Int32.ofNat (ob0 h + posR code m + 0 + 1) = Int32.ofNat (ob0 h + posR code (m + 1) + 0)
      rw [posR_s hm, show rlen (inA code m) = 1 by unfold rlen; rw [ho]; rfl]
      rfl
/-- what is told leaves the picture -/
theorem CX.tel (C : CX t0 t p code Fs fu S0 u w F sh T out) (hf : ofr t t2) (hO : cOut t2 out') : CX t0 t2 p code Fs fu S0 u w F sh T out' ∧ kI t2 49 17 = kI t 49 17 := by
  have g : gf (fun k f => k = 45 ∧ f = 1) (fun k => k = 46 ∨ k = 47) t t2 := ⟨hf.1, hf.2.1, hf.2.2.1, fun k r1 r2 => hf.2.2.2.1 k (fun q => r1 (Or.inl q)) (fun q => r1 (Or.inr q)) r2, hf.2.2.2.2⟩
  obtain ⟨⟨a1, a2, a3, a4, a5, a6⟩, ⟨z1, z2, z3, z4, z5, z6, z7, z8⟩, c3, c4⟩ := C
  have e : ∀ k, ¬ k = 46 → ¬ k = 47 → ¬ k = 111 → kA t2 k = kA t k ∧ kB t2 k = kB t k := fun k k1 k2 k3 => ⟨(hf.2.2.2.1 k k1 k2 k3).1, (hf.2.2.2.1 k k1 k2 k3).2.1⟩
  have i : ∀ k f, ¬ k = 45 → kI t2 k f = kI t k f := fun k f k1 => hf.1 k f (fun q => k1 q.1)
  have hr : rmK t2 := hO.2.2.2.2.2.2
  refine ⟨⟨⟨a1.keep g (fun f => ⟨fun q => by omega, fun q => by omega⟩) (fun k k1 k2 q => by omega), ?_, ?_, hO, ?_, a6.tr2 (g.mono2 (fun k f q => Or.inr (Or.inl q.1)) (fun k q => by show 43 ≤ k ∧ k ≤ 60; omega))⟩, ⟨z1.keep g (by decide) (by decide), cFr.keep (e 53 (by omega) (by omega) (by omega)).1 (e 54 (by omega) (by omega) (by omega)).1 z2, ?_, ?_, ?_, ?_, ?_, ?_⟩, ?_, ?_⟩, i 49 17 (by omega)⟩
  · unfold cTy
    rw [i 48 1 (by omega), i 48 2 (by omega), i 48 3 (by omega), i 48 4 (by omega), i 48 5 (by omega)]
    exact a2
  · rw [i 48 6 (by omega), i 48 7 (by omega), i 48 8 (by omega)]
    exact a3
  · rw [i 49 18 (by omega)]
    exact a5
  · rw [(e 55 (by omega) (by omega) (by omega)).1, (e 56 (by omega) (by omega) (by omega)).1, (e 57 (by omega) (by omega) (by omega)).1]
    exact z3
  · rw [(e 53 (by omega) (by omega) (by omega)).1, (e 54 (by omega) (by omega) (by omega)).1, (e 50 (by omega) (by omega) (by omega)).2, (e 51 (by omega) (by omega) (by omega)).1, (e 60 (by omega) (by omega) (by omega)).1]
    exact z4
  · rw [(e 55 (by omega) (by omega) (by omega)).1, (e 56 (by omega) (by omega) (by omega)).1, (e 57 (by omega) (by omega) (by omega)).1]
    exact z5
  · have ec : cel t2 = cel t := by unfold cel; rw [(e 43 (by omega) (by omega) (by omega)).2]
    rw [(e 50 (by omega) (by omega) (by omega)).2, (e 51 (by omega) (by omega) (by omega)).1, ec]
    exact z6
  · rw [i 49 11 (by omega)]; exact z7
  · rw [i 49 15 (by omega)]; exact z8
  · obtain ⟨h1, h2, h3, h4, h5, h6, h7, h8, h9⟩ := c3
    unfold cHp
    rw [i 42 1 (by omega), i 42 3 (by omega), (e 43 (by omega) (by omega) (by omega)).2, (e 44 (by omega) (by omega) (by omega)).2]
    exact ⟨h1, h2, h3, h4, h5, h6, h7, h8, hr⟩
  · rw [i 49 8 (by omega)]; exact c4
theorem RXm.tel (R : RXm s0 s h code Fs fu f (a :: G) sh T out) (hf : fF s s2) (hO : rOut s2 out') : RXm s0 s2 h code Fs fu f (a :: G) sh T out' ∧ s2.1 69 = s.1 69 ∧ s2.1 51 = s.1 51 ∧ s2.2.2.1 49 = s.2.2.1 49 ∧ s2.2.2.1 50 = s.2.2.1 50 ∧ s2.2.2.1 47 = s.2.2.1 47 := by
  obtain ⟨⟨a1, a2, a3, a4, a5⟩, r2, r3⟩ := R
  have iq : ∀ q, ¬ (q = 55 ∨ q = 87) → s2.1 q = s.1 q := hf.1
  have aq : ∀ q, ¬ (q = 52 ∨ q = 53 ∨ q = 54 ∨ q = 86) → s2.2.2.1 q = s.2.2.1 q := hf.2.2.1
  have gR : fRn s s2 := ⟨⟨fun q r => iq q (by unfold iRn at r; omega), fun q r => hf.2.1 q (fun z => z), fun q r => aq q (by unfold aRn at r; omega), hf.2.2.2⟩, fun y hy => by rw [aq 47 (by omega)]⟩
  refine ⟨⟨⟨a1.keep (fun q q1 q2 => aq q (by omega)), ?_, ?_, hO, a5.tr gR⟩, RM0.mv r2 (fun q r => aq q (by omega)) (iq 73 (by omega)) (iq 79 (by omega)) (Nat.le_refl _) (fun y _ => by rw [aq 47 (by omega)]) (by rw [iq 48 (by omega)]; exact r2.2.2.2.2.2.2.2) ?_ rfl rfl, by rw [iq 51 (by omega)]; exact r3⟩, iq 69 (by omega), iq 51 (by omega), aq 49 (by omega), aq 50 (by omega), aq 47 (by omega)⟩
  · unfold rTy
    rw [iq 61 (by omega), iq 60 (by omega), iq 62 (by omega), iq 63 (by omega), iq 64 (by omega)]
    exact a2
  · rw [iq 66 (by omega), iq 67 (by omega)]
    exact a3
  · rw [aq 47 (by omega), aq 49 (by omega), aq 50 (by omega)]
    exact r2.1
end IN7
end
-- ### 98za.pure.lean.txt
section
/-! ===== PURE: run (104): instructions: what is said; a for begins ===== -/
section IN8
variable {N : Nat} {X : Nat → Option zz_C} {t0 t t1 t2 : cS} {s0 s s' s1 s2 : mS} {u w f f' p h fu m m' d d' n k b z j rr : Nat} {code : List Ins} {Fs : List Fn} {T T' : Ty} {out out' : List Int32} {F G : List Fm} {sh sh' S0 : Nat → Option Nod} {vs vs' : List (Option Nod)} {I I' J : List It} {q r pl kk v : Int32} {it : It} {x : Nod} {l : List Nod} {c : Ins} {L L' : List Nat} {g : Fn} {a a' : Fm}
theorem i_19 (hN : 170000 ≤ N) (C : CS t0 t p code Fs fu S0 ((m, 0, vs, I) :: G) sh T out) (R : RSm s0 s h code Fs fu ((m, 0, vs, I) :: G) sh T out) (K : CK code Fs fu ((m, 0, vs, I) :: G) sh T out n) (ho : (inA code m).1 = 19) : GO N X t0 s0 p h code Fs fu S0 t s n := by
  obtain ⟨u, w, f, g, C1, C2, C4, R1, R2, R4, P, hm, hcx, hrl, hG, ⟨b1, b2, b6⟩, hT, hol⟩ := open0 C R K
  obtain ⟨ec, er⟩ := cI_19 (code := code) (own := posC code m) (e := h) ho
  obtain ⟨D1, D2⟩ := C1.fet (N := N) (X := X) (n := n) (l1 := []) rfl C4 hm ec hcx (by omega)
  obtain ⟨s1, kx, y1, y2, y3, y4, y5, y6, ⟨y7, y8, y9, y10⟩, y11, y12⟩ := R1.fet (N := N) (l1 := []) hG rfl R4 hm er hrl
  obtain ⟨x, j, y, I', q1, q2, q3, q4, q5, q6⟩ := payI K P (by omega)
  subst q1
  obtain ⟨t2, v, nr, s3, e1, e2, e3, e4, e5, e6, e7, e8, e9, e10, e11, e12, e13, e14, e15⟩ := openP (N := N) (X := X) hN D1 b2 y4 b1
  have h30 := hT.2.2.1
  have hbw := bulk_wf x.1 x.2 q6.1
  have hfl := fm_len x.1 x.2
  have hfl : (fmN x).length + 1 ≤ 15 * bulkN x := hfl
  have hbw : bulkN x ≤ 600 := hbw
  obtain ⟨t3, w1, w2, w3⟩ := c_tell (N := N) (X := X) (x := x) hN q6.1 q6.2 t2 out u w v e3.1.2.2.2.1 e3.2.2.1 e2 (by omega)
  have w1 : cf_169 N X v t2 = some (t3, .inl none) := w1
  obtain ⟨t4, w4, w5, w6, -⟩ := c_says (N := N) (X := X) (c := Int32.ofNat 10) w2 (by rw [List.length_append, List.length_map]; omega)
  obtain ⟨CT, ct17⟩ := e3.tel (w3.tr w6) w5
  have CY := CT.no (m' := m + 1) (d' := 0) (Or.inr q2)
  have h23 : s3.2.2.1 23 kx = Int32.ofNat 19 := by rw [e12]; exact y7
  have key : ∃ s4, mf_314 N (Int32.ofNat kx) s3 = mf_314_251 N s4 ∧ rOut s4 (out ++ (fmN x).map nb) ∧ fF s3 s4 := by
    by_cases c0 : kn x = 0
    · obtain ⟨i1, i2⟩ := e13.iv c0
      obtain ⟨s4, v1, v2, v3⟩ := r_number (N := N) (z := ivN x) hN e8.1.2.2.2.1 (by omega)
      refine ⟨s4, ?_, ?_, v3.fF⟩
      · generalize ivN x = iv at *
        unfold mf_314 mf_314_0 mf_314_13 mf_314_100 mf_314_204 mf_314_210 mf_314_222 mf_314_235
        simp (disch := omega) only [ev_S, ev_P, ↓reduceIte, Nat.reduceEqDiff, Nat.reduceLeDiff, Nat.reduceAdd, Nat.reduceMul, Nat.reduceSub, reduceCtorEq, l32_0, l32_1, l32_2, l32_3, l32_4, l32_5, l32_6, l32_7, l32_8, l32_9, l32_10, l32_11, l32_12, l32_13, l32_14, l32_15, l32_16, l32_17, l32_18, l32_19, l32_20, l32_21, l32_22, l32_23, l32_24, l32_25, l32_26, l32_27, l32_28, l32_29, l32_33, l32_40, l32_41, l32_44, l32_45, l32_59, l32_61, l32_91, l32_93, l32_123, l32_125, h23, e9, i1, i2, v1, l32_8000]
      · have : fmN x = numL (ivN x) := by rw [vw_fm, kn0 c0]; rfl
        rw [this]
        exact v2
    · obtain ⟨i1, a0, i2, i3⟩ := e13.th c0
      obtain ⟨s4, v1, v2, v3⟩ := r_form (N := N) (R := Rf f) hN (fun y (hy : y < f ∧ _) => by have := hy.1; omega) q6.1 q6.2 i3 e8.1.2.2.2.1 (by omega)
      refine ⟨s4, ?_, v2, v3⟩
      unfold mf_314 mf_314_0 mf_314_13 mf_314_100 mf_314_204 mf_314_210 mf_314_238
      simp (disch := omega) only [ev_S, ev_P, ↓reduceIte, Nat.reduceEqDiff, Nat.reduceLeDiff, Nat.reduceAdd, Nat.reduceMul, Nat.reduceSub, reduceCtorEq, l32_0, l32_1, l32_2, l32_3, l32_4, l32_5, l32_6, l32_7, l32_8, l32_9, l32_10, l32_11, l32_12, l32_13, l32_14, l32_15, l32_16, l32_17, l32_18, l32_19, l32_20, l32_21, l32_22, l32_23, l32_24, l32_25, l32_26, l32_27, l32_28, l32_29, l32_33, l32_40, l32_41, l32_44, l32_45, l32_59, l32_61, l32_91, l32_93, l32_123, l32_125, h23, e9, i1, i2, v1, l32_8000]
  obtain ⟨s4, k1, k2, k3⟩ := key
  obtain ⟨s5, k4, k5, k6⟩ := r_says (N := N) (c := Int32.ofNat 10) k2 (by rw [List.length_append, List.length_map]; omega)
  obtain ⟨RT, rt69, -⟩ := e8.tel (mfr.tr k3 k6.fF) k5
  have RY := RT.no (m' := m + 1) (d' := 0) (Or.inr q2)
  refine goOn (k := 1) (j := 1) (by omega) (fun Q => ?_) (fun Q x2 => y11 _ ?_ RY.1.2.2.1.1 Q x2) CY C2 ?_ RY R2 ?_ (paid K P (by omega) q2 q3 q4 q5 rfl ?_ K.2.2.2.2.1 ?_ (by omega))
  · rw [D2 Q]
    clear D1 D2
    generalize jI t 49 17 (Int32.ofNat (posC code m + 0 + 1)) = t1 at *
    refine c_rdM (by decide) (by decide) (c_mv7.trans ?_)
    unfold cf_142_201 cf_142_213 cf_142_216 cf_142_225 cf_142_296
    simp (disch := omega) only [ev_S, ev_C, ↓reduceIte, Nat.reduceEqDiff, Nat.reduceLeDiff, Nat.reduceAdd, Nat.reduceMul, Nat.reduceSub, reduceCtorEq, l32_0, l32_1, l32_2, l32_3, l32_4, l32_5, l32_6, l32_7, l32_8, l32_9, l32_10, l32_11, l32_12, l32_13, l32_14, l32_15, l32_16, l32_17, l32_18, l32_19, l32_20, l32_21, l32_22, l32_23, l32_24, l32_25, l32_26, l32_27, l32_28, l32_29, l32_33, l32_40, l32_41, l32_44, l32_45, l32_59, l32_61, l32_91, l32_93, l32_123, l32_125, e1, w1, w4]
  · rw [r_op19 y3 y7]
    refine e15 _ _ y3 ?_
    rw [k1]
    unfold mf_314_251 mf_314_257 mf_314_337
    simp (disch := omega) only [ev_S, ev_P, ↓reduceIte, Nat.reduceEqDiff, Nat.reduceLeDiff, Nat.reduceAdd, Nat.reduceMul, Nat.reduceSub, reduceCtorEq, l32_0, l32_1, l32_2, l32_3, l32_4, l32_5, l32_6, l32_7, l32_8, l32_9, l32_10, l32_11, l32_12, l32_13, l32_14, l32_15, l32_16, l32_17, l32_18, l32_19, l32_20, l32_21, l32_22, l32_23, l32_24, l32_25, l32_26, l32_27, l32_28, l32_29, l32_33, l32_40, l32_41, l32_44, l32_45, l32_59, l32_61, l32_91, l32_93, l32_123, l32_125, k4]
  · rw [ct17, e4]
    show Int32.ofNat (posC code m + 0 + 1) = Int32.ofNat (posC code (m + 1) + 0)
    rw [posC_s hm, show clen (inA code m) = 1 by unfold clen; rw [ho]; rfl]
  · rw [rt69, e10, y5, y1]
    show Int32.ofNat (ob0 h + posR code m + 0 + 1) = Int32.ofNat (ob0 h + posR code (m + 1) + 0)
    rw [posR_s hm, show rlen (inA code m) = 1 by unfold rlen; rw [ho]; rfl]
    rfl
  · exact gd_suf (m := m) (d := 0) (J := [((0, [x], j) : It), y]) K.2.2.2.1
  · rw [List.length_append, List.length_append, List.length_map, List.length_singleton]
    omega
theorem i_17 (hN : 170000 ≤ N) (C : CS t0 t p code Fs fu S0 ((m, 0, vs, I) :: G) sh T out) (R : RSm s0 s h code Fs fu ((m, 0, vs, I) :: G) sh T out) (K : CK code Fs fu ((m, 0, vs, I) :: G) sh T out n) (ho : (inA code m).1 = 17) : GO N X t0 s0 p h code Fs fu S0 t s n := by
  obtain ⟨u, w, f, g, C1, C2, C4, R1, R2, R4, P, hm, hcx, hrl, hG, ⟨b1, b2, b6⟩, hT, hol⟩ := open0 C R K
  obtain ⟨ec, er⟩ := cI_17 (code := code) (own := posC code m) (e := h) ho
  obtain ⟨hl, hp⟩ := K.ly0
  obtain ⟨L2, z3, z4⟩ := K.nxt
  have hnx := P.2.2.2.2.2.1 (by omega)
  have hpb := P.2.1
  have hbd := K.bd
  obtain ⟨M, hM, z5⟩ : ∃ M, kd I = 0 :: 5 :: M ∧ L2 = 2 :: M := by
    generalize inA code m = c at *
    obtain ⟨o', jj, r0, aa, pp, xx, yy⟩ := c
    have z : o' = 17 := ho
    subst z
    have z3 : (match (generalizing := false) kd I with | 0 :: 5 :: M => if nF M < 10 then some (2 :: M) else none | _ => none) = some L2 := z3
    split at z3
    · rename_i M hM
      split at z3
      · exact ⟨M, hM, (Option.some.inj z3).symm⟩
      · cases z3
    · cases z3
  obtain ⟨x, j, I1, q1, q2, q3⟩ := kdV0 hM P.2.2.2.1
  obtain ⟨y, I', r1, r2, r3⟩ := kdC q2
  subst r1
  subst q1
  generalize (inA code m).2.2.2.2.1 = pl at *
  obtain ⟨D1, D2⟩ := C1.fet (N := N) (X := X) (n := n) (l1 := []) rfl C4 hm ec hcx (by omega)
  obtain ⟨s1, kx, y1, y2, y3, y4, y5, y6, ⟨y7, y8, y9, y10⟩, y11, y12⟩ := R1.fet (N := N) (l1 := []) hG rfl R4 hm er hrl
  obtain ⟨t2, v0, nr, s3, e1, e2, e3, e4, e5, e6, e7, e8, e9, e10, e11, e12, e13, e14, e15⟩ := openP (N := N) (X := X) hN D1 b2 y4 b1
  have q6 : wfN x ∧ x.1 ≤ 4 := by
    refine K.2.2.2.1 x ?_
    rw [cStk_cons (m' := m) (d' := 0)]
    exact List.mem_append_left _ List.mem_cons_self
  obtain ⟨v, p1, p2⟩ := D1.top1 (N := N) (X := X) (o := some x) (l := cStk ((m, 0, vs, y :: I') :: G)) (cStk_cons (m' := m) (d' := 0))
  have p2 : cN (cel (jI t 49 17 (Int32.ofNat (posC code m + 0 + 1)))) u v x := p2
  have kx1 := c_kn (N := N) (X := X) p2
  have lx := kn_le (x := x)
  have h23 : s3.2.2.1 23 kx = Int32.ofNat 17 := by rw [e12]; exact y7
  have h70 : s3.1 70 = pl := e11.trans y6
  have E0 : mf_314 N (Int32.ofNat kx) s3 = mf_314_106 N s3 := by
    unfold mf_314 mf_314_0 mf_314_13 mf_314_100
    simp (disch := omega) only [ev_S, ev_P, ↓reduceIte, Nat.reduceEqDiff, Nat.reduceLeDiff, Nat.reduceAdd, Nat.reduceMul, Nat.reduceSub, reduceCtorEq, l32_0, l32_1, l32_2, l32_3, l32_4, l32_5, l32_6, l32_7, l32_8, l32_9, l32_10, l32_11, l32_12, l32_13, l32_14, l32_15, l32_16, l32_17, l32_18, l32_19, l32_20, l32_21, l32_22, l32_23, l32_24, l32_25, l32_26, l32_27, l32_28, l32_29, l32_33, l32_40, l32_41, l32_44, l32_45, l32_59, l32_61, l32_91, l32_93, l32_123, l32_125, h23, l32_8000]
  by_cases cneg : kn x = 0 ∧ ivN x < 0
  · -- none so small
    obtain ⟨i1, i2⟩ := e13.iv cneg.1
    have ev := p2.z cneg.1
    have lo := c_lowOf (N := N) (X := X) (t := jI t 49 17 (Int32.ofNat (posC code m + 0 + 1))) (k := 0) (a := ivN x)
    rw [← ev] at lo
    rw [cneg.1] at kx1
    have hng : (Int32.ofNat 0 ≤ ivN x) = False := by
      refine eq_false ?_
      have := (i32neg cneg.2 (k := 0) (by omega)).2.2.1
      exact this
    obtain ⟨x1, x2, -⟩ := e8.trb (N := N) (k := 1) (q := pl)
    have x3 : RM0 (trb s3 (Int32.ofNat 1) pl) f h code ((m, 0, vs, (0, [x], j) :: y :: I') :: G) sh := RM0.mv y4.2.1 (fun q _ => by rw [e7]; rfl) (by rw [e7]; rfl) (by rw [e7]; rfl) (Nat.le_refl _) (fun _ _ => by rw [e7]; rfl) (by rw [e7]; exact y4.2.1.2.2.2.2.2.2.2) (by rw [e7]; exact y4.2.1.1) rfl rfl
    refine trob0 (kq := 1) (k0 := 1) (ra := Int32.ofNat 0) (by omega) (by omega) (by omega) K hT ⟨Nat.le_refl _, Nat.le_refl _⟩ D1 (Nat.le_trans C2 (Nat.le_add_right _ _)) x2 x3 ⟨R2.1, Nat.le_trans R2.2 (Nat.le_add_right _ _)⟩ rfl (fun t3 ht Q => ?_) (y12 _ 1 ?_ rfl (by omega)) b6
    · rw [D2 Q]
      clear D1 D2
      generalize jI t 49 17 (Int32.ofNat (posC code m + 0 + 1)) = t1 at *
      refine c_rdM (by decide) (by decide) (c_mv6.trans ?_)
      generalize ivN x = iv at *
      unfold cf_142_185 cf_142_190 cf_142_296 cf_151 cf_151_0 cf_151_5 cf_151_10 cf_151_13 cf_151_17 cf_151_20 cf_151_27 cf_151_39
      simp (disch := omega) only [ev_S, ev_C, ↓reduceIte, Nat.reduceEqDiff, Nat.reduceLeDiff, Nat.reduceAdd, Nat.reduceMul, Nat.reduceSub, reduceCtorEq, l32_0, l32_1, l32_2, l32_3, l32_4, l32_5, l32_6, l32_7, l32_8, l32_9, l32_10, l32_11, l32_12, l32_13, l32_14, l32_15, l32_16, l32_17, l32_18, l32_19, l32_20, l32_21, l32_22, l32_23, l32_24, l32_25, l32_26, l32_27, l32_28, l32_29, l32_33, l32_40, l32_41, l32_44, l32_45, l32_59, l32_61, l32_91, l32_93, l32_123, l32_125, p1, kx1, lo, hng, ht]
    · rw [r_op17 y3 y7]
      refine e15 _ _ y3 ?_
      rw [E0]
      generalize ivN x = iv at *
      unfold mf_314_106 mf_314_118 mf_314_130 mf_314_139 mf_314_337
      simp (disch := omega) only [ev_S, ev_P, ↓reduceIte, Nat.reduceEqDiff, Nat.reduceLeDiff, Nat.reduceAdd, Nat.reduceMul, Nat.reduceSub, reduceCtorEq, l32_0, l32_1, l32_2, l32_3, l32_4, l32_5, l32_6, l32_7, l32_8, l32_9, l32_10, l32_11, l32_12, l32_13, l32_14, l32_15, l32_16, l32_17, l32_18, l32_19, l32_20, l32_21, l32_22, l32_23, l32_24, l32_25, l32_26, l32_27, l32_28, l32_29, l32_33, l32_40, l32_41, l32_44, l32_45, l32_59, l32_61, l32_91, l32_93, l32_123, l32_125, e9, i1, i2, hng, h70, x1]
  · -- it begins
    obtain ⟨t3, a1, a2, a3, a4⟩ := D1.push (N := N) (X := X) (m' := m) (d' := 0) (it := (0, [nZ 0], 0)) (o := some (nZ 0)) (v := tg 0 0) (by omega) cN_Z (by show ¬ (0 : Nat) = 3; decide) rfl
    have CY : CX t0 t3 p code Fs fu S0 u w ((m + 1, 0, vs, (2, [x], 0) :: I') :: G) sh T out := by
      refine a2.re ?_ ?_
      · rw [cStk_cons (m := m) (d := 0) (m' := m) (d' := 0), cStk_cons (m := m) (d := 0) (m' := m) (d' := 0), cStk_cons (m := m) (d := 0) (m' := m + 1) (d' := 0), (iC_no (Or.inr r2)).1, cStk_cons (m := m + 1) (d := 0) (m' := m + 1) (d' := 0)]
        rfl
      · rw [tStk_cons (m := m + 1) (d := 0) (m' := m + 1) (d' := 0) (by show ¬ (2 : Nat) = 3; decide), tStk_cons (m := m) (d := 0) (m' := m) (d' := 0) (by show ¬ (0 : Nat) = 3; decide), tStk_cons (m := m) (d := 0) (m' := m) (d' := 0) (by show ¬ (0 : Nat) = 3; decide), tStk_cons (m := m) (d := 0) (m' := m + 1) (d' := 0) (by omega)]
    have e8n := e8.no (m' := m) (d' := 0) (Or.inr r2)
    have hwl : (wStk ((m, 0, vs, I') :: G)).length ≤ 110 := by
      have := hbd.2.2.1
      rw [wStk_cons (m' := m) (d' := 0) (by show ¬ ((0 : Nat) = 2 ∨ (0 : Nat) = 3 ∨ (0 : Nat) = 6 ∨ (0 : Nat) = 8); decide), wStk_cons (m' := m) (d' := 0) (by omega)] at this
      exact this
    have h73 : s3.1 73 = Int32.ofNat (G.length + 1) := e8.2.1.2.2.2.2.2.1
    have h79 := e8n.2.1.2.2.2.2.2.2.1
    have hgd := gd_suf (m' := m + 1) (d' := 0) (J := [((0, [x], j) : It), y]) (I := I') K.2.2.2.1
    -- the way
    have key : ∃ vw2, mf_314 N (Int32.ofNat kx) s3 = some (wyS s3 (wStk ((m, 0, vs, I') :: G)).length vw2, none) ∧ wayP (s3.2.2.1 47) f h code vw2 ((2, [x], 0), (rStk ((m, 0, vs, I') :: G)).length, G.length + 1) := by
      generalize (wStk ((m, 0, vs, I') :: G)).length = nw at *
      by_cases c0 : kn x = 0
      · obtain ⟨i1, i2⟩ := e13.iv c0
        have cn : ¬ ivN x < 0 := fun q => cneg ⟨c0, q⟩
        obtain ⟨iv, hiv, eiv⟩ := i32nn cn
        have hw := r_way (N := N) (x1 := Int32.ofNat 1) (x2 := -Int32.ofNat 1) (x3 := Int32.ofNat iv) (x4 := Int32.ofNat 0) h79 (by omega)
        refine ⟨(Int32.ofNat 1, -Int32.ofNat 1, Int32.ofNat 0, Int32.ofNat iv, Int32.ofNat 0, s3.1 73), ?_, ⟨fun _ => ⟨rfl, rfl, fun y' hy' => ⟨fun _ => ⟨rfl, ?_⟩, fun q => ?_⟩⟩, fun q => (by cases q), fun q => (by rcases q with q | q <;> cases q)⟩⟩
        · rw [E0]
          rw [eiv] at i2
          unfold mf_314_106 mf_314_118 mf_314_142 mf_314_154 mf_314_170 mf_314_337
          simp (disch := omega) only [ev_S, ev_P, ↓reduceIte, Nat.reduceEqDiff, Nat.reduceLeDiff, Nat.reduceAdd, Nat.reduceMul, Nat.reduceSub, reduceCtorEq, l32_0, l32_1, l32_2, l32_3, l32_4, l32_5, l32_6, l32_7, l32_8, l32_9, l32_10, l32_11, l32_12, l32_13, l32_14, l32_15, l32_16, l32_17, l32_18, l32_19, l32_20, l32_21, l32_22, l32_23, l32_24, l32_25, l32_26, l32_27, l32_28, l32_29, l32_33, l32_40, l32_41, l32_44, l32_45, l32_59, l32_61, l32_91, l32_93, l32_123, l32_125, e9, i1, i2, hw]
        · have : y' = x := by simpa using hy'.symm
          rw [this]
          exact eiv.symm
        · have : y' = x := by simpa using hy'.symm
          rw [this] at q
          exact absurd c0 q
      · obtain ⟨i1, a0, i2, i3⟩ := e13.th c0
        have hsz : mf_77 N (Int32.ofNat a0) s3 = some (s3, some (.int (Int32.ofNat (szN x)))) := r_size (N := N) (s := s3) (LayN_iff.mp i3).2 (Nat.le_trans (LayN.lt i3).1 (by have := hT.2.2.1; omega))
        have hw := r_way (N := N) (x1 := Int32.ofNat 1) (x2 := Int32.ofNat a0) (x3 := Int32.ofNat (szN x)) (x4 := Int32.ofNat 0) h79 (by omega)
        refine ⟨(Int32.ofNat 1, Int32.ofNat a0, Int32.ofNat 0, Int32.ofNat (szN x), Int32.ofNat 0, s3.1 73), ?_, ⟨fun _ => ⟨rfl, rfl, fun y' hy' => ⟨fun q => ?_, fun _ => ⟨a0, rfl, ?_, ?_⟩⟩⟩, fun q => (by cases q), fun q => (by rcases q with q | q <;> cases q)⟩⟩
        · rw [E0]
          generalize szN x = sx at *
          unfold mf_314_106 mf_314_142 mf_314_173 mf_314_197 mf_314_201 mf_314_337
          simp (disch := omega) only [ev_S, ev_P, ↓reduceIte, Nat.reduceEqDiff, Nat.reduceLeDiff, Nat.reduceAdd, Nat.reduceMul, Nat.reduceSub, reduceCtorEq, l32_0, l32_1, l32_2, l32_3, l32_4, l32_5, l32_6, l32_7, l32_8, l32_9, l32_10, l32_11, l32_12, l32_13, l32_14, l32_15, l32_16, l32_17, l32_18, l32_19, l32_20, l32_21, l32_22, l32_23, l32_24, l32_25, l32_26, l32_27, l32_28, l32_29, l32_33, l32_40, l32_41, l32_44, l32_45, l32_59, l32_61, l32_91, l32_93, l32_123, l32_125, e9, i1, i2, hsz, hw]
        · have : y' = x := by simpa using hy'.symm
          rw [this] at q
          exact absurd q c0
        · have : y' = x := by simpa using hy'.symm
          rw [this]
          exact i3
        · have : y' = x := by simpa using hy'.symm
          rw [this]
    obtain ⟨vw2, k1, k2⟩ := key
    have RY := e8n.way (m' := m + 1) (d' := 0) (it := (2, [x], 0)) (Or.inl rfl) rfl k2
    refine goOn (k := 1) (j := 1) (by omega) (fun Q => ?_) (fun Q x2 => y11 _ (by rw [r_op17 y3 y7]; exact e15 _ _ y3 k1) RY.1.2.2.1.1 Q x2) CY C2 ?_ RY R2 ?_ (K.to P (by omega) (I' := (2, [x], 0) :: I') (by rw [z4, z5, ← r3]; rfl) ?_ ⟨?_, q3.2⟩ rfl ?_ K.2.2.2.2.1 hT ?_ ?_)
    · rw [D2 Q]
      clear D1 D2
      generalize jI t 49 17 (Int32.ofNat (posC code m + 0 + 1)) = t1 at *
      refine c_rdM (by decide) (by decide) (c_mv6.trans ?_)
      have eth := c_thing (N := N) (X := X) (t := t1) (k := Int32.ofNat 0) (a := Int32.ofNat 0)
      have a1 : cf_165 N X (tg (Int32.ofNat 0) (Int32.ofNat 0)) t1 = _ := a1
      by_cases c0 : kn x = 0
      · have ev := p2.z c0
        have lo := c_lowOf (N := N) (X := X) (t := t1) (k := 0) (a := ivN x)
        rw [← ev] at lo
        rw [c0] at kx1
        have cn : ¬ ivN x < 0 := fun q => cneg ⟨c0, q⟩
        obtain ⟨iv, hiv, eiv⟩ := i32nn cn
        rw [eiv] at lo
        unfold cf_142_185 cf_142_190 cf_142_296 cf_151 cf_151_0 cf_151_5 cf_151_10 cf_151_13 cf_151_17 cf_151_30 cf_151_36 cf_151_39
        simp (disch := omega) only [ev_S, ev_C, ↓reduceIte, Nat.reduceEqDiff, Nat.reduceLeDiff, Nat.reduceAdd, Nat.reduceMul, Nat.reduceSub, reduceCtorEq, l32_0, l32_1, l32_2, l32_3, l32_4, l32_5, l32_6, l32_7, l32_8, l32_9, l32_10, l32_11, l32_12, l32_13, l32_14, l32_15, l32_16, l32_17, l32_18, l32_19, l32_20, l32_21, l32_22, l32_23, l32_24, l32_25, l32_26, l32_27, l32_28, l32_29, l32_33, l32_40, l32_41, l32_44, l32_45, l32_59, l32_61, l32_91, l32_93, l32_123, l32_125, p1, kx1, lo, eth, a1]
      · clear cneg
        generalize kn x = kn' at *
        unfold cf_142_185 cf_142_190 cf_142_296 cf_151 cf_151_0 cf_151_5 cf_151_10 cf_151_30 cf_151_36 cf_151_39
        simp (disch := omega) only [ev_S, ev_C, ↓reduceIte, Nat.reduceEqDiff, Nat.reduceLeDiff, Nat.reduceAdd, Nat.reduceMul, Nat.reduceSub, reduceCtorEq, l32_0, l32_1, l32_2, l32_3, l32_4, l32_5, l32_6, l32_7, l32_8, l32_9, l32_10, l32_11, l32_12, l32_13, l32_14, l32_15, l32_16, l32_17, l32_18, l32_19, l32_20, l32_21, l32_22, l32_23, l32_24, l32_25, l32_26, l32_27, l32_28, l32_29, l32_33, l32_40, l32_41, l32_44, l32_45, l32_59, l32_61, l32_91, l32_93, l32_123, l32_125, p1, kx1, c0, eth, a1]
    · rw [a3]
      show Int32.ofNat (posC code m + 0 + 1) = Int32.ofNat (posC code (m + 1) + 0)
      rw [posC_s hm, show clen (inA code m) = 1 by unfold clen; rw [ho]; rfl]
    · show s3.1 69 = _
      rw [e10, y5, y1]
      show Int32.ofNat (ob0 h + posR code m + 0 + 1) = Int32.ofNat (ob0 h + posR code (m + 1) + 0)
      rw [posR_s hm, show rlen (inA code m) = 1 by unfold rlen; rw [ho]; rfl]
      rfl
    · intro q hq
      rcases List.mem_cons.mp hq with e | e
      · rw [e]; show (2 : Nat) ≤ 5; omega
      · exact hp.tl.tl q e
    · refine ⟨by show (2 : Nat) ≤ 8; omega, fun q => (by rcases q with q | q <;> cases q), fun _ => ⟨x, rfl, fun c0 => ⟨fun q => cneg ⟨c0, q⟩, Nat.zero_le _⟩, fun _ => Nat.zero_le _⟩, fun q => (by cases q), fun q => (by cases q), fun q => (by cases q)⟩
    · rw [cStk_cons (m' := m + 1) (d' := 0)]
      show gdS (some (nZ (Int32.ofNat 0)) :: some x :: cStk ((m + 1, 0, vs, I') :: G))
      exact gd_c gd_Z (gd_c (fun y' hy' => by cases hy'; exact q6) hgd)
    · have f2 : pvI ((0, [x], j) :: y :: I') = 1 + pvI (y :: I') := rfl
      have f3 : crI (2, [x], 0) = 0 := rfl
      rw [crL_c, crL_c, crL_c, cr5 r2, f2, f3, pv5 (I := I') (by omega)]
      show 1 + (0 + crL I') + 20 * T.1 + 60 * T.2.1 + (1 + 0) ≤ 0 + (8 + crL I') + 20 * T.1 + 60 * T.2.1 + _
      omega
    · rw [n5I_c, n5I_c, n5I_c, if_pos r2]
      show out.length + 9100 * (0 + n5I I') + 9100 * T.1 ≤ out.length + 9100 * (0 + (1 + n5I I')) + 9100 * T.1
      omega
end IN8
end
-- ### 98zb.pure.lean.txt
section
/-! ===== PURE: run (105): a new thing comes in others' stead ===== -/
section VOP
variable {N : Nat} {X : Nat → Option zz_C} {t0 t t1 t2 : cS} {s0 s s' s1 s2 : mS} {u w f f' p h fu m m' d d' n k b z j jn k0 nb : Nat} {code : List Ins} {Fs : List Fn} {T T' T1 : Ty} {out out' : List Int32} {F G : List Fm} {sh sh' S0 : Nat → Option Nod} {vs vs' : List (Option Nod)} {I I' J : List It} {q r pl kk : Int32} {v : Int64} {it : It} {x : Nod} {l : List Nod} {c : Ins} {L L' : List Nat} {g : Fn} {a a' : Fm} {ans : Ans}
theorem CY.low (C : CY t0 t p code Fs fu S0 u w ((m, d, vs, J ++ I') :: G) sh T out) (hJ : ∀ y ∈ J, ¬ y.1 = 3) : CY t0 t p code Fs fu S0 u w ((m', d', vs, I') :: G) sh T out := by
  obtain ⟨c1, ⟨e1, e2, e3, e4, e5, e6, e7, e8⟩, c3⟩ := C
  have eC := cStk_app (m := m) (d := d) (m' := m') (d' := d') (vs := vs) (J := J) (I := I') (G := G)
  have eT : tStk ((m', d', vs, I') :: G) = tStk ((m, d, vs, J ++ I') :: G) := by
    show tIt _ _ I' ++ _ = tIt _ _ (J ++ I') ++ _
    rw [tIt_app hJ]
  rw [eC] at e1
  exact ⟨c1, ⟨e1.app, e2, by rw [eT]; exact e3, e4, by rw [eT]; exact e5, e6, e7, by rw [eT]; exact e8⟩, c3⟩
/-- the reference after work on values -/
theorem RB.vf (B : RB s0 s1 h code Fs fu T1 out) (hv : vfr nb f s1 s2) (hf : 154242 ≤ f) (h62 : s2.1 62 = Int32.ofNat k) : RBk s0 s2 h code Fs fu (T1.1, k, T1.2.2) out (s2.1 66) (s2.1 67) := by
  obtain ⟨a1, ⟨b1, b2, b3, b4, b5⟩, a3, a4, a5⟩ := B
  have iq : ∀ q, ¬ vfI q → s2.1 q = s1.1 q := hv.1.1
  have aq : ∀ q, ¬ vfA q → s2.2.2.1 q = s1.2.2.1 q := hv.1.2.2.1
  refine ⟨a1.keep (fun q q1 q2 => aq q (by unfold vfA; omega)), ⟨?_, ?_, h62, ?_, ?_⟩, ⟨rfl, rfl⟩, a4.ch (iq 87 (by unfold vfI; omega)) (aq 86 (by unfold vfA; omega)), a5.tr ⟨⟨fun q r => iq q (by unfold iRn at r; unfold vfI; omega), hv.1.2.1, fun q r => aq q (by unfold aRn at r; unfold vfA; omega), hv.1.2.2.2⟩, fun y hy => hv.2.2 y (by omega)⟩⟩
  · rw [iq 61 (by unfold vfI; omega)]; exact b1
  · rw [iq 60 (by unfold vfI; omega)]; exact b2
  · rw [iq 63 (by unfold vfI; omega)]; exact b4
  · rw [iq 64 (by unfold vfI; omega)]; exact b5
theorem RM0.vf (M : RM0 s1 f h code ((m, d, vs, I') :: G) sh) (hv : vfr nb f s1 s2) (hnb : nb = (rStk ((m, d, vs, I') :: G)).length) (hf : f ≤ f') (h48 : s2.1 48 = Int32.ofNat f') : RM0 s2 f' h code ((m', d', vs, I') :: G) sh := by
  have iq : ∀ q, ¬ vfI q → s2.1 q = s1.1 q := hv.1.1
  have aq : ∀ q, ¬ vfA q → s2.2.2.1 q = s1.2.2.1 q := hv.1.2.2.1
  refine RM0.mv M (fun q r => aq q (by unfold vfA; omega)) (iq 73 (by unfold vfI; omega)) (iq 79 (by unfold vfI; omega)) hf hv.2.2 h48 ?_ rfl rfl
  refine M.1.mono (fun vv xx _ z => rvl.up z hf hv.2.2) (fun i hi => ?_)
  have := hv.2.1 i (by rw [hnb]; exact hi)
  rw [this.1, this.2]
/-- the run ends by what was made -/
theorem end11 {t2 : cS} {sf : mS} (C : CY t0 t2 p code Fs fu S0 u w F sh T1 out) (B : RBk s0 sf h code Fs fu T1 out (Int32.ofNat 11) pl) (hk0 : k0 ≤ 5) (hc : ∀ t3, cf_156 N X (Int32.ofNat 11) pl (Int32.ofNat 0) t2 = some (t3, .inl none) → ∀ Q, cf_141_L4 N X (Q + k0) 0 (Int32.ofNat n) t = cf_141_L4 N X Q 0 (Int32.ofNat (n + k0)) t3) (hs : ∀ Q x2, mf_68_L10 N (Q + (0 + 1)) 0 x2 s = mo_bi (mf_312 N sf) (fun s3 y => mf_68_L10 N Q 0 x2 s3)) (hn : n ≤ 597000) (ho : out.length ≤ 200000000) : GO N X t0 s0 p h code Fs fu S0 t s n := by
  have ef := c_fallE (N := N) (X := X) (t := t2) (k := 11) (q := pl) (r := Int32.ofNat 0) (Or.inl (by omega)) (by omega)
  refine Or.inr ⟨k0 + 1, 2, _, sf, by omega, by omega, fun Q => ?_, fun Q x2 => ?_, tr_end (k := 11) (r := Int32.ofNat 0) (by omega) C B rfl ho⟩
  · rw [show Q + (k0 + 1) = Q + 1 + k0 by omega, hc _ ef (Q + 1)]
    exact c_off rfl (by omega)
  · rw [show Q + 2 = Q + 1 + (0 + 1) by omega, hs (Q + 1) x2]
    have h66 : sf.1 66 = Int32.ofNat 11 := B.2.2.1.1
    have e1 : mf_312 N sf = some (sf, some (.int (Int32.ofNat 0))) := by
      unfold mf_312 mf_312_0 mf_312_9
      simp (disch := omega) only [ev_S, ev_P, ↓reduceIte, Nat.reduceEqDiff, Nat.reduceLeDiff, Nat.reduceAdd, Nat.reduceMul, Nat.reduceSub, reduceCtorEq, l32_0, l32_1, l32_2, l32_3, l32_4, l32_5, l32_6, l32_7, l32_8, l32_9, l32_10, l32_11, l32_12, l32_13, l32_14, l32_15, l32_16, l32_17, l32_18, l32_19, l32_20, l32_21, l32_22, l32_23, l32_24, l32_25, l32_26, l32_27, l32_28, l32_29, l32_33, l32_40, l32_41, l32_44, l32_45, l32_59, l32_61, l32_91, l32_93, l32_123, l32_125, h66]
    rw [e1, ev_bi]
    show mf_68_258 N (mf_68_L10 N Q) x2 sf = _
    unfold mf_68_258 mf_68_265
    by_cases c : sf.1 73 ≤ 0
    · rw [if_pos c]
    · rw [if_neg c, h66]
      rfl
theorem vop {JK : List It} (hN : 170000 ≤ N) (hk0 : 1 ≤ k0 ∧ k0 ≤ 5) (K : CK code Fs fu ((m, d, vs, JK ++ I') :: G) sh T out n) (P : PL code Fs m vs (JK ++ I') g) (hlC : (cStk ((m, d, vs, J ++ I') :: G)).length ≤ 20000) (h20 : ¬ (inA code m).1 = 20) (hJ : ∀ y ∈ J, ¬ y.1 = 3) (hjn : (cIt J).length = jn) (hT1 : okTy fu T1 ∧ T.1 ≤ T1.1 ∧ T1.2 = T.2)
    (hly : lyo (code.take (m + 1)) = some (0 :: kd I')) (hpl : plI I') (hok : okIs code g.2.2.2.2.1 g.2.2.2.2.2 I')
    (C1 : CX t0 t1 p code Fs fu S0 u w ((m, d, vs, J ++ I') :: G) sh T1 out) (C2 : u ≤ 100000 + 20 * T.2.1) (hF : cF t1 t2 u v ans) (hpc : kI t1 49 17 = Int32.ofNat (posC code (m + 1)))
    (hround : ∀ t3, cf_144 N X v (Int32.ofNat jn) pl t2 = some (t3, .inl none) → ∀ Q, cf_141_L4 N X (Q + k0) 0 (Int32.ofNat n) t = cf_141_L4 N X Q 0 (Int32.ofNat (n + k0)) t3)
    (B : RB s0 s1 h code Fs fu T1 out) (M : RM0 s1 f h code ((m, d', vs, I') :: G) sh) (R2 : 154242 ≤ f ∧ f ≤ 154250 + T.2.1) (h70 : s1.1 70 = pl) (h69 : s1.1 69 = Int32.ofNat (ob0 h + posR code (m + 1)))
    (hE : rE s1 s2 (rStk ((m, d', vs, I') :: G)).length f T1.2.1 ans) (hans : ∀ kq, ans = .inl kq → 1 ≤ kq ∧ kq < 9)
    (hsok : s2.1 66 = Int32.ofNat 0 → ∀ Q x2, mf_68_L10 N (Q + 1) 0 x2 s = mf_68_L10 N Q 0 x2 s2) (hsno : ∀ kq, s2.1 66 = Int32.ofNat kq → 0 < kq ∧ kq < 100 → ∀ Q x2, mf_68_L10 N (Q + (0 + 1)) 0 x2 s = mo_bi (mf_312 N s2) (fun s3 y => mf_68_L10 N Q 0 x2 s3))
    (hpot : ∀ x, ans = .inr x → k0 + 20 * T.1 + pvI (JK ++ I') ≤ crL JK + 20 * T1.1 + 60 * ctV (vw x) + 1 + pvI I') (hol : out.length ≤ 200000000) : GO N X t0 s0 p h code Fs fu S0 t s n := by
  obtain ⟨b1, b2, b3, b4, b5, b6⟩ := K.bd
  obtain ⟨hT1a, hT1b, hT1c⟩ := hT1
  have hmd : T1.2.1 = T.2.1 := by rw [hT1c]
  obtain ⟨u', w', CO, co17, co1, co2, co3⟩ := C1.op hF
  obtain ⟨f', g1, g2, g3, g4⟩ := hE
  have h66s : s1.1 66 = Int32.ofNat 0 := B.2.2.1.1
  have h67s : s1.1 67 = -Int32.ofNat 1 := B.2.2.1.2
  have hpb := P.2.1
  have hnx := P.2.2.2.2.2.1 h20
  cases ans with
  | inl kq =>
    obtain ⟨hk1, hk2⟩ := hans kq rfl
    obtain ⟨o1, o2⟩ := co3
    obtain ⟨i1, i2, i3, i4⟩ := g4
    have RK := B.vf g3 R2.1 i2
    rw [i3, i4, h70] at RK
    have hT1' : (T1.1, T1.2.1, T1.2.2) = T1 := rfl
    rw [hT1'] at RK
    have M2 := M.vf (m' := m) (d' := d') g3 rfl g1 g2
    refine trob (k := kq) (k0 := k0) (j0 := 0) (r := Int32.ofNat 0) (by omega) (by omega) hk0 (by omega) (CO.cy.low (m' := m) (d' := d') hJ) (by rw [hmd]; omega) RK M2 ⟨by omega, by rw [hmd]; omega⟩ (by intro q; cases q) ?_ (K.kt (J := JK) (I' := I') rfl hT1a ⟨hT1b, by rw [hmd]; exact Nat.le_refl _⟩ (by omega)) (fun t3 ht => hround t3 ?_) (hsno kq i3 (by omega)) (by omega)
    · rw [if_neg (by omega)]
      rfl
    · rw [o1]
      exact c_giveT (by omega) ht
  | inr x =>
    obtain ⟨o1, o2, o3, o4⟩ := co3
    obtain ⟨i1, i2, i3, i4, i5⟩ := g4
    by_cases c : T1.2.1 + ctV (vw x) ≤ 3000
    · rw [if_pos c] at i5
      obtain ⟨t3, v1, v2, v3⟩ := CO.give (N := N) (X := X) (m' := m + 1) (d' := 0) (q := pl) hlC hJ hjn o1 o3 c
      have RK := B.vf g3 R2.1 i4
      rw [i5.1, i5.2, h66s, h67s] at RK
      have M2 := M.vf (m' := m + 1) (d' := 0) g3 rfl g1 g2
      have eR : rStk ((m + 1, 0, vs, (0, [x], 0) :: I') :: G) = x :: rStk ((m, d', vs, I') :: G) := rStk_cons (m' := m) (d' := d')
      have M3 : RM0 s2 f' h code ((m + 1, 0, vs, (0, [x], 0) :: I') :: G) sh := by
        refine RM0.mv M2 (fun _ _ => rfl) rfl rfl (Nat.le_refl _) (fun _ _ => rfl) g2 ?_ rfl (wStk_cons (by show ¬ ((0 : Nat) = 2 ∨ (0 : Nat) = 3 ∨ (0 : Nat) = 6 ∨ (0 : Nat) = 8); decide))
        rw [eR]
        exact ⟨i3, M2.1⟩
      refine goOn (k := k0) (j := 1) (by omega) (hround t3 v1) (hsok (i5.1.trans h66s)) v2 ?_ ?_ ⟨RK, M3, by rw [eR]; exact i2⟩ ⟨by omega, ?_⟩ ?_ (K.to P (by omega) (I' := (0, [x], 0) :: I') hly ?_ ⟨okV, hok⟩ rfl ?_ K.2.2.2.2.1 ⟨hT1a.1, hT1a.2.1, c, hT1a.2.2.2.1, ?_⟩ ?_ ?_)
      · show u' ≤ 100000 + 20 * (T1.2.1 + ctV (vw x))
        rw [hmd, Nat.mul_add, ← Nat.add_assoc]
        exact Nat.le_trans o2 (Nat.add_le_add_right C2 _)
      · rw [v3, co17, hpc]
        rfl
      · show f' ≤ 154250 + (T1.2.1 + ctV (vw x))
        rw [hmd, ← Nat.add_assoc]
        exact Nat.le_trans i1 (Nat.add_le_add_right R2.2 _)
      · rw [g3.1.1 69 (by unfold vfI; omega), h69]
        rfl
      · intro y hy
        rcases List.mem_cons.mp hy with e | e
        · rw [e]; exact Nat.zero_le _
        · exact hpl y e
      · rw [cStk_cons (m' := m) (d' := d)]
        refine gd_c (fun y q => by cases q; exact ⟨o3, o4⟩) (gd_suf (J := JK) K.2.2.2.1)
      · show 300 * T1.2.2.2 ≤ T1.2.1 + ctV (vw x)
        have := hT1a.2.2.2.2
        omega
      · have := hpot x rfl
        have e1 : pvI ((0, [x], 0) :: I') = 1 + pvI I' := rfl
        rw [crL_c, crL_app, e1]
        show k0 + (0 + crL I') + 20 * T.1 + 60 * T.2.1 + pvI (JK ++ I') ≤ crL JK + crL I' + 20 * T1.1 + 60 * (T1.2.1 + ctV (vw x)) + (1 + pvI I')
        rw [hmd]
        omega
      · rw [n5I_c, n5I_app]
        show out.length + 9100 * (0 + n5I I') + 9100 * T.1 ≤ out.length + 9100 * (n5I JK + n5I I') + 9100 * T1.1
        omega
    · rw [if_neg c] at i5
      have RK := B.vf g3 R2.1 i4
      rw [i5.1, i5.2, h70] at RK
      refine end11 (k0 := k0) ((CO.md (c := T1.2.1 + ctV (vw x))).cy) RK (by omega) (fun t3 ht => hround t3 ?_) (hsno 11 i5.1 (by omega)) (by omega) hol
      exact c_giveM CO.2.2.1 o1 o3 CO.1.2.1.2.2.1 hT1a.2.2.1 c ht
end VOP
end
-- ### 98zc.pure.lean.txt
section
/-! ===== PURE: run (106): work on one value or two ===== -/
/-- the troubles that values make -/
def okAn (a : Ans) : Prop := ∀ k, a = .inl k → 1 ≤ k ∧ k < 9
section OKA
variable {x y : Nod} {k b : Nat} {xs : List Nod} {z z' : Int32} {r r' : List Int32} {q : List (List Int32)}
theorem okAn_r : okAn (.inr x) := fun k e => by cases e
theorem okAn_l (h : 1 ≤ k ∧ k < 9) : okAn (.inl k) := fun k' e => by cases e; exact h
theorem okAn_M : okAn (ansM k xs) := by
  unfold ansM
  split
  · exact okAn_r
  · exact okAn_l (by omega)
theorem okAn_T : okAn (ansT k x y) := by
  unfold ansT
  repeat' (first | exact okAn_r | exact okAn_M | exact okAn_l (by omega) | split)
theorem okAn_I : okAn (ansI x y) := by
  unfold ansI
  repeat' (first | exact okAn_r | exact okAn_M | exact okAn_l (by omega) | split)
theorem okAn_L : okAn (ansL xs) := by
  unfold ansL
  repeat' (first | exact okAn_r | exact okAn_M | exact okAn_l (by omega) | split)
theorem okAn_i {c : Prop} [Decidable c] {a a' : Ans} (h : okAn a) (h' : okAn a') : okAn (if c then a else a') := by
  by_cases e : c
  · rw [if_pos e]; exact h
  · rw [if_neg e]; exact h'
theorem okAn_B1 : okAn (ansB1 b x) := by
  unfold ansB1 ansC ansW ansD ansK ansFl ansTr ansGp
  repeat' (first | exact okAn_r | exact okAn_M | exact okAn_l (by omega) | apply okAn_i)
theorem okAn_B2 : okAn (ansB2 b x y) := by
  unfold ansB2 ansG ansJ ansTk ansDr ansX ansP ansF ansPd ansO
  repeat' (first | exact okAn_r | exact okAn_M | exact okAn_l (by omega) | apply okAn_i)
end OKA
section VO2
variable {N : Nat} {X : Nat → Option zz_C} {t0 t t1 t2 : cS} {s0 s s' s1 s2 : mS} {u w f f' p h fu m m' d d' n k b z j jn k0 nb an o : Nat} {code : List Ins} {Fs : List Fn} {T T' T1 : Ty} {out out' : List Int32} {F G : List Fm} {sh sh' S0 : Nat → Option Nod} {vs vs' : List (Option Nod)} {I I' J : List It} {q r pl kk gg a1 b1 c1 : Int32} {v : Int64} {it : It} {x y : Nod} {l : List Nod} {L L' : List Nat} {g : Fn} {a a' : Fm} {ans : Ans} {xs : List Nod}
theorem RXm.rA (R : RXm s0 s h code Fs fu f ((m, d, vs, J ++ I') :: G) sh T out) (hJ : rIt J = xs.reverse) (hT : okTy fu T) (hf : 154242 ≤ f ∧ f ≤ 154250 + T.2.1) (hb : (rStk ((m, d, vs, J ++ I') :: G)).length ≤ 8700) (hx : ∀ x ∈ xs, wfN x ∧ x.1 ≤ 4) : rA s (rStk ((m', d', vs, I') :: G)).length f T.2.1 xs ∧ s.1 51 = Int32.ofNat ((rStk ((m', d', vs, I') :: G)).length + xs.length) := by
  have e := rStk_app (m := m) (d := d) (m' := m') (d' := d') (vs := vs) (J := J) (I := I') (G := G)
  rw [hJ] at e
  have hl : (rStk ((m, d, vs, J ++ I') :: G)).length = (rStk ((m', d', vs, I') :: G)).length + xs.length := by rw [e, List.length_append, List.length_reverse]; omega
  have h51 := R.2.2
  rw [hl] at h51
  have h30 := hT.2.2.1
  refine ⟨⟨⟨h51, fun i hi => ?_⟩, R.2.1.2.2.2.2.2.2.2, R.1.2.2.1.1, R.1.2.1.2.2.1, h30, by omega, by omega, by omega, fun x hx' => (hx x hx').1, fun x hx' => (hx x hx').2⟩, h51⟩
  have hs := R.2.1.1
  rw [e] at hs
  have := hs.get (i := xs.length - 1 - i) (by rw [List.length_append, List.length_reverse]; omega)
  rw [List.getElem_append_left (by rw [List.length_reverse]; omega), List.getElem_reverse] at this
  simp only [List.length_append, List.length_reverse] at this
  rw [show xs.length + (rStk ((m', d', vs, I') :: G)).length - 1 - (xs.length - 1 - i) = (rStk ((m', d', vs, I') :: G)).length + i by omega] at this
  have e2 : xs[xs.length - 1 - (xs.length - 1 - i)]'(by omega) = xs[i] := by
    congr 1
    omega
  rw [e2] at this
  exact this
/-- a look that may go too deep -/
theorem CX.peekA (C : CX t0 t p code Fs fu S0 u w F sh T out) (h2 : (cStk F).length ≤ 20000) : ∃ v, cf_167 N X (Int32.ofNat 2) t = some (t, .inl (some (.long v))) := by
  by_cases c : 2 ≤ (cStk F).length
  · obtain ⟨v, e, -⟩ := C.peek (N := N) (X := X) (k := 2) (by omega) c
    exact ⟨v, e⟩
  · have h8 := C.2.2.2
    generalize (cStk F).length = nc at *
    have c' : nc < 2 := by omega
    have eth := c_thing (N := N) (X := X) (t := t) (k := Int32.ofNat 0) (a := Int32.ofNat 0)
    refine ⟨tg (Int32.ofNat 0) (Int32.ofNat 0), ?_⟩
    unfold cf_167 cf_167_0 cf_167_4 cf_167_26 cf_167_31
    simp (disch := omega) only [ev_S, ev_C, ↓reduceIte, Nat.reduceEqDiff, Nat.reduceLeDiff, Nat.reduceAdd, Nat.reduceMul, Nat.reduceSub, reduceCtorEq, l32_0, l32_1, l32_2, l32_3, l32_4, l32_5, l32_6, l32_7, l32_8, l32_9, l32_10, l32_11, l32_12, l32_13, l32_14, l32_15, l32_16, l32_17, l32_18, l32_19, l32_20, l32_21, l32_22, l32_23, l32_24, l32_25, l32_26, l32_27, l32_28, l32_29, l32_33, l32_40, l32_41, l32_44, l32_45, l32_59, l32_61, l32_91, l32_93, l32_123, l32_125, h8, c', eth]
/-- an instruction that works on values, with a step -/
theorem vopS (hN : 170000 ≤ N) (C : CS t0 t p code Fs fu S0 ((m, 0, vs, I) :: G) sh T out) (R : RSm s0 s h code Fs fu ((m, 0, vs, I) :: G) sh T out) (K : CK code Fs fu ((m, 0, vs, I) :: G) sh T out n)
    (ec : cI code (posC code m) (inA code m) = [(Int32.ofNat an, gg, pl)]) (han : 19 ≤ an ∧ an ≤ 25) (er : rI h code (inA code m) = [(Int32.ofNat o, a1, b1, c1, pl)]) (ho : 4 ≤ o ∧ o ≤ 9)
    (hcl : clen (inA code m) = 1) (hrlen : rlen (inA code m) = 1) (h20 : ¬ (inA code m).1 = 20)
    (eI : I = J ++ I') (hJ : ∀ y ∈ J, y.1 = 0 ∨ y.1 = 1) (hR : rIt J = xs.reverse) (hjn : (cIt J).length = jn) (hef : eff (inA code m) (kd I) = some (0 :: kd I'))
    (hclass : ∀ (tS : cS) (u' : Nat), u' ≤ 162000 → CX t0 tS p code Fs fu S0 u' 0 ((m, 0, vs, I) :: G) sh (T.1 + 1, T.2) out → ∃ t2 v, cF tS t2 u' v ans ∧ ∀ va vb, cf_167 N X (Int32.ofNat 1) tS = some (tS, .inl (some (.long va))) → cf_167 N X (Int32.ofNat 2) tS = some (tS, .inl (some (.long vb))) → ∀ t3, cf_144 N X v (Int32.ofNat jn) pl t2 = some (t3, .inl none) → cf_143_19 N X (Int32.ofNat an) gg pl va vb tS = some (t3, .inl none))
    (href : ∀ (sS : mS) (nb f' : Nat) kx, kx < 8000 → rA sS nb f' T.2.1 xs → LayN (sS.2.2.1 47) (Rf f') 154240 (nR []) → sS.1 51 = Int32.ofNat (nb + xs.length) → sS.2.2.1 23 kx = Int32.ofNat o → sS.2.2.1 24 kx = a1 → sS.2.2.1 25 kx = b1 → ∃ s2, mf_316 N (Int32.ofNat kx) sS = some (s2, none) ∧ rE sS s2 nb f' T.2.1 ans)
    (hok : okAn ans) (hpot : ∀ x, ans = .inr x → pvI (J ++ I') ≤ 60 * ctV (vw x) + 19 + pvI I') (hxs : ∀ x ∈ xs, wfN x ∧ x.1 ≤ 4) : GO N X t0 s0 p h code Fs fu S0 t s n := by
  obtain ⟨u, w, f, g, C1, C2, C4, R1, R2, R4, P, hm, hcx, hrl, hG, ⟨b1', b2, b6⟩, hT, hol⟩ := open0 C R K
  obtain ⟨D1, D2⟩ := C1.fet (N := N) (X := X) (n := n) (l1 := []) rfl C4 hm ec hcx (by omega)
  obtain ⟨s1, kx, y1, y2, y3, y4, y5, y6, ⟨y7, y8, y9, y10⟩, y11, y12⟩ := R1.fet (N := N) (l1 := []) hG rfl R4 hm er hrl
  have hop : mf_313 N (Int32.ofNat kx) s1 = mf_313_185 N (Int32.ofNat kx) s1 := by
    have hv : o = 4 ∨ o = 5 ∨ o = 6 ∨ o = 7 ∨ o = 8 ∨ o = 9 := by omega
    rcases hv with e | e | e | e | e | e <;> subst e
    · exact r_op4 y3 y7
    · exact r_op5 y3 y7
    · exact r_op6 y3 y7
    · exact r_op7 y3 y7
    · exact r_op8 y3 y7
    · exact r_op9 y3 y7
  have hac : ¬ (Int32.ofNat an) < Int32.ofNat 19 := by rw [ev_lt (by omega) (by omega)]; omega
  have hac2 : ¬ (Int32.ofNat an) < Int32.ofNat 13 := by rw [ev_lt (by omega) (by omega)]; omega
  have hac3 : ¬ Int32.ofNat 26 ≤ Int32.ofNat an := by rw [ev_le (by omega) (by omega)]; omega
  by_cases hs : T.1 < fu
  · obtain ⟨hl, hp⟩ := K.ly0
    have hly := lyo_s hm hl
    rw [hef] at hly
    have h30 := hT.2.2.1
    have hst := c_step (N := N) (X := X) (t := jI t 49 17 (Int32.ofNat (posC code m + 0 + 1))) (q := pl) D1.1.2.1.1 D1.1.2.1.2.1 hT.1 hs
    obtain ⟨F1, F2⟩ := (D1.st).forget (N := N) (X := X)
    obtain ⟨t2, v, G1, G2⟩ := hclass _ u (by omega) F2
    have hpos : 1 ≤ (cStk ((m, 0, vs, I) :: G)).length ∨ (cStk ((m, 0, vs, I) :: G)).length = 0 := by omega
    have hp2 := F2.peekA (N := N) (X := X) (by omega)
    have hp1 : ∃ va, cf_167 N X (Int32.ofNat 1) (jI (jI (jI t 49 17 (Int32.ofNat (posC code m + 0 + 1))) 48 2 (Int32.ofNat (T.1 + 1))) 42 3 (Int32.ofNat 0)) = some (jI (jI (jI t 49 17 (Int32.ofNat (posC code m + 0 + 1))) 48 2 (Int32.ofNat (T.1 + 1))) 42 3 (Int32.ofNat 0), .inl (some (.long va))) := by
      rcases hpos with c | c
      · obtain ⟨va, e, -⟩ := F2.peek (N := N) (X := X) (k := 1) (by omega) c
        exact ⟨va, e⟩
      · have h8 := F2.2.2.2
        rw [c] at h8
        have eth := c_thing (N := N) (X := X) (t := jI (jI (jI t 49 17 (Int32.ofNat (posC code m + 0 + 1))) 48 2 (Int32.ofNat (T.1 + 1))) 42 3 (Int32.ofNat 0)) (k := Int32.ofNat 0) (a := Int32.ofNat 0)
        refine ⟨tg (Int32.ofNat 0) (Int32.ofNat 0), ?_⟩
        clear F1 F2 G1 G2 hp2 hst D1 D2
        generalize jI (jI (jI t 49 17 (Int32.ofNat (posC code m + 0 + 1))) 48 2 (Int32.ofNat (T.1 + 1))) 42 3 (Int32.ofNat 0) = tq at *
        unfold cf_167 cf_167_0 cf_167_4 cf_167_26 cf_167_31
        simp (disch := omega) only [ev_S, ev_C, ↓reduceIte, Nat.reduceEqDiff, Nat.reduceLeDiff, Nat.reduceAdd, Nat.reduceMul, Nat.reduceSub, reduceCtorEq, l32_0, l32_1, l32_2, l32_3, l32_4, l32_5, l32_6, l32_7, l32_8, l32_9, l32_10, l32_11, l32_12, l32_13, l32_14, l32_15, l32_16, l32_17, l32_18, l32_19, l32_20, l32_21, l32_22, l32_23, l32_24, l32_25, l32_26, l32_27, l32_28, l32_29, l32_33, l32_40, l32_41, l32_44, l32_45, l32_59, l32_61, l32_91, l32_93, l32_123, l32_125, h8, eth]
    obtain ⟨vb, hp2⟩ := hp2
    obtain ⟨va, hp1⟩ := hp1
    have Rst := y4.st
    have Rst' := Rst
    rw [eI] at Rst'
    have hT1 : okTy fu (T.1 + 1, T.2) := ⟨hT.1, hs, hT.2.2⟩
    obtain ⟨A1, A2⟩ := Rst'.rA (m' := m) (d' := 0) hR hT1 R2 (by rw [← eI]; exact b1') hxs
    obtain ⟨s2, S1, S2⟩ := href _ _ f kx y3 A1 Rst.2.1.2.2.2.2.1 A2 y7 y8 y9
    have hstep := r_step (N := N) y4 hT.1 hs
    have h66 : (mI s1 60 (Int32.ofNat (T.1 + 1))).1 66 = Int32.ofNat 0 := Rst.1.2.2.1.1
    have hrun : mf_313 N (Int32.ofNat kx) s1 = some (s2, none) := by
      rw [hop]
      clear S2 A1 A2 Rst Rst'
      generalize mI s1 60 (Int32.ofNat (T.1 + 1)) = sS at *
      unfold mf_313_185 mf_313_189 mf_313_196 mf_313_201
      simp (disch := omega) only [ev_S, ev_P, ↓reduceIte, Nat.reduceEqDiff, Nat.reduceLeDiff, Nat.reduceAdd, Nat.reduceMul, Nat.reduceSub, reduceCtorEq, l32_0, l32_1, l32_2, l32_3, l32_4, l32_5, l32_6, l32_7, l32_8, l32_9, l32_10, l32_11, l32_12, l32_13, l32_14, l32_15, l32_16, l32_17, l32_18, l32_19, l32_20, l32_21, l32_22, l32_23, l32_24, l32_25, l32_26, l32_27, l32_28, l32_29, l32_33, l32_40, l32_41, l32_44, l32_45, l32_59, l32_61, l32_91, l32_93, l32_123, l32_125, hstep, h66, S1]
    have hJ3 : ∀ y ∈ J, ¬ y.1 = 3 := fun y hy => by have := hJ y hy; omega
    have hwJ : wStk ((m, 0, vs, J ++ I') :: G) = wStk ((m, 0, vs, I') :: G) := by
      show wIt _ _ (J ++ I') ++ _ = _
      have key : ∀ {J : List It} {b d : Nat}, (∀ y ∈ J, y.1 = 0 ∨ y.1 = 1) → wIt b d (J ++ I') = wIt b d I' := by
        intro J
        induction J with
        | nil => intro b d _; rfl
        | cons x J ih =>
          intro b d hq
          have := hq x List.mem_cons_self
          show wIt b d (x :: (J ++ I')) = _
          rw [show wIt b d (x :: (J ++ I')) = wIt b d (J ++ I') from if_neg (by omega)]
          exact ih (fun y hy => hq y (List.mem_cons_of_mem _ hy))
      rw [key hJ]
      rfl
    have Mlow : RM0 (mI s1 60 (Int32.ofNat (T.1 + 1))) f h code ((m, 0, vs, I') :: G) sh := by
      refine RM0.mv Rst'.2.1 (fun _ _ => rfl) rfl rfl (Nat.le_refl _) (fun _ _ => rfl) Rst'.2.1.2.2.2.2.2.2.2 ?_ rfl hwJ.symm
      have := Rst'.2.1.1
      rw [rStk_app (m' := m) (d' := 0)] at this
      exact this.app
    have hpJ : plI I' := fun y hy => hp y (by rw [eI]; exact List.mem_append_right _ hy)
    have hoJ : okIs code g.2.2.2.2.1 g.2.2.2.2.2 I' := by
      have := P.2.2.2.1
      rw [eI] at this
      have key : ∀ {J : List It} {b z : Nat}, okIs code b z (J ++ I') → okIs code b z I' := by
        intro J
        induction J with
        | nil => intro b z q; exact q
        | cons x J ih => intro b z q; exact ih q.2
      exact key this
    subst eI
    refine vop (k0 := 1) (T1 := (T.1 + 1, T.2)) (d' := 0) (jn := jn) (J := J) hN (by omega) K P (by omega) h20 hJ3 hjn ⟨hT1, by show T.1 ≤ T.1 + 1; omega, rfl⟩ hly hpJ hoJ F2 C2 G1 ?_ (fun t3 ht Q => ?_) Rst.1 Mlow R2 y6 ?_ S2 hok (fun e => y11 s2 hrun e) (fun kq e1 e2 => y12 s2 kq hrun e1 e2) ?_ hol
    · show Int32.ofNat (posC code m + 0 + 1) = _
      rw [posC_s hm, hcl]
    · rw [D2 Q]
      refine c_rdSW hac hac2 hac3 hst ?_
      have G3 := G2 va vb hp1 hp2 t3 ht
      unfold cf_143 cf_143_0 cf_143_7 cf_143_12
      clear G2 G1 F2 D1 D2
      generalize jI (jI t 49 17 (Int32.ofNat (posC code m + 0 + 1))) 48 2 (Int32.ofNat (T.1 + 1)) = tq at *
      simp (disch := omega) only [ev_S, ev_C, ↓reduceIte, Nat.reduceEqDiff, Nat.reduceLeDiff, Nat.reduceAdd, Nat.reduceMul, Nat.reduceSub, reduceCtorEq, l32_0, l32_1, l32_2, l32_3, l32_4, l32_5, l32_6, l32_7, l32_8, l32_9, l32_10, l32_11, l32_12, l32_13, l32_14, l32_15, l32_16, l32_17, l32_18, l32_19, l32_20, l32_21, l32_22, l32_23, l32_24, l32_25, l32_26, l32_27, l32_28, l32_29, l32_33, l32_40, l32_41, l32_44, l32_45, l32_59, l32_61, l32_91, l32_93, l32_123, l32_125, F1, hp1, hp2, G3]
    · show s1.1 69 = _
      rw [y5, y1, posR_s hm, hrlen]
      rfl
    · intro x hx
      have := hpot x hx
      show 1 + 20 * T.1 + pvI (J ++ I') ≤ crL J + 20 * (T.1 + 1) + 60 * ctV (vw x) + 1 + pvI I'
      omega
  · obtain ⟨e1, e2, e3⟩ := r_nost (N := N) y4 hT.1 hs hT.2.1
    rw [y6] at e1 e2 e3
    refine nofuel (l1 := 0) (j0 := 0) C1 D2 hac hT hs e2 e3 (y12 _ 10 ?_ rfl (by omega)) hol hG
    rw [hop]
    have h66 : (trb s1 (Int32.ofNat 10) pl).1 66 = Int32.ofNat 10 := rfl
    clear e2 e3
    generalize trb s1 (Int32.ofNat 10) pl = sT at *
    unfold mf_313_185 mf_313_189 mf_313_201
    simp (disch := omega) only [ev_S, ev_P, ↓reduceIte, Nat.reduceEqDiff, Nat.reduceLeDiff, Nat.reduceAdd, Nat.reduceMul, Nat.reduceSub, reduceCtorEq, l32_0, l32_1, l32_2, l32_3, l32_4, l32_5, l32_6, l32_7, l32_8, l32_9, l32_10, l32_11, l32_12, l32_13, l32_14, l32_15, l32_16, l32_17, l32_18, l32_19, l32_20, l32_21, l32_22, l32_23, l32_24, l32_25, l32_26, l32_27, l32_28, l32_29, l32_33, l32_40, l32_41, l32_44, l32_45, l32_59, l32_61, l32_91, l32_93, l32_123, l32_125, e1, h66]
end VO2
end
-- ### 98zd.pure.lean.txt
section
/-! ===== PURE: run (107): instructions: signs, index, built-ins, literals ===== -/
section IN9
variable {N : Nat} {X : Nat → Option zz_C} {t0 t t1 t2 : cS} {s0 s s' s1 s2 : mS} {u w f f' p h fu m m' d d' n k b z j jn k0 nb an o : Nat} {code : List Ins} {Fs : List Fn} {T T' T1 : Ty} {out out' : List Int32} {F G : List Fm} {sh sh' S0 : Nat → Option Nod} {vs vs' : List (Option Nod)} {I I' J : List It} {q r pl kk gg a1 b1 c1 : Int32} {v va vb : Int64} {it : It} {x y : Nod} {l : List Nod} {L L' : List Nat} {g : Fn} {a a' : Fm} {ans : Ans} {xs : List Nod}
theorem pv_app : ∀ {J : List It}, (∀ y ∈ J, y.1 = 0 ∨ y.1 = 1) → pvI (J ++ I') = J.length + pvI I'
  | [], _ => (Nat.zero_add _).symm
  | a :: J, hh => by
    have h1 := hh a List.mem_cons_self
    have ih := pv_app (J := J) (fun y hy => hh y (List.mem_cons_of_mem _ hy))
    show (if a.1 = 0 ∨ a.1 = 1 ∨ a.1 = 7 then 1 + pvI (J ++ I') else _) = _
    rw [if_pos (by omega), ih, List.length_cons]
    omega
/-- values on top, by the layout -/
theorem topV (K : CK code Fs fu ((m, 0, vs, I) :: G) sh T out n) (P : PL code Fs m vs I g) (hp : pop0 k (kd I) = some L) : ∃ (xs : List Nod) (J I' : List It), I = J ++ I' ∧ xs.length = k ∧ rIt J = xs.reverse ∧ cIt J = xs.reverse.map some ∧ (∀ y ∈ J, y.1 = 0) ∧ J.length = k ∧ kd I' = L ∧ ∀ x ∈ xs, wfN x ∧ x.1 ≤ 4 := by
  obtain ⟨xs, J, I', e1, e2, e3, e4, e5, e6, e7, e8⟩ := popV P.2.2.2.1 hp
  refine ⟨xs, J, I', e1, e2, e3, e4, e5, e6, e7, fun x hx => K.2.2.2.1 x ?_⟩
  rw [e1, cStk_app (m' := m) (d' := 0), e4]
  exact List.mem_append_left _ (List.mem_map.mpr ⟨x, List.mem_reverse.mpr hx, rfl⟩)
theorem two_xs (h : xs.length = 2) : ∃ x y, xs = [x, y] := by
  match xs, h with
  | [x, y], _ => exact ⟨x, y, rfl⟩
theorem one_xs (h : xs.length = 1) : ∃ x, xs = [x] := by
  match xs, h with
  | [x], _ => exact ⟨x, rfl⟩
theorem sg_ok {k : Nat} (h : okS k ∧ lv k ≤ 3) : isS (sgv k) ∧ sgC (sgv k) = k := by
  obtain ⟨h1, h2⟩ := h
  have key : k = 43 ∨ k = 45 ∨ k = 42 ∨ k = 47 ∨ k = 37 ∨ k = 38 ∨ k = 124 ∨ k = 317 ∨ k = 289 ∨ k = 60 ∨ k = 316 ∨ k = 62 ∨ k = 318 := by
    unfold lv at h2
    repeat' (split at h2)
    all_goals omega
  rcases key with e | e | e | e | e | e | e | e | e | e | e | e | e <;> subst e <;> exact ⟨by unfold isS sgv; decide, by decide⟩
theorem effM {c : Ins} (ho : c.1 = 5 ∨ c.1 = 7) (e : eff c L = some L') : ∃ M, pop0 2 L = some M ∧ L' = 0 :: M := by
  obtain ⟨o', jj, r0, aa, pp, xx, yy⟩ := c
  have key : (pop0 2 L).map (0 :: ·) = some L' := by
    rcases ho with z | z
    · have z : o' = 5 := z
      subst z; exact e
    · have z : o' = 7 := z
      subst z; exact e
  cases hM : pop0 2 L with
  | none => rw [hM] at key; cases key
  | some M =>
    rw [hM] at key
    exact ⟨M, rfl, (Option.some.inj key).symm⟩
theorem i_5 (hN : 170000 ≤ N) (C : CS t0 t p code Fs fu S0 ((m, 0, vs, I) :: G) sh T out) (R : RSm s0 s h code Fs fu ((m, 0, vs, I) :: G) sh T out) (K : CK code Fs fu ((m, 0, vs, I) :: G) sh T out n) (ho : (inA code m).1 = 5) : GO N X t0 s0 p h code Fs fu S0 t s n := by
  obtain ⟨g, P⟩ := K.pl0
  obtain ⟨L', z3, z4⟩ := K.nxt
  obtain ⟨M, hM1, hM2⟩ := effM (Or.inl ho) z3
  obtain ⟨xs, J, I', e1, e2, e3, e4, e5, e6, e7, e8⟩ := topV K P hM1
  obtain ⟨x, y, rfl⟩ := two_xs e2
  obtain ⟨hs1, hs2⟩ := sg_ok (P.2.2.2.2.1.2.1 ho)
  obtain ⟨ec, er⟩ := cI_5 (code := code) (own := posC code m) (e := h) ho
  have hx := e8 x List.mem_cons_self
  have hy := e8 y (List.mem_cons_of_mem _ List.mem_cons_self)
  generalize hsg : sgv (inA code m).2.2.1 = sg at *
  generalize hsr : (inA code m).2.2.1 = sr at *
  refine vopS (an := 19) (o := 5) (jn := 2) (xs := [x, y]) (ans := ansT sg x y) hN C R K ec (by omega) er (by omega) (by unfold clen; rw [ho]; rfl) (by unfold rlen; rw [ho]; rfl) (by omega) e1 (fun y hy => Or.inl (e5 y hy)) e3 (by rw [e4]; rfl) (by rw [z3, hM2, e7]) (fun tS u' hu CS1 => ?_) (fun sS nb f' kx hkx A LE A2 A3 A4 A5 => ?_) okAn_T (fun x' hx' => ?_) e8
  · have eC : cStk ((m, 0, vs, I) :: G) = some y :: some x :: cStk ((m, 0, vs, I') :: G) := by
      rw [e1, cStk_app (m' := m) (d' := 0), e4]
      rfl
    obtain ⟨va, p1, p2⟩ := CS1.top1 (N := N) (X := X) eC
    obtain ⟨vb, p3, p4⟩ := CS1.top2 (N := N) (X := X) eC
    obtain ⟨t2, v, q1, q2⟩ := c_two (N := N) (X := X) (sg := sg) hN hs1 CS1.2.2.1 p4 p2 hx.1 hy.1 hu (Nat.zero_le _)
    refine ⟨t2, v, q2.F, fun va' vb' h1 h2 t3 ht => ?_⟩
    rw [p1] at h1
    rw [p3] at h2
    cases h1
    cases h2
    rw [hs2] at q1
    refine c_wk19.trans ?_
    unfold cf_143_88 cf_143_101 cf_143_106 cf_143_296
    simp (disch := omega) only [ev_S, ev_C, ↓reduceIte, Nat.reduceEqDiff, Nat.reduceLeDiff, Nat.reduceAdd, Nat.reduceMul, Nat.reduceSub, reduceCtorEq, l32_0, l32_1, l32_2, l32_3, l32_4, l32_5, l32_6, l32_7, l32_8, l32_9, l32_10, l32_11, l32_12, l32_13, l32_14, l32_15, l32_16, l32_17, l32_18, l32_19, l32_20, l32_21, l32_22, l32_23, l32_24, l32_25, l32_26, l32_27, l32_28, l32_29, l32_33, l32_40, l32_41, l32_44, l32_45, l32_59, l32_61, l32_91, l32_93, l32_123, l32_125, q1, ht]
  · obtain ⟨s2, q1, q2⟩ := r_two (N := N) (sg := sg) hN hs1 A
    refine ⟨s2, ?_, q2⟩
    rw [r_wk5 hkx A3]
    unfold mf_316_55 mf_316_65
    simp (disch := omega) only [ev_S, ev_P, ↓reduceIte, Nat.reduceEqDiff, Nat.reduceLeDiff, Nat.reduceAdd, Nat.reduceMul, Nat.reduceSub, reduceCtorEq, l32_0, l32_1, l32_2, l32_3, l32_4, l32_5, l32_6, l32_7, l32_8, l32_9, l32_10, l32_11, l32_12, l32_13, l32_14, l32_15, l32_16, l32_17, l32_18, l32_19, l32_20, l32_21, l32_22, l32_23, l32_24, l32_25, l32_26, l32_27, l32_28, l32_29, l32_33, l32_40, l32_41, l32_44, l32_45, l32_59, l32_61, l32_91, l32_93, l32_123, l32_125, A4, q1, l32_8000]
  · rw [pv_app (fun y hy => Or.inl (e5 y hy)), e6]
    omega
theorem i_7 (hN : 170000 ≤ N) (C : CS t0 t p code Fs fu S0 ((m, 0, vs, I) :: G) sh T out) (R : RSm s0 s h code Fs fu ((m, 0, vs, I) :: G) sh T out) (K : CK code Fs fu ((m, 0, vs, I) :: G) sh T out n) (ho : (inA code m).1 = 7) : GO N X t0 s0 p h code Fs fu S0 t s n := by
  obtain ⟨g, P⟩ := K.pl0
  obtain ⟨L', z3, z4⟩ := K.nxt
  obtain ⟨M, hM1, hM2⟩ := effM (Or.inr ho) z3
  obtain ⟨xs, J, I', e1, e2, e3, e4, e5, e6, e7, e8⟩ := topV K P hM1
  obtain ⟨x, y, rfl⟩ := two_xs e2
  obtain ⟨ec, er⟩ := cI_7 (code := code) (own := posC code m) (e := h) ho
  have hx := e8 x List.mem_cons_self
  have hy := e8 y (List.mem_cons_of_mem _ List.mem_cons_self)
  refine vopS (an := 21) (o := 7) (jn := 2) (xs := [x, y]) (ans := ansI x y) hN C R K ec (by omega) er (by omega) (by unfold clen; rw [ho]; rfl) (by unfold rlen; rw [ho]; rfl) (by omega) e1 (fun y hy => Or.inl (e5 y hy)) e3 (by rw [e4]; rfl) (by rw [z3, hM2, e7]) (fun tS u' hu CS1 => ?_) (fun sS nb f' kx hkx A LE A2 A3 A4 A5 => ?_) okAn_I (fun x' hx' => ?_) e8
  · have eC : cStk ((m, 0, vs, I) :: G) = some y :: some x :: cStk ((m, 0, vs, I') :: G) := by
      rw [e1, cStk_app (m' := m) (d' := 0), e4]
      rfl
    obtain ⟨va, p1, p2⟩ := CS1.top1 (N := N) (X := X) eC
    obtain ⟨vb, p3, p4⟩ := CS1.top2 (N := N) (X := X) eC
    obtain ⟨t2, v, q1, q2⟩ := c_idx (N := N) (X := X) hN CS1.2.2.1 p4 p2 hx.1 hx.2 hy.1 hu (Nat.zero_le _)
    refine ⟨t2, v, q2.F, fun va' vb' h1 h2 t3 ht => ?_⟩
    rw [p1] at h1
    rw [p3] at h2
    cases h1
    cases h2
    refine c_wk21.trans ?_
    unfold cf_143_109 cf_143_121 cf_143_126 cf_143_296
    simp (disch := omega) only [ev_S, ev_C, ↓reduceIte, Nat.reduceEqDiff, Nat.reduceLeDiff, Nat.reduceAdd, Nat.reduceMul, Nat.reduceSub, reduceCtorEq, l32_0, l32_1, l32_2, l32_3, l32_4, l32_5, l32_6, l32_7, l32_8, l32_9, l32_10, l32_11, l32_12, l32_13, l32_14, l32_15, l32_16, l32_17, l32_18, l32_19, l32_20, l32_21, l32_22, l32_23, l32_24, l32_25, l32_26, l32_27, l32_28, l32_29, l32_33, l32_40, l32_41, l32_44, l32_45, l32_59, l32_61, l32_91, l32_93, l32_123, l32_125, q1, ht]
  · obtain ⟨s2, q1, q2⟩ := r_idx (N := N) hN A
    refine ⟨s2, ?_, q2⟩
    rw [r_wk7 hkx A3]
    unfold mf_316_82 mf_316_86
    simp (disch := omega) only [ev_S, ev_P, ↓reduceIte, Nat.reduceEqDiff, Nat.reduceLeDiff, Nat.reduceAdd, Nat.reduceMul, Nat.reduceSub, reduceCtorEq, l32_0, l32_1, l32_2, l32_3, l32_4, l32_5, l32_6, l32_7, l32_8, l32_9, l32_10, l32_11, l32_12, l32_13, l32_14, l32_15, l32_16, l32_17, l32_18, l32_19, l32_20, l32_21, l32_22, l32_23, l32_24, l32_25, l32_26, l32_27, l32_28, l32_29, l32_33, l32_40, l32_41, l32_44, l32_45, l32_59, l32_61, l32_91, l32_93, l32_123, l32_125, q1]
  · rw [pv_app (fun y hy => Or.inl (e5 y hy)), e6]
    omega
/-- a minus: 3 -/
theorem i_3 (hN : 170000 ≤ N) (C : CS t0 t p code Fs fu S0 ((m, 0, vs, I) :: G) sh T out) (R : RSm s0 s h code Fs fu ((m, 0, vs, I) :: G) sh T out) (K : CK code Fs fu ((m, 0, vs, I) :: G) sh T out n) (ho : (inA code m).1 = 3) : GO N X t0 s0 p h code Fs fu S0 t s n := by
  obtain ⟨g, P⟩ := K.pl0
  obtain ⟨L', z3, z4⟩ := K.nxt
  obtain ⟨M, hM1, hM2⟩ : ∃ M, kd I = 0 :: 1 :: M ∧ L' = 0 :: M := by
    generalize inA code m = c at *
    obtain ⟨o', jj, r0, aa, pp, xx, yy⟩ := c
    have z : o' = 3 := ho
    subst z
    have z3 : (match (generalizing := false) kd I with | 0 :: 1 :: M => some (0 :: M) | _ => none) = some L' := z3
    split at z3
    · rename_i M hM
      exact ⟨M, hM, (Option.some.inj z3).symm⟩
    · cases z3
  obtain ⟨x, j, I1, q1, q2, q3⟩ := kdV0 hM1 P.2.2.2.1
  obtain ⟨a, I', r1, r2, r3⟩ := kdC q2
  subst r1
  obtain ⟨ec, er⟩ := cI_3 (code := code) (own := posC code m) (e := h) ho
  have e1 : I = [((0, [x], j) : It), a] ++ I' := q1
  have hx : wfN x ∧ x.1 ≤ 4 := K.2.2.2.1 x (by rw [q1, cStk_cons (m' := m) (d' := 0)]; exact List.mem_append_left _ List.mem_cons_self)
  have iCa : iC a = [some (nZ 0)] := by
    unfold iC
    rw [if_neg (by omega), if_pos r2]
  have iRa : iR a = [] := by
    unfold iR
    rw [if_neg (by omega), if_neg (by omega)]
  have hJ : ∀ y ∈ [((0, [x], j) : It), a], y.1 = 0 ∨ y.1 = 1 := fun y hy => by
    rcases List.mem_cons.mp hy with e | e
    · rw [e]; exact Or.inl rfl
    · rw [List.mem_singleton.mp e]; exact Or.inr r2
  refine vopS (an := 19) (o := 4) (jn := 2) (xs := [x]) (ans := ansT 45 (nZ 0) x) hN C R K ec (by omega) er (by omega) (by unfold clen; rw [ho]; rfl) (by unfold rlen; rw [ho]; rfl) (by omega) e1 hJ ?_ ?_ (by rw [z3, hM2, r3]) (fun tS u' hu CS1 => ?_) (fun sS nb f' kx hkx A LE A2 A3 A4 A5 => ?_) okAn_T (fun x' hx' => ?_) (fun y hy => by rw [List.mem_singleton.mp hy]; exact hx)
  · show iR _ ++ (iR a ++ []) = _
    rw [iRa]
    rfl
  · show (iC _ ++ (iC a ++ [])).length = _
    rw [iCa]
    rfl
  · have eC : cStk ((m, 0, vs, I) :: G) = some x :: some (nZ 0) :: cStk ((m, 0, vs, I') :: G) := by
      rw [q1, cStk_cons (m' := m) (d' := 0), cStk_cons (m' := m) (d' := 0), iCa]
      rfl
    obtain ⟨va, p1, p2⟩ := CS1.top1 (N := N) (X := X) eC
    obtain ⟨vb, p3, p4⟩ := CS1.top2 (N := N) (X := X) eC
    obtain ⟨t2, v, u1, u2⟩ := c_two (N := N) (X := X) (sg := 45) hN (by unfold isS; omega) CS1.2.2.1 p4 p2 trivial hx.1 hu (Nat.zero_le _)
    refine ⟨t2, v, u2.F, fun va' vb' h1 h2 t3 ht => ?_⟩
    rw [p1] at h1
    rw [p3] at h2
    cases h1
    cases h2
    refine c_wk19.trans ?_
    have u1 : cf_222 N X (Int32.ofNat 45) vb va tS = _ := u1
    unfold cf_143_88 cf_143_101 cf_143_106 cf_143_296
    simp (disch := omega) only [ev_S, ev_C, ↓reduceIte, Nat.reduceEqDiff, Nat.reduceLeDiff, Nat.reduceAdd, Nat.reduceMul, Nat.reduceSub, reduceCtorEq, l32_0, l32_1, l32_2, l32_3, l32_4, l32_5, l32_6, l32_7, l32_8, l32_9, l32_10, l32_11, l32_12, l32_13, l32_14, l32_15, l32_16, l32_17, l32_18, l32_19, l32_20, l32_21, l32_22, l32_23, l32_24, l32_25, l32_26, l32_27, l32_28, l32_29, l32_33, l32_40, l32_41, l32_44, l32_45, l32_59, l32_61, l32_91, l32_93, l32_123, l32_125, u1, ht]
  · obtain ⟨s2, u1, u2⟩ := r_neg (N := N) hN A
    refine ⟨s2, ?_, u2⟩
    rw [r_wk4 hkx A3]
    have A4 : sS.2.2.1 24 kx = Int32.ofNat 45 := A4
    unfold mf_316_44 mf_316_54
    simp (disch := omega) only [ev_S, ev_P, ↓reduceIte, Nat.reduceEqDiff, Nat.reduceLeDiff, Nat.reduceAdd, Nat.reduceMul, Nat.reduceSub, reduceCtorEq, l32_0, l32_1, l32_2, l32_3, l32_4, l32_5, l32_6, l32_7, l32_8, l32_9, l32_10, l32_11, l32_12, l32_13, l32_14, l32_15, l32_16, l32_17, l32_18, l32_19, l32_20, l32_21, l32_22, l32_23, l32_24, l32_25, l32_26, l32_27, l32_28, l32_29, l32_33, l32_40, l32_41, l32_44, l32_45, l32_59, l32_61, l32_91, l32_93, l32_123, l32_125, A4, u1, l32_8000]
  · rw [pv_app hJ]
    show 2 + _ ≤ _
    omega
end IN9
end
-- ### 98ze.pure.lean.txt
section
/-! ===== PURE: run (108): instructions: built-ins and literals ===== -/
section GAT
variable {N : Nat} {X : Nat → Option zz_C} {t0 t t1 t2 : cS} {s0 s s' s1 s2 : mS} {u w f f' p h fu m m' d d' n k b z j jn k0 nb an o : Nat} {code : List Ins} {Fs : List Fn} {T T' T1 : Ty} {out out' : List Int32} {F G : List Fm} {sh sh' S0 : Nat → Option Nod} {vs vs' : List (Option Nod)} {I I' J : List It} {q r pl kk gg a1 b1 c1 : Int32} {v va vb : Int64} {it : It} {x y : Nod} {l : List (Option Nod)} {L L' : List Nat} {g : Fn} {a a' : Fm} {ans : Ans} {xs ys : List Nod}
theorem CX.gG (C : CX t0 t p code Fs fu S0 u 0 F sh T out) (H : cG t t1 u u 0 ys) : CX t0 t1 p code Fs fu S0 u (0 + ys.length) F sh T out ∧ kI t1 49 17 = kI t 49 17 := by
  obtain ⟨c1, c2, c3, c4⟩ := C
  obtain ⟨h1, h2, h3, h4, h5, h6⟩ := H
  refine ⟨⟨c1.W h2, c2.hp h2 (Nat.le_refl _) h4, h1, ?_⟩, h2.1 49 17 (by omega) (by omega)⟩
  rw [h2.1 49 8 (by omega) (by omega)]
  exact c4
/-- the values on top are gathered -/
theorem CX.gather (hN : 170000 ≤ N) (C : CX t0 t p code Fs fu S0 u 0 F sh T out) (hl : (cStk F).length ≤ 20000) (hx : cStk F = xs.reverse.map some ++ l) : ∃ t2, cf_145 N X (Int32.ofNat xs.length) t = some (t2, .inl none) ∧ cG t t2 u u 0 xs := by
  have hlen : xs.length ≤ 20000 := by
    rw [hx, List.length_append, List.length_map, List.length_reverse] at hl
    omega
  have key : ∀ (i Q : Nat) (t1 : cS), i ≤ xs.length → i < Q → cG t t1 u u 0 (xs.take (xs.length - i)) → ∃ t2, cf_145_L1 N X Q 0 (Int32.ofNat i) t1 = some (t2, .inl none) ∧ cG t t2 u u 0 xs := by
    intro i
    induction i with
    | zero =>
      intro Q t1 _ hQ H
      obtain ⟨Q', rfl⟩ : ∃ Q', Q = Q' + 1 := ⟨Q - 1, by omega⟩
      rw [Nat.sub_zero, List.take_length] at H
      refine ⟨t1, ?_, H⟩
      show cf_145_2 N X (cf_145_L1 N X Q') (Int32.ofNat 0) t1 = _
      unfold cf_145_2 cf_145_24
      simp (disch := omega) only [ev_S, ev_C, ↓reduceIte, Nat.reduceEqDiff, Nat.reduceLeDiff, Nat.reduceAdd, Nat.reduceMul, Nat.reduceSub, reduceCtorEq, l32_0, l32_1, l32_2, l32_3, l32_4, l32_5, l32_6, l32_7, l32_8, l32_9, l32_10, l32_11, l32_12, l32_13, l32_14, l32_15, l32_16, l32_17, l32_18, l32_19, l32_20, l32_21, l32_22, l32_23, l32_24, l32_25, l32_26, l32_27, l32_28, l32_29, l32_33, l32_40, l32_41, l32_44, l32_45, l32_59, l32_61, l32_91, l32_93, l32_123, l32_125]
    | succ i ih =>
      intro Q t1 hi hQ H
      obtain ⟨Q', rfl⟩ : ∃ Q', Q = Q' + 1 := ⟨Q - 1, by omega⟩
      have C1 := (C.gG H).1
      have hlx : (cStk F).length = xs.length + l.length := by rw [hx, List.length_append, List.length_map, List.length_reverse]
      obtain ⟨v, e1, e2⟩ := C1.peek (N := N) (X := X) (k := i + 1) (by omega) (by omega)
      have e3 : (cStk F)[i + 1 - 1]'(by omega) = some (xs[xs.length - 1 - i]'(by omega)) := by
        have : (cStk F)[i]? = some (some (xs[xs.length - 1 - i]'(by omega))) := by
          rw [hx, List.getElem?_append_left (by rw [List.length_map, List.length_reverse]; omega), List.getElem?_map, List.getElem?_eq_getElem (by rw [List.length_reverse]; omega), List.getElem_reverse]
          rfl
        rw [List.getElem?_eq_getElem (by omega)] at this
        exact Option.some.inj this
      rw [e3] at e2
      have e2 : cN (cel t1) u v (xs[xs.length - 1 - i]'(by omega)) := e2
      obtain ⟨t3, g1, g2⟩ := H.put (N := N) (X := X) (by rw [List.length_take]; omega) e2
      have e4 : xs.take (xs.length - (i + 1)) ++ [xs[xs.length - 1 - i]'(by omega)] = xs.take (xs.length - i) := by
        have := List.take_append_getElem (l := xs) (i := xs.length - (i + 1)) (by omega)
        rw [show xs.length - (i + 1) + 1 = xs.length - i by omega] at this
        rw [← this]
        congr 2
        simp only [show xs.length - 1 - i = xs.length - (i + 1) by omega]
      rw [e4] at g2
      obtain ⟨t4, k1, k2⟩ := ih Q' t3 (by omega) (by omega) g2
      refine ⟨t4, ?_, k2⟩
      rw [← k1]
      show cf_145_2 N X (cf_145_L1 N X Q') (Int32.ofNat (i + 1)) t1 = _
      have n1 : ¬ i + 1 ≤ 0 := by omega
      have sb : Int32.ofNat (i + 1) + -Int32.ofNat 1 = Int32.ofNat i := by
        rw [← Int32.sub_eq_add_neg, ← Int32.ofNat_sub _ _ (by omega)]
        rfl
      unfold cf_145_2 cf_145_6 cf_145_15 cf_145_18
      simp (disch := omega) only [ev_S, ev_C, ↓reduceIte, Nat.reduceEqDiff, Nat.reduceLeDiff, Nat.reduceAdd, Nat.reduceMul, Nat.reduceSub, reduceCtorEq, l32_0, l32_1, l32_2, l32_3, l32_4, l32_5, l32_6, l32_7, l32_8, l32_9, l32_10, l32_11, l32_12, l32_13, l32_14, l32_15, l32_16, l32_17, l32_18, l32_19, l32_20, l32_21, l32_22, l32_23, l32_24, l32_25, l32_26, l32_27, l32_28, l32_29, l32_33, l32_40, l32_41, l32_44, l32_45, l32_59, l32_61, l32_91, l32_93, l32_123, l32_125, n1, e1, g1, sb]
  obtain ⟨t2, k1, k2⟩ := key xs.length N t (Nat.le_refl _) (by omega) (by rw [Nat.sub_self, List.take_zero]; exact cG.nil C.2.2.1)
  exact ⟨t2, k1, k2⟩
theorem c_numb (hX : oX N X) (hb : b < 28) : cf_248 N X (Int32.toInt64 (Int32.ofNat (b + 11))) t = some (t, .inl (some (.ref (wrdV b)))) := by
  have hl := hX.1
  have hr := (hX.2.1 (b + 11) (by omega)).1
  have z0 : (0 : Int64) = Int64.ofNat 0 := rfl
  have q1 := lg_lt0 (a := b + 11) (b := 0) (by omega) (by omega)
  have q2 := lg_ge (a := b + 11) (b := 41) (by omega) (by omega)
  have q3 : Int32.toInt64 (Int32.ofNat 41) = Int64.ofNat 41 := i64of32 (by omega)
  have q4 : Int32.toInt64 (Int32.ofNat (b + 11)) = Int64.ofNat (b + 11) := i64of32 (by omega)
  rw [q4]
  unfold cf_248 cf_248_0 cf_248_6 cf_248_16 cf_248_28
  simp (disch := omega) only [ev_S, ev_C, ↓reduceIte, Nat.reduceEqDiff, Nat.reduceLeDiff, Nat.reduceAdd, Nat.reduceMul, Nat.reduceSub, reduceCtorEq, l32_0, l32_1, l32_2, l32_3, l32_4, l32_5, l32_6, l32_7, l32_8, l32_9, l32_10, l32_11, l32_12, l32_13, l32_14, l32_15, l32_16, l32_17, l32_18, l32_19, l32_20, l32_21, l32_22, l32_23, l32_24, l32_25, l32_26, l32_27, l32_28, l32_29, l32_33, l32_40, l32_41, l32_44, l32_45, l32_59, l32_61, l32_91, l32_93, l32_123, l32_125, z0, q1, hl, ev_b32, q3, q2, Int64.toInt32_ofNat', hr]
  rw [show wrdV b = zz_out + (b + 11 + 1) by unfold wrdV; omega]
theorem effJ {c : Ins} (ho : c.1 = 6 ∨ c.1 = 8) (e : eff c L = some L') : ∃ M, pop0 c.2.1 L = some M ∧ L' = 0 :: M := by
  obtain ⟨o', jj, r0, aa, pp, xx, yy⟩ := c
  have key : (pop0 jj L).map (0 :: ·) = some L' := by
    rcases ho with z | z
    · have z : o' = 6 := z
      subst z; exact e
    · have z : o' = 8 := z
      subst z; exact e
  show ∃ M, pop0 jj L = some M ∧ L' = 0 :: M
  cases hM : pop0 jj L with
  | none => rw [hM] at key; cases key
  | some M =>
    rw [hM] at key
    exact ⟨M, rfl, (Option.some.inj key).symm⟩
theorem ct_M (hok : mkOk k xs) (e : ansM k xs = .inr x) : xs.length ≤ ctV (vw x) := by
  unfold ansM at e
  split at e
  · rename_i y hy
    cases e
    have := (mk_grw hok hy).1
    have hk := mkOk.kk hok
    have : 1 ≤ wk k := by rcases hk with rfl | rfl | rfl <;> decide
    have h2 : xs.length ≤ wk k * xs.length := Nat.le_mul_of_pos_left _ this
    omega
  · cases e
end GAT
end
-- ### 98zf.pure.lean.txt
section
/-! ===== PURE: run (109): instructions: literals, built-ins ===== -/
section IN10
variable {N : Nat} {X : Nat → Option zz_C} {t0 t t1 t2 : cS} {s0 s s' s1 s2 : mS} {u w f f' p h fu m m' d d' n k b z j jn k0 nb an o : Nat} {code : List Ins} {Fs : List Fn} {T T' T1 : Ty} {out out' : List Int32} {F G : List Fm} {sh sh' S0 : Nat → Option Nod} {vs vs' : List (Option Nod)} {I I' J : List It} {q r pl kk gg a1 b1 c1 : Int32} {v va vb : Int64} {it : It} {x y : Nod} {l : List (Option Nod)} {L L' : List Nat} {g : Fn} {a a' : Fm} {ans : Ans} {xs ys : List Nod}
theorem i_6 (hN : 170000 ≤ N) (C : CS t0 t p code Fs fu S0 ((m, 0, vs, I) :: G) sh T out) (R : RSm s0 s h code Fs fu ((m, 0, vs, I) :: G) sh T out) (K : CK code Fs fu ((m, 0, vs, I) :: G) sh T out n) (ho : (inA code m).1 = 6) : GO N X t0 s0 p h code Fs fu S0 t s n := by
  obtain ⟨g, P⟩ := K.pl0
  obtain ⟨L', z3, z4⟩ := K.nxt
  obtain ⟨M, hM1, hM2⟩ := effJ (Or.inl ho) z3
  obtain ⟨xs, J, I', e1, e2, e3, e4, e5, e6, e7, e8⟩ := topV K P hM1
  obtain ⟨ec, er⟩ := cI_6 (code := code) (own := posC code m) (e := h) ho
  have hj : (inA code m).2.1 ≤ 2000 := P.2.2.2.2.1.2.2.2.2.2.1 ho
  have hbd := K.bd
  rw [← e2] at hj ec er
  refine vopS (an := 20) (o := 6) (jn := xs.length) (xs := xs) (ans := ansL xs) hN C R K ec (by omega) er (by omega) (by unfold clen; rw [ho]; rfl) (by unfold rlen; rw [ho]; rfl) (by omega) e1 (fun y hy => Or.inl (e5 y hy)) e3 (by rw [e4, List.length_map, List.length_reverse]) (by rw [z3, hM2, e7]) (fun tS u' hu CS1 => ?_) (fun sS nb f' kx hkx A LE A2 A3 A4 A5 => ?_) okAn_L (fun x' hx' => ?_) e8
  · have eC : cStk ((m, 0, vs, I) :: G) = xs.reverse.map some ++ cStk ((m, 0, vs, I') :: G) := by
      rw [e1, cStk_app (m' := m) (d' := 0), e4]
    obtain ⟨t1, g1, g2⟩ := CS1.gather (N := N) (X := X) hN (by omega) eC
    obtain ⟨t2, v, q1, q2⟩ := c_lit (N := N) (X := X) hN g2 (fun x hx => (e8 x hx).1) (fun x hx => (e8 x hx).2) (by omega) hu
    refine ⟨t2, v, q2.F, fun va' vb' h1 h2 t3 ht => ?_⟩
    refine c_wk20.trans ?_
    have q1 : cf_127 N X (Int32.ofNat 1) (Int32.ofNat 0) t1 = _ := q1
    unfold cf_143_177 cf_143_182 cf_143_192 cf_143_197 cf_143_296
    simp (disch := omega) only [ev_S, ev_C, ↓reduceIte, Nat.reduceEqDiff, Nat.reduceLeDiff, Nat.reduceAdd, Nat.reduceMul, Nat.reduceSub, reduceCtorEq, l32_0, l32_1, l32_2, l32_3, l32_4, l32_5, l32_6, l32_7, l32_8, l32_9, l32_10, l32_11, l32_12, l32_13, l32_14, l32_15, l32_16, l32_17, l32_18, l32_19, l32_20, l32_21, l32_22, l32_23, l32_24, l32_25, l32_26, l32_27, l32_28, l32_29, l32_33, l32_40, l32_41, l32_44, l32_45, l32_59, l32_61, l32_91, l32_93, l32_123, l32_125, g1, q1, ht]
  · obtain ⟨s2, q1, q2⟩ := r_lit (N := N) hN A (by omega)
    refine ⟨s2, ?_, q2⟩
    rw [r_wk6 hkx A3]
    have sb : Int32.ofNat (nb + xs.length) - Int32.ofNat xs.length = Int32.ofNat nb := by rw [← Int32.ofNat_sub _ _ (by omega), Nat.add_sub_cancel]
    unfold mf_316_66 mf_316_81
    simp (disch := omega) only [ev_S, ev_P, ↓reduceIte, Nat.reduceEqDiff, Nat.reduceLeDiff, Nat.reduceAdd, Nat.reduceMul, Nat.reduceSub, reduceCtorEq, l32_0, l32_1, l32_2, l32_3, l32_4, l32_5, l32_6, l32_7, l32_8, l32_9, l32_10, l32_11, l32_12, l32_13, l32_14, l32_15, l32_16, l32_17, l32_18, l32_19, l32_20, l32_21, l32_22, l32_23, l32_24, l32_25, l32_26, l32_27, l32_28, l32_29, l32_33, l32_40, l32_41, l32_44, l32_45, l32_59, l32_61, l32_91, l32_93, l32_123, l32_125, A4, A2, sb, q1, l32_8000]
  · rw [pv_app (fun y hy => Or.inl (e5 y hy)), e6, ← e2]
    have : xs.length ≤ ctV (vw x') := by
      unfold ansL at hx'
      split at hx'
      · rename_i c
        exact ct_M (k := 1) (Or.inl ⟨rfl, fun x hx => by rw [kd_kn, aK_i.mp c x hx]; rfl⟩) hx'
      · split at hx'
        · rename_i c
          exact ct_M (k := 2) (Or.inr (Or.inl ⟨rfl, fun x hx => by rw [kd_kn, aK_i.mp c x hx]; rfl⟩)) hx'
        · cases hx'
    omega
theorem suP5 : suP 5 xs k = true := by
  unfold suP
  rw [List.all_eq_true]
  intro j _
  rfl
theorem i_8 (hN : 170000 ≤ N) (hX : oX N X) (hW : oW X) (C : CS t0 t p code Fs fu S0 ((m, 0, vs, I) :: G) sh T out) (R : RSm s0 s h code Fs fu ((m, 0, vs, I) :: G) sh T out) (K : CK code Fs fu ((m, 0, vs, I) :: G) sh T out n) (ho : (inA code m).1 = 8) (hb : (inA code m).2.2.1 < 28 ∧ ((inA code m).2.2.1 = 5 → (inA code m).2.1 ≤ 6)) (hwn : ¬ (inA code m).2.2.1 = 5 → (inA code m).2.1 = if (inA code m).2.2.1 = 3 ∨ 19 ≤ (inA code m).2.2.1 then 2 else 1) : GO N X t0 s0 p h code Fs fu S0 t s n := by
  obtain ⟨g, P⟩ := K.pl0
  obtain ⟨L', z3, z4⟩ := K.nxt
  obtain ⟨M, hM1, hM2⟩ := effJ (Or.inr ho) z3
  obtain ⟨xs, J, I', e1, e2, e3, e4, e5, e6, e7, e8⟩ := topV K P hM1
  obtain ⟨ec, er⟩ := cI_8 (code := code) (own := posC code m) (e := h) ho
  have hbd := K.bd
  have hcl : clen (inA code m) = 1 := by unfold clen; rw [ho]; rfl
  have hrlen : rlen (inA code m) = 1 := by unfold rlen; rw [ho]; rfl
  have h20 : ¬ (inA code m).1 = 20 := by omega
  have eC : cStk ((m, 0, vs, I) :: G) = xs.reverse.map some ++ cStk ((m, 0, vs, I') :: G) := by
    rw [e1, cStk_app (m' := m) (d' := 0), e4]
  generalize hbb : (inA code m).2.2.1 = bb at *
  generalize hjj : (inA code m).2.1 = jj at *
  by_cases c5 : bb = 5
  · have h6 := hb.2 c5
    rw [if_pos c5] at ec
    rw [← e2] at ec er h6
    refine vopS (an := 24) (o := 8) (jn := xs.length) (xs := xs) (ans := ansM 3 xs) hN C R K ec (by omega) er (by omega) hcl hrlen h20 e1 (fun y hy => Or.inl (e5 y hy)) e3 (by rw [e4, List.length_map, List.length_reverse]) (by rw [z3, hM2, e7]) (fun tS u' hu CS1 => ?_) (fun sS nb f' kx hkx A LE A2 A3 A4 A5 => ?_) okAn_M (fun x' hx' => ?_) e8
    · obtain ⟨t1, g1, g2⟩ := CS1.gather (N := N) (X := X) hN (by omega) eC
      obtain ⟨t2, v, q1, q2⟩ := g2.build (N := N) (X := X) (k := 3) hN (Or.inr (Or.inr rfl)) (fun x hx => (e8 x hx).1) (fun x hx => (e8 x hx).2) (by omega) (by omega) (by omega) (by omega) (by omega)
      refine ⟨t2, v, q2.F, fun va' vb' h1 h2 t3 ht => ?_⟩
      refine c_wk24.trans ?_
      have q1 : cf_126 N X (Int32.ofNat 3) (Int32.ofNat 0) t1 = _ := q1
      unfold cf_143_200 cf_143_205 cf_143_215 cf_143_220 cf_143_296
      simp (disch := omega) only [ev_S, ev_C, ↓reduceIte, Nat.reduceEqDiff, Nat.reduceLeDiff, Nat.reduceAdd, Nat.reduceMul, Nat.reduceSub, reduceCtorEq, l32_0, l32_1, l32_2, l32_3, l32_4, l32_5, l32_6, l32_7, l32_8, l32_9, l32_10, l32_11, l32_12, l32_13, l32_14, l32_15, l32_16, l32_17, l32_18, l32_19, l32_20, l32_21, l32_22, l32_23, l32_24, l32_25, l32_26, l32_27, l32_28, l32_29, l32_33, l32_40, l32_41, l32_44, l32_45, l32_59, l32_61, l32_91, l32_93, l32_123, l32_125, g1, q1, ht]
    · obtain ⟨s2, q1, q2⟩ := r_box (N := N) hN A (by omega)
      refine ⟨s2, ?_, q2⟩
      rw [r_wk8 hkx A3]
      have hsu := r_suits (N := N) (b := 5) hN A (by omega) (Or.inl rfl)
      rw [if_pos suP5, q1] at hsu
      have A4 : sS.2.2.1 24 kx = Int32.ofNat 5 := by rw [A4, c5]
      have sb : Int32.ofNat (nb + xs.length) - Int32.ofNat xs.length = Int32.ofNat nb := by rw [← Int32.ofNat_sub _ _ (by omega), Nat.add_sub_cancel]
      unfold mf_316_87 mf_316_108
      simp (disch := omega) only [ev_S, ev_P, ↓reduceIte, Nat.reduceEqDiff, Nat.reduceLeDiff, Nat.reduceAdd, Nat.reduceMul, Nat.reduceSub, reduceCtorEq, l32_0, l32_1, l32_2, l32_3, l32_4, l32_5, l32_6, l32_7, l32_8, l32_9, l32_10, l32_11, l32_12, l32_13, l32_14, l32_15, l32_16, l32_17, l32_18, l32_19, l32_20, l32_21, l32_22, l32_23, l32_24, l32_25, l32_26, l32_27, l32_28, l32_29, l32_33, l32_40, l32_41, l32_44, l32_45, l32_59, l32_61, l32_91, l32_93, l32_123, l32_125, A4, A5, A2, sb, hsu, l32_8000]
    · rw [pv_app (fun y hy => Or.inl (e5 y hy)), e6, ← e2]
      omega
  · rw [if_neg c5] at ec
    have hjw := hwn c5
    have cnm := fun t => c_numb (N := N) (X := X) (t := t) (b := bb) hX hb.1
    by_cases c2 : bb = 3 ∨ 19 ≤ bb
    · rw [if_pos c2] at hjw
      rw [if_neg (by omega)] at ec
      rw [hjw] at e2 er
      obtain ⟨x, y, rfl⟩ := two_xs e2
      have hx := e8 x List.mem_cons_self
      have hy := e8 y (List.mem_cons_of_mem _ List.mem_cons_self)
      have eC : cStk ((m, 0, vs, I) :: G) = some y :: some x :: cStk ((m, 0, vs, I') :: G) := eC
      refine vopS (an := 23) (o := 8) (jn := 2) (xs := [x, y]) (ans := if (suB bb 0 (kn x) (kn x) && suB bb 1 (kn y) (kn x)) = true then ansB2 bb x y else .inl 3) hN C R K ec (by omega) er (by omega) hcl hrlen h20 e1 (fun y hy => Or.inl (e5 y hy)) e3 (by rw [e4]; rfl) (by rw [z3, hM2, e7]) (fun tS u' hu CS1 => ?_) (fun sS nb f' kx hkx A LE A2 A3 A4 A5 => ?_) (okAn_i okAn_B2 (okAn_l (by omega))) (fun x' hx' => ?_) e8
      · obtain ⟨va, p1, p2⟩ := CS1.top1 (N := N) (X := X) eC
        obtain ⟨vb, p3, p4⟩ := CS1.top2 (N := N) (X := X) eC
        obtain ⟨t2, v, q1, q2⟩ := c_blt2 (N := N) (X := X) (b := bb) hN hW CS1.2.2.1 p4 p2 hx.1 hx.2 hy.1 hy.2 hu (Nat.zero_le _) (by omega)
        refine ⟨t2, v, q2.F, fun va' vb' h1 h2 t3 ht => ?_⟩
        rw [p1] at h1
        rw [p3] at h2
        cases h1
        cases h2
        refine c_wk23.trans ?_
        have cn := cnm tS
        unfold cf_143_152 cf_143_162 cf_143_169 cf_143_174 cf_143_296
        simp (disch := omega) only [ev_S, ev_C, ↓reduceIte, Nat.reduceEqDiff, Nat.reduceLeDiff, Nat.reduceAdd, Nat.reduceMul, Nat.reduceSub, reduceCtorEq, l32_0, l32_1, l32_2, l32_3, l32_4, l32_5, l32_6, l32_7, l32_8, l32_9, l32_10, l32_11, l32_12, l32_13, l32_14, l32_15, l32_16, l32_17, l32_18, l32_19, l32_20, l32_21, l32_22, l32_23, l32_24, l32_25, l32_26, l32_27, l32_28, l32_29, l32_33, l32_40, l32_41, l32_44, l32_45, l32_59, l32_61, l32_91, l32_93, l32_123, l32_125, cn, q1, ht]
      · have hsu := r_suits (N := N) (b := bb) hN A hb.1 (Or.inr (Nat.le_refl _))
        have esu : suP bb [x, y] [x, y].length = (suB bb 0 (kn x) (kn x) && suB bb 1 (kn y) (kn x)) := by
          show (suB bb 0 (kn x) (kn x) && (suB bb 1 (kn y) (kn x) && true)) = _
          rw [Bool.and_true]
        rw [esu] at hsu
        have sb : Int32.ofNat (nb + 2) - Int32.ofNat 2 = Int32.ofNat nb := by rw [← Int32.ofNat_sub _ _ (by omega), Nat.add_sub_cancel]
        have A2 : sS.1 51 = Int32.ofNat (nb + 2) := A2
        have key : ∃ s2, mf_328 N (Int32.ofNat bb) (Int32.ofNat nb) sS = some (s2, none) ∧ rE sS s2 nb f' T.2.1 (if (suB bb 0 (kn x) (kn x) && suB bb 1 (kn y) (kn x)) = true then ansB2 bb x y else .inl 3) := by
          by_cases c : (suB bb 0 (kn x) (kn x) && suB bb 1 (kn y) (kn x)) = true
          · rw [if_pos c] at hsu ⊢
            have c' := Bool.and_eq_true_iff.mp c
            obtain ⟨s2, q1, q2⟩ := r_blt2 (N := N) (b := bb) hN A LE (by omega) c'.1 c'.2
            exact ⟨s2, by rw [hsu]; exact q1, q2⟩
          · rw [if_neg c] at hsu ⊢
            obtain ⟨s2, q1, q2⟩ := r_unsuit (N := N) A
            exact ⟨s2, by rw [hsu]; exact q1, q2⟩
        obtain ⟨s2, q1, q2⟩ := key
        refine ⟨s2, ?_, q2⟩
        rw [r_wk8 hkx A3]
        unfold mf_316_87 mf_316_108
        simp (disch := omega) only [ev_S, ev_P, ↓reduceIte, Nat.reduceEqDiff, Nat.reduceLeDiff, Nat.reduceAdd, Nat.reduceMul, Nat.reduceSub, reduceCtorEq, l32_0, l32_1, l32_2, l32_3, l32_4, l32_5, l32_6, l32_7, l32_8, l32_9, l32_10, l32_11, l32_12, l32_13, l32_14, l32_15, l32_16, l32_17, l32_18, l32_19, l32_20, l32_21, l32_22, l32_23, l32_24, l32_25, l32_26, l32_27, l32_28, l32_29, l32_33, l32_40, l32_41, l32_44, l32_45, l32_59, l32_61, l32_91, l32_93, l32_123, l32_125, A4, A5, A2, sb, q1, l32_8000]
      · rw [pv_app (fun y hy => Or.inl (e5 y hy)), e6]
        omega
    · rw [if_neg c2] at hjw
      rw [if_pos hjw] at ec
      rw [hjw] at e2 er
      obtain ⟨x, rfl⟩ := one_xs e2
      have hx := e8 x List.mem_cons_self
      have eC : cStk ((m, 0, vs, I) :: G) = some x :: cStk ((m, 0, vs, I') :: G) := eC
      refine vopS (an := 22) (o := 8) (jn := 1) (xs := [x]) (ans := if suB bb 0 (kn x) (kn x) = true then ansB1 bb x else .inl 3) hN C R K ec (by omega) er (by omega) hcl hrlen h20 e1 (fun y hy => Or.inl (e5 y hy)) e3 (by rw [e4]; rfl) (by rw [z3, hM2, e7]) (fun tS u' hu CS1 => ?_) (fun sS nb f' kx hkx A LE A2 A3 A4 A5 => ?_) (okAn_i okAn_B1 (okAn_l (by omega))) (fun x' hx' => ?_) e8
      · obtain ⟨va, p1, p2⟩ := CS1.top1 (N := N) (X := X) eC
        obtain ⟨t2, v, q1, q2⟩ := c_blt1 (N := N) (X := X) (b := bb) hN hW CS1.2.2.1 p2 hx.1 hx.2 CS1.2.1.2.2.2.1.2.2.2.2 hu (Nat.zero_le _) (by omega) (by omega)
        refine ⟨t2, v, q2.F, fun va' vb' h1 h2 t3 ht => ?_⟩
        rw [p1] at h1
        cases h1
        refine c_wk22.trans ?_
        have cn := cnm tS
        unfold cf_143_129 cf_143_139 cf_143_144 cf_143_149 cf_143_296
        simp (disch := omega) only [ev_S, ev_C, ↓reduceIte, Nat.reduceEqDiff, Nat.reduceLeDiff, Nat.reduceAdd, Nat.reduceMul, Nat.reduceSub, reduceCtorEq, l32_0, l32_1, l32_2, l32_3, l32_4, l32_5, l32_6, l32_7, l32_8, l32_9, l32_10, l32_11, l32_12, l32_13, l32_14, l32_15, l32_16, l32_17, l32_18, l32_19, l32_20, l32_21, l32_22, l32_23, l32_24, l32_25, l32_26, l32_27, l32_28, l32_29, l32_33, l32_40, l32_41, l32_44, l32_45, l32_59, l32_61, l32_91, l32_93, l32_123, l32_125, cn, q1, ht]
      · have hsu := r_suits (N := N) (b := bb) hN A hb.1 (Or.inr (by show 1 ≤ 2; omega))
        have esu : suP bb [x] [x].length = suB bb 0 (kn x) (kn x) := by
          show (suB bb 0 (kn x) (kn x) && true) = _
          rw [Bool.and_true]
        rw [esu] at hsu
        have sb : Int32.ofNat (nb + 1) - Int32.ofNat 1 = Int32.ofNat nb := by rw [← Int32.ofNat_sub _ _ (by omega), Nat.add_sub_cancel]
        have A2 : sS.1 51 = Int32.ofNat (nb + 1) := A2
        have key : ∃ s2, mf_328 N (Int32.ofNat bb) (Int32.ofNat nb) sS = some (s2, none) ∧ rE sS s2 nb f' T.2.1 (if suB bb 0 (kn x) (kn x) = true then ansB1 bb x else .inl 3) := by
          by_cases c : suB bb 0 (kn x) (kn x) = true
          · rw [if_pos c] at hsu ⊢
            obtain ⟨s2, q1, q2⟩ := r_blt1 (N := N) (b := bb) hN A (by omega) (by omega) c
            exact ⟨s2, by rw [hsu]; exact q1, q2⟩
          · rw [if_neg c] at hsu ⊢
            obtain ⟨s2, q1, q2⟩ := r_unsuit (N := N) A
            exact ⟨s2, by rw [hsu]; exact q1, q2⟩
        obtain ⟨s2, q1, q2⟩ := key
        refine ⟨s2, ?_, q2⟩
        rw [r_wk8 hkx A3]
        unfold mf_316_87 mf_316_108
        simp (disch := omega) only [ev_S, ev_P, ↓reduceIte, Nat.reduceEqDiff, Nat.reduceLeDiff, Nat.reduceAdd, Nat.reduceMul, Nat.reduceSub, reduceCtorEq, l32_0, l32_1, l32_2, l32_3, l32_4, l32_5, l32_6, l32_7, l32_8, l32_9, l32_10, l32_11, l32_12, l32_13, l32_14, l32_15, l32_16, l32_17, l32_18, l32_19, l32_20, l32_21, l32_22, l32_23, l32_24, l32_25, l32_26, l32_27, l32_28, l32_29, l32_33, l32_40, l32_41, l32_44, l32_45, l32_59, l32_61, l32_91, l32_93, l32_123, l32_125, A4, A5, A2, sb, q1, l32_8000]
      · rw [pv_app (fun y hy => Or.inl (e5 y hy)), e6]
        omega
end IN10
end
-- ### 98zg.pure.lean.txt
section
/-! ===== PURE: run (110): instructions: not ===== -/
section IN11
variable {N : Nat} {X : Nat → Option zz_C} {t0 t t1 t2 : cS} {s0 s s' s1 s2 : mS} {u w f f' p h fu m m' d d' n k b z j jn k0 nb an o : Nat} {code : List Ins} {Fs : List Fn} {T T' T1 : Ty} {out out' : List Int32} {F G : List Fm} {sh sh' S0 : Nat → Option Nod} {vs vs' : List (Option Nod)} {I I' J : List It} {q r pl kk gg a1 b1 c1 : Int32} {v va vb : Int64} {it : It} {x y : Nod} {l : List (Option Nod)} {L L' : List Nat} {g : Fn} {a a' : Fm} {ans : Ans} {xs ys : List Nod}
/-- no fuel is left -/
theorem nofuelE {sf : mS} {j0 : Nat} {ac g : Int32} {l1 : Nat} (C : CX t0 t p code Fs fu S0 u w (a :: G) sh T out) (hQ : ∀ Q, cf_141_L4 N X (Q + 1) 0 (Int32.ofNat n) t = if ac < Int32.ofNat 19 then cf_141_120 N X (cf_141_L4 N X Q) (Int32.ofNat n) ac g pl (jI t 49 17 q) else cf_141_108 N X (cf_141_L4 N X Q) (Int32.ofNat n) ac g pl (jI t 49 17 q)) (hac : ¬ ac < Int32.ofNat 19) (hT : okTy fu T) (hs : ¬ T.1 < fu) (B : RBk s0 sf h code Fs fu T out (Int32.ofNat 10) pl) (M : RM0 sf f h code (a :: G) sh) (hs2 : ∀ Q x2, mf_68_L10 N (Q + (0 + 1)) 0 x2 s = mo_bi (mf_312 N sf) (fun s3 y => mf_68_L10 N Q 0 x2 s3)) (ho : out.length ≤ 200000000) (hG : G.length ≤ 9) : ∃ t' s', (∀ Q, cf_141_L4 N X (Q + 1) 0 (Int32.ofNat n) t = some (t', .inl none)) ∧ (∀ Q x2, mf_68_L10 N (Q + 2) 0 x2 s = mf_68_320 N x2 s') ∧ FIN t0 t' s0 s' S0 := by
  obtain ⟨f1, f2, f3, f4, f5⟩ := hT
  have C1 := C.pc (z := q) (Or.inl rfl)
  refine ⟨_, sf, fun Q => ?_, fun Q x2 => ?_, tr_end (k := 10) (r := Int32.ofNat 0) (by omega) C1.cy B rfl ho⟩
  · rw [hQ Q]
    have h1 : kI (jI t 49 17 q) 48 1 = Int32.ofNat fu := C1.1.2.1.1
    have h2 : kI (jI t 49 17 q) 48 2 = Int32.ofNat T.1 := C1.1.2.1.2.1
    rw [show T.1 = fu by omega] at h2
    exact c_rdX hac h1 h2 f1
  · rw [show Q + 2 = Q + 1 + (0 + 1) by omega, hs2 (Q + 1) x2]
    have h66 : sf.1 66 = Int32.ofNat 10 := B.2.2.1.1
    have hd : sf.1 73 = Int32.ofNat (G.length + 1) := M.2.2.2.2.2.1
    have e1 : mf_312 N sf = some (sf, some (.int (Int32.ofNat 0))) := by
      unfold mf_312 mf_312_0 mf_312_9
      simp (disch := omega) only [ev_S, ev_P, ↓reduceIte, Nat.reduceEqDiff, Nat.reduceLeDiff, Nat.reduceAdd, Nat.reduceMul, Nat.reduceSub, reduceCtorEq, l32_0, l32_1, l32_2, l32_3, l32_4, l32_5, l32_6, l32_7, l32_8, l32_9, l32_10, l32_11, l32_12, l32_13, l32_14, l32_15, l32_16, l32_17, l32_18, l32_19, l32_20, l32_21, l32_22, l32_23, l32_24, l32_25, l32_26, l32_27, l32_28, l32_29, l32_33, l32_40, l32_41, l32_44, l32_45, l32_59, l32_61, l32_91, l32_93, l32_123, l32_125, h66]
    rw [e1, ev_bi]
    show mf_68_258 N (mf_68_L10 N Q) x2 sf = _
    generalize G.length = nf at *
    unfold mf_68_258 mf_68_265
    simp (disch := omega) only [ev_S, ev_P, ↓reduceIte, Nat.reduceEqDiff, Nat.reduceLeDiff, Nat.reduceAdd, Nat.reduceMul, Nat.reduceSub, reduceCtorEq, l32_0, l32_1, l32_2, l32_3, l32_4, l32_5, l32_6, l32_7, l32_8, l32_9, l32_10, l32_11, l32_12, l32_13, l32_14, l32_15, l32_16, l32_17, l32_18, l32_19, l32_20, l32_21, l32_22, l32_23, l32_24, l32_25, l32_26, l32_27, l32_28, l32_29, l32_33, l32_40, l32_41, l32_44, l32_45, l32_59, l32_61, l32_91, l32_93, l32_123, l32_125, hd, h66]
theorem i_4 (hN : 170000 ≤ N) (C : CS t0 t p code Fs fu S0 ((m, 0, vs, I) :: G) sh T out) (R : RSm s0 s h code Fs fu ((m, 0, vs, I) :: G) sh T out) (K : CK code Fs fu ((m, 0, vs, I) :: G) sh T out n) (ho : (inA code m).1 = 4) : GO N X t0 s0 p h code Fs fu S0 t s n := by
  obtain ⟨u, w, f, g, C1, C2, C4, R1, R2, R4, P, hm, hcx, hrl, hG, ⟨b1', b2, b6⟩, hT, hol⟩ := open0 C R K
  obtain ⟨ec, er⟩ := cI_4 (code := code) (own := posC code m) (e := h) ho
  obtain ⟨L', z3, z4⟩ := K.nxt
  obtain ⟨M, hM1, hM2⟩ : ∃ M, pop0 1 (kd I) = some M ∧ L' = 0 :: M := by
    generalize inA code m = c at *
    obtain ⟨o', jj, r0, aa, pp, xx, yy⟩ := c
    have z : o' = 4 := ho
    subst z
    have z3 : (pop0 1 (kd I)).map (0 :: ·) = some L' := z3
    cases hM : pop0 1 (kd I) with
    | none => rw [hM] at z3; cases z3
    | some M =>
      rw [hM] at z3
      exact ⟨M, rfl, (Option.some.inj z3).symm⟩
  obtain ⟨xs, J, I', e1, e2, e3, e4, e5, e6, e7, e8⟩ := topV K P hM1
  obtain ⟨x, rfl⟩ := one_xs e2
  have hx := e8 x List.mem_cons_self
  generalize (inA code m).2.2.2.2.1 = pl at *
  obtain ⟨D1, D2⟩ := C1.fet (N := N) (X := X) (n := n) (l1 := []) rfl C4 hm ec hcx (by omega)
  obtain ⟨s1, kx, y1, y2, y3, y4, y5, y6, ⟨y7, y8, y9, y10⟩, y11, y12⟩ := R1.fet (N := N) (l1 := []) hG rfl R4 hm er hrl
  -- the class lays a 0
  obtain ⟨t2, a1, a2, a3, a4⟩ := D1.push (N := N) (X := X) (m' := m) (d' := 0) (it := (1, [], 0)) (o := some (nZ 0)) (v := tg 0 0) (by omega) cN_Z (by show ¬ (1 : Nat) = 3; decide) rfl
  have hfirst : ∀ Q, cf_141_L4 N X (Q + 1) 0 (Int32.ofNat n) t = cf_141_L4 N X Q 0 (Int32.ofNat (n + 1)) t2 := fun Q => by
    rw [D2 Q]
    clear D1 D2
    generalize jI t 49 17 (Int32.ofNat (posC code m + 0 + 1)) = t1 at *
    refine c_rdM (by decide) (by decide) (c_mv0.trans ?_)
    have eth := c_thing (N := N) (X := X) (t := t1) (k := Int32.ofNat 0) (a := Int32.ofNat 0)
    have a1 : cf_165 N X (tg (Int32.ofNat 0) (Int32.ofNat 0)) t1 = _ := a1
    unfold cf_142_131 cf_142_137 cf_142_140 cf_142_296
    simp (disch := omega) only [ev_S, ev_C, ↓reduceIte, Nat.reduceEqDiff, Nat.reduceLeDiff, Nat.reduceAdd, Nat.reduceMul, Nat.reduceSub, reduceCtorEq, l32_0, l32_1, l32_2, l32_3, l32_4, l32_5, l32_6, l32_7, l32_8, l32_9, l32_10, l32_11, l32_12, l32_13, l32_14, l32_15, l32_16, l32_17, l32_18, l32_19, l32_20, l32_21, l32_22, l32_23, l32_24, l32_25, l32_26, l32_27, l32_28, l32_29, l32_33, l32_40, l32_41, l32_44, l32_45, l32_59, l32_61, l32_91, l32_93, l32_123, l32_125, eth, a1]
  have p17 : kI t2 49 17 = Int32.ofNat (posC code m + 1) := a3
  obtain ⟨E1, E2⟩ := a2.fet (N := N) (X := X) (n := n + 1) (l1 := [((0 : Int32), (0 : Int32), pl)]) (dd := 1) rfl p17 hm ec hcx (by omega)
  have hop : mf_313 N (Int32.ofNat kx) s1 = mf_313_185 N (Int32.ofNat kx) s1 := r_op4 y3 y7
  have hlC : (cStk ((m, 0, vs, (1, [], 0) :: I) :: G)).length ≤ 17501 := by
    rw [cStk_cons (m' := m) (d' := 0), List.length_append]
    show 1 + _ ≤ _
    omega
  by_cases hs : T.1 < fu
  · obtain ⟨hl, hp⟩ := K.ly0
    have hly : lyo (code.take (m + 1)) = some (0 :: kd I') := by rw [z4, hM2, e7]
    have h30 := hT.2.2.1
    have hst := c_step (N := N) (X := X) (t := jI t2 49 17 (Int32.ofNat (posC code m + 1 + 1))) (q := pl) E1.1.2.1.1 E1.1.2.1.2.1 hT.1 hs
    obtain ⟨F1, F2⟩ := (E1.st).forget (N := N) (X := X)
    have eC : cStk ((m, 0, vs, (1, [], 0) :: I) :: G) = some (nZ 0) :: some x :: cStk ((m, 0, vs, I') :: G) := by
      rw [cStk_cons (m' := m) (d' := 0), e1, cStk_app (m' := m) (d' := 0), e4]
      rfl
    obtain ⟨va, p1, p2⟩ := F2.top1 (N := N) (X := X) eC
    obtain ⟨vb, p3, p4⟩ := F2.top2 (N := N) (X := X) eC
    obtain ⟨t3, v, q1, q2⟩ := c_two (N := N) (X := X) (sg := 256) hN (by unfold isS; omega) F2.2.2.1 p4 p2 hx.1 trivial (by omega) (Nat.zero_le _)
    have q1 : cf_222 N X (Int32.ofNat 317) vb va _ = _ := q1
    have Rst := y4.st
    have Rst' := Rst
    rw [e1] at Rst'
    have hT1 : okTy fu (T.1 + 1, T.2) := ⟨hT.1, hs, hT.2.2⟩
    obtain ⟨A1, A2⟩ := Rst'.rA (m' := m) (d' := 0) e3 hT1 R2 (by rw [← e1]; exact b1') e8
    obtain ⟨s2, S1, S2⟩ := r_not (N := N) hN A1
    have hstep := r_step (N := N) y4 hT.1 hs
    have h66 : (mI s1 60 (Int32.ofNat (T.1 + 1))).1 66 = Int32.ofNat 0 := Rst.1.2.2.1.1
    have hrun : mf_313 N (Int32.ofNat kx) s1 = some (s2, none) := by
      rw [hop]
      have y7' : (mI s1 60 (Int32.ofNat (T.1 + 1))).2.2.1 23 kx = Int32.ofNat 4 := y7
      have y8' : (mI s1 60 (Int32.ofNat (T.1 + 1))).2.2.1 24 kx = Int32.ofNat 33 := y8
      clear S2 A1 A2 Rst Rst'
      generalize mI s1 60 (Int32.ofNat (T.1 + 1)) = sS at *
      have hw4 : mf_316 N (Int32.ofNat kx) sS = some (s2, none) := by
        rw [r_wk4 y3 y7']
        unfold mf_316_44 mf_316_54
        simp (disch := omega) only [ev_S, ev_P, ↓reduceIte, Nat.reduceEqDiff, Nat.reduceLeDiff, Nat.reduceAdd, Nat.reduceMul, Nat.reduceSub, reduceCtorEq, l32_0, l32_1, l32_2, l32_3, l32_4, l32_5, l32_6, l32_7, l32_8, l32_9, l32_10, l32_11, l32_12, l32_13, l32_14, l32_15, l32_16, l32_17, l32_18, l32_19, l32_20, l32_21, l32_22, l32_23, l32_24, l32_25, l32_26, l32_27, l32_28, l32_29, l32_33, l32_40, l32_41, l32_44, l32_45, l32_59, l32_61, l32_91, l32_93, l32_123, l32_125, y8', S1, l32_8000]
      unfold mf_313_185 mf_313_189 mf_313_196 mf_313_201
      simp (disch := omega) only [ev_S, ev_P, ↓reduceIte, Nat.reduceEqDiff, Nat.reduceLeDiff, Nat.reduceAdd, Nat.reduceMul, Nat.reduceSub, reduceCtorEq, l32_0, l32_1, l32_2, l32_3, l32_4, l32_5, l32_6, l32_7, l32_8, l32_9, l32_10, l32_11, l32_12, l32_13, l32_14, l32_15, l32_16, l32_17, l32_18, l32_19, l32_20, l32_21, l32_22, l32_23, l32_24, l32_25, l32_26, l32_27, l32_28, l32_29, l32_33, l32_40, l32_41, l32_44, l32_45, l32_59, l32_61, l32_91, l32_93, l32_123, l32_125, hstep, h66, hw4]
    have Mlow : RM0 (mI s1 60 (Int32.ofNat (T.1 + 1))) f h code ((m, 0, vs, I') :: G) sh := by
      refine RM0.mv Rst'.2.1 (fun _ _ => rfl) rfl rfl (Nat.le_refl _) (fun _ _ => rfl) Rst'.2.1.2.2.2.2.2.2.2 ?_ rfl (wStk_v e5).symm
      have := Rst'.2.1.1
      rw [rStk_app (m' := m) (d' := 0)] at this
      exact this.app
    have hpJ : plI I' := fun y hy => hp y (by rw [e1]; exact List.mem_append_right _ hy)
    have hoJ : okIs code g.2.2.2.2.1 g.2.2.2.2.2 I' := by
      have := P.2.2.2.1
      rw [e1] at this
      have key : ∀ {J : List It} {b z : Nat}, okIs code b z (J ++ I') → okIs code b z I' := by
        intro J
        induction J with
        | nil => intro b z q; exact q
        | cons x J ih => intro b z q; exact ih q.2
      exact key this
    have hcIt : (cIt (((1, [], 0) : It) :: J)).length = 2 := by
      rw [cIt_cons, e4]
      rfl
    have hJ3 : ∀ y ∈ (((1, [], 0) : It) :: J), ¬ y.1 = 3 := fun y hy => by
      rcases List.mem_cons.mp hy with e | e
      · rw [e]; show ¬ (1 : Nat) = 3; omega
      · have := e5 y e; omega
    subst e1
    refine vop (k0 := 2) (T1 := (T.1 + 1, T.2)) (d' := 0) (jn := 2) (J := ((1, [], 0) : It) :: J) (JK := J) hN (by omega) K P (show (cStk ((m, 0, vs, ((1, [], 0) : It) :: (J ++ I')) :: G)).length ≤ 20000 by omega) (by omega) hJ3 hcIt ⟨hT1, by show T.1 ≤ T.1 + 1; omega, rfl⟩ hly hpJ hoJ F2 C2 q2.F ?_ (fun t4 ht Q => ?_) Rst.1 Mlow R2 y6 ?_ S2 okAn_T (fun e => y11 s2 hrun e) (fun kq e1 e2 => y12 s2 kq hrun e1 e2) ?_ hol
    · show Int32.ofNat (posC code m + 1 + 1) = _
      rw [posC_s hm, show clen (inA code m) = 2 by unfold clen; rw [ho]; rfl]
    · rw [show Q + 2 = Q + 1 + 1 from rfl, hfirst (Q + 1), E2 Q]
      rw [show n + 2 = n + 1 + 1 from rfl]
      refine c_rdSW (by decide) (by decide) (by decide) hst ?_
      have hw := c_wk19 (N := N) (X := X) (g := 317) (q := pl) (v := va) (v' := vb) (t := jI (jI (jI t2 49 17 (Int32.ofNat (posC code m + 1 + 1))) 48 2 (Int32.ofNat (T.1 + 1))) 42 3 (Int32.ofNat 0))
      have G3 : cf_143_19 N X (Int32.ofNat 19) 317 pl va vb (jI (jI (jI t2 49 17 (Int32.ofNat (posC code m + 1 + 1))) 48 2 (Int32.ofNat (T.1 + 1))) 42 3 (Int32.ofNat 0)) = some (t4, .inl none) := by
        rw [hw]
        clear F1 F2 E1 E2 hst hw p2 p4 eC
        generalize jI (jI (jI t2 49 17 (Int32.ofNat (posC code m + 1 + 1))) 48 2 (Int32.ofNat (T.1 + 1))) 42 3 (Int32.ofNat 0) = tq at *
        unfold cf_143_88 cf_143_101 cf_143_106 cf_143_296
        simp (disch := omega) only [ev_S, ev_C, ↓reduceIte, Nat.reduceEqDiff, Nat.reduceLeDiff, Nat.reduceAdd, Nat.reduceMul, Nat.reduceSub, reduceCtorEq, l32_0, l32_1, l32_2, l32_3, l32_4, l32_5, l32_6, l32_7, l32_8, l32_9, l32_10, l32_11, l32_12, l32_13, l32_14, l32_15, l32_16, l32_17, l32_18, l32_19, l32_20, l32_21, l32_22, l32_23, l32_24, l32_25, l32_26, l32_27, l32_28, l32_29, l32_33, l32_40, l32_41, l32_44, l32_45, l32_59, l32_61, l32_91, l32_93, l32_123, l32_125, q1, ht, l32_317]
      have G3 : cf_143_19 N X 19 317 pl va vb (jI (jI (jI t2 49 17 (Int32.ofNat (posC code m + 1 + 1))) 48 2 (Int32.ofNat (T.1 + 1))) 42 3 (Int32.ofNat 0)) = some (t4, .inl none) := G3
      unfold cf_143 cf_143_0 cf_143_7 cf_143_12
      rw [F1]
      show ko_call 3 (cf_167 N X (Int32.ofNat 1) _) _ = _
      rw [p1]
      show ko_call 3 (cf_167 N X (Int32.ofNat 2) _) _ = _
      rw [p3]
      exact G3
    · show s1.1 69 = _
      rw [y5, y1, posR_s hm, show rlen (inA code m) = 1 by unfold rlen; rw [ho]; rfl]
      rfl
    · intro x' hx'
      rw [pv_app (fun y hy => Or.inl (e5 y hy)), e6]
      show 2 + 20 * T.1 + (1 + pvI I') ≤ crL J + 20 * (T.1 + 1) + 60 * ctV (vw x') + 1 + pvI I'
      omega
  · -- no fuel
    obtain ⟨n1, n2, n3⟩ := r_nost (N := N) y4 hT.1 hs hT.2.1
    rw [y6] at n1 n2 n3
    have hno : mf_313 N (Int32.ofNat kx) s1 = some (trb s1 (Int32.ofNat 10) pl, none) := by
      rw [hop]
      have h66 : (trb s1 (Int32.ofNat 10) pl).1 66 = Int32.ofNat 10 := rfl
      clear n2 n3
      generalize trb s1 (Int32.ofNat 10) pl = sT at *
      unfold mf_313_185 mf_313_189 mf_313_201
      simp (disch := omega) only [ev_S, ev_P, ↓reduceIte, Nat.reduceEqDiff, Nat.reduceLeDiff, Nat.reduceAdd, Nat.reduceMul, Nat.reduceSub, reduceCtorEq, l32_0, l32_1, l32_2, l32_3, l32_4, l32_5, l32_6, l32_7, l32_8, l32_9, l32_10, l32_11, l32_12, l32_13, l32_14, l32_15, l32_16, l32_17, l32_18, l32_19, l32_20, l32_21, l32_22, l32_23, l32_24, l32_25, l32_26, l32_27, l32_28, l32_29, l32_33, l32_40, l32_41, l32_44, l32_45, l32_59, l32_61, l32_91, l32_93, l32_123, l32_125, n1, h66]
    obtain ⟨t3, s3, v3, v4, v5⟩ := nofuelE (l1 := 0) (j0 := 0) (t := t2) (s := s) (n := n + 1) a2 E2 (by decide) hT hs n2 (RM0.mv n3 (b := (m, 0, vs, (1, [], 0) :: I)) (fun _ _ => rfl) rfl rfl (Nat.le_refl _) (fun _ _ => rfl) n3.2.2.2.2.2.2.2 n3.1 rfl rfl) (y12 _ 10 hno rfl (by omega)) hol hG
    refine Or.inr ⟨2, 2, t3, s3, by omega, by omega, fun Q => ?_, v4, v5⟩
    rw [show Q + 2 = Q + 1 + 1 from rfl, hfirst (Q + 1)]
    exact v3 Q
end IN11
end
-- ### 98zh.pure.lean.txt
section
/-! ===== PURE: run (111): a call begins (the class) ===== -/
/-- the most calls -/
def opT (T : Ty) (k : Nat) : Ty := (T.1, T.2.1, (if T.2.2.1 < k then k else T.2.2.1), T.2.2.2)
section ENT
variable {N : Nat} {X : Nat → Option zz_C} {t0 t t1 t2 : cS} {u w p fu m m' d d' n k fi bb nv : Nat} {code : List Ins} {Fs : List Fn} {T : Ty} {out : List Int32} {G F : List Fm} {sh S0 : Nat → Option Nod} {vs : List (Option Nod)} {I' J : List It} {q : Int32} {xs : List Nod}
theorem c_told (hE : cEv t p code Fs) (hf : fi < Fs.length) : cf_33 N X p (Int32.ofNat fi) (Int32.ofNat 1) t = some (t, .inl (some (.int (Int32.ofNat Fs[fi].2.2.2.1)))) ∧ cf_33 N X p (Int32.ofNat fi) (Int32.ofNat 0) t = some (t, .inl (some (.int (Int32.ofNat Fs[fi].2.2.1)))) ∧ cf_204 N X p (Int32.ofNat fi) t = some (t, .inl (some (.int (Int32.ofNat (posC code Fs[fi].2.2.2.2.1))))) := by
  obtain ⟨h1, h2, -, ⟨c1, c2, c3, c4, c5, c6, c7, c8, c9⟩⟩ := hE
  obtain ⟨d1, d2, d3, d4, d5⟩ := c9 fi hf
  have hp2 : (p = 12 ∨ p = 21) = True := eq_true h2
  clear c9
  generalize Fs[fi] = g at *
  generalize Fs.length = L at *
  have n1 : ¬ L ≤ fi := by omega
  refine ⟨?_, ?_, ?_⟩
  · have E : cf_33 N X p (Int32.ofNat fi) (Int32.ofNat 1) t = cf_33_47 N X p (Int32.ofNat fi) t := by
      unfold cf_33 cf_33_0 cf_33_4
      simp (disch := omega) only [ev_S, ev_C, ↓reduceIte, Nat.reduceEqDiff, Nat.reduceLeDiff, Nat.reduceAdd, Nat.reduceMul, Nat.reduceSub, reduceCtorEq, l32_0, l32_1, l32_2, l32_3, l32_4, l32_5, l32_6, l32_7, l32_8, l32_9, l32_10, l32_11, l32_12, l32_13, l32_14, l32_15, l32_16, l32_17, l32_18, l32_19, l32_20, l32_21, l32_22, l32_23, l32_24, l32_25, l32_26, l32_27, l32_28, l32_29, l32_33, l32_40, l32_41, l32_44, l32_45, l32_59, l32_61, l32_91, l32_93, l32_123, l32_125, hp2, c1, hf]
      rfl
    rw [E]
    unfold cf_33_47
    simp (disch := omega) only [ev_S, ev_C, ↓reduceIte, Nat.reduceEqDiff, Nat.reduceLeDiff, Nat.reduceAdd, Nat.reduceMul, Nat.reduceSub, reduceCtorEq, l32_0, l32_1, l32_2, l32_3, l32_4, l32_5, l32_6, l32_7, l32_8, l32_9, l32_10, l32_11, l32_12, l32_13, l32_14, l32_15, l32_16, l32_17, l32_18, l32_19, l32_20, l32_21, l32_22, l32_23, l32_24, l32_25, l32_26, l32_27, l32_28, l32_29, l32_33, l32_40, l32_41, l32_44, l32_45, l32_59, l32_61, l32_91, l32_93, l32_123, l32_125, hp2, c7, d4]
  · have E : cf_33 N X p (Int32.ofNat fi) (Int32.ofNat 0) t = cf_33_40 N X p (Int32.ofNat fi) t := by
      unfold cf_33 cf_33_0 cf_33_4
      simp (disch := omega) only [ev_S, ev_C, ↓reduceIte, Nat.reduceEqDiff, Nat.reduceLeDiff, Nat.reduceAdd, Nat.reduceMul, Nat.reduceSub, reduceCtorEq, l32_0, l32_1, l32_2, l32_3, l32_4, l32_5, l32_6, l32_7, l32_8, l32_9, l32_10, l32_11, l32_12, l32_13, l32_14, l32_15, l32_16, l32_17, l32_18, l32_19, l32_20, l32_21, l32_22, l32_23, l32_24, l32_25, l32_26, l32_27, l32_28, l32_29, l32_33, l32_40, l32_41, l32_44, l32_45, l32_59, l32_61, l32_91, l32_93, l32_123, l32_125, hp2, c1, hf]
      rfl
    rw [E]
    unfold cf_33_40
    simp (disch := omega) only [ev_S, ev_C, ↓reduceIte, Nat.reduceEqDiff, Nat.reduceLeDiff, Nat.reduceAdd, Nat.reduceMul, Nat.reduceSub, reduceCtorEq, l32_0, l32_1, l32_2, l32_3, l32_4, l32_5, l32_6, l32_7, l32_8, l32_9, l32_10, l32_11, l32_12, l32_13, l32_14, l32_15, l32_16, l32_17, l32_18, l32_19, l32_20, l32_21, l32_22, l32_23, l32_24, l32_25, l32_26, l32_27, l32_28, l32_29, l32_33, l32_40, l32_41, l32_44, l32_45, l32_59, l32_61, l32_91, l32_93, l32_123, l32_125, hp2, c6, d3]
  · unfold cf_204 cf_204_0 cf_204_4 cf_204_12 cf_204_25
    simp (disch := omega) only [ev_S, ev_C, ↓reduceIte, Nat.reduceEqDiff, Nat.reduceLeDiff, Nat.reduceAdd, Nat.reduceMul, Nat.reduceSub, reduceCtorEq, l32_0, l32_1, l32_2, l32_3, l32_4, l32_5, l32_6, l32_7, l32_8, l32_9, l32_10, l32_11, l32_12, l32_13, l32_14, l32_15, l32_16, l32_17, l32_18, l32_19, l32_20, l32_21, l32_22, l32_23, l32_24, l32_25, l32_26, l32_27, l32_28, l32_29, l32_33, l32_40, l32_41, l32_44, l32_45, l32_59, l32_61, l32_91, l32_93, l32_123, l32_125, hp2, c1, n1, c5, d2]
/-- one more variable that has nothing -/
theorem CX.bareV {ws : List (Option Nod)} (C : CX t0 t p code Fs fu S0 u w ((m, d, ws, []) :: F) sh T out) (hl : (cStk ((m, d, ws, []) :: F)).length ≤ 20000) : ∃ t', cf_165 N X bare t = some (t', .inl none) ∧ CX t0 t' p code Fs fu S0 u w ((m, d, ws ++ [none], []) :: F) sh T out := by
  obtain ⟨h1, h2, h3, h4⟩ := C
  obtain ⟨t', a1, a2, a3, a4, a5⟩ := c_push (N := N) (X := X) (v := bare) (o := none) h3 h2.1 h4 hl rfl
  have e : cStk ((m, d, ws ++ [none], []) :: F) = none :: cStk ((m, d, ws, []) :: F) := by
    show [] ++ ((ws ++ [none]).reverse ++ cStk F) = none :: ([] ++ (ws.reverse ++ cStk F))
    rw [List.reverse_append]
    rfl
  exact ⟨t', a1, h1.P a4, h2.stk a4 (fun f q => by have := q.2; omega) (fun k q => q) (by rw [e]; exact a2) rfl, a5, by rw [e]; exact a3⟩
theorem CX.enter (hN : 170000 ≤ N) (C : CX t0 t p code Fs fu S0 u w ((m, d, vs, J ++ I') :: G) sh T out) (hJ : cIt J = xs.reverse.map some) (hJ3 : ∀ y ∈ J, ¬ y.1 = 3) (hfi : fi < Fs.length) (hG : G.length ≤ 8) (hret : kI t 49 17 = Int32.ofNat (cBk code ((m, d', vs, I') :: G))) (hl : (cStk ((m, d, vs, J ++ I') :: G)).length ≤ 17600) (hnv : xs.length ≤ Fs[fi].2.2.2.1 ∧ Fs[fi].2.2.2.1 ≤ 14) (hdp : T.2.2.1 ≤ 10) : ∃ t', cf_157 N X (Int32.ofNat fi) (Int32.ofNat xs.length) q t = some (t', .inl none) ∧ CX t0 t' p code Fs fu S0 u w ((Fs[fi].2.2.2.2.1, 0, xs.map some ++ List.replicate (Fs[fi].2.2.2.1 - xs.length) none, []) :: (m, d', vs, I') :: G) sh (opT T (G.length + 2)) out ∧ kI t' 49 17 = Int32.ofNat (posC code Fs[fi].2.2.2.2.1) := by
  obtain ⟨w1, w2, w3⟩ := c_told (N := N) (X := X) C.1.1 hfi
  have hP := C.1.1.1
  have hp := C.1.1.2.1
  have eC : cStk ((m, d, vs, J ++ I') :: G) = xs.reverse.map some ++ cStk ((m, d', vs, I') :: G) := by rw [cStk_app (m' := m) (d' := d'), hJ]
  have eT : tStk ((m, d', vs, I') :: G) = tStk ((m, d, vs, J ++ I') :: G) := by
    show tIt _ _ I' ++ _ = tIt _ _ (J ++ I') ++ _
    rw [tIt_app hJ3]
  have hlen : (cStk ((m, d, vs, J ++ I') :: G)).length = xs.length + (cStk ((m, d', vs, I') :: G)).length := by rw [eC, List.length_append, List.length_map, List.length_reverse]
  have C' := C
  obtain ⟨c1, ⟨z1, z2, z3, z4, z5, z6, z7, z8⟩, c3, c4⟩ := C'
  have z7 : kI t 49 11 = Int32.ofNat (G.length + 1) := z7
  have h4 : kI t 48 4 = Int32.ofNat T.2.2.1 := c1.2.1.2.2.2.1
  obtain ⟨tE, htE⟩ : ∃ tE, tE = jI (jI (jA (jA t 53 (upd (kA t 53).2 (G.length + 1) (Int32.ofNat (cStk ((m, d', vs, I') :: G)).length))) 54 (upd (kA t 54).2 (G.length + 1) (Int32.ofNat (cBk code ((m, d', vs, I') :: G))))) 49 11 (Int32.ofNat (G.length + 2))) 48 4 (Int32.ofNat (if T.2.2.1 < G.length + 2 then G.length + 2 else T.2.2.1)) := ⟨_, rfl⟩
  have gE : gf (fun k f => (k = 49 ∧ f = 11) ∨ (k = 48 ∧ f = 4)) (fun k => k = 53 ∨ k = 54) t tE := by
    rw [htE]
    refine ⟨fun k f r => ?_, rfl, rfl, fun k r1 r2 => ⟨?_, rfl, rfl⟩, rfl, rfl, Nat.le_refl _, Nat.le_refl _, Nat.le_refl _⟩
    · show (if k = 48 ∧ f = 4 then _ else if k = 49 ∧ f = 11 then _ else kI t k f) = _
      rw [if_neg (fun q => r (Or.inr q)), if_neg (fun q => r (Or.inl q))]
    · show (if k = 54 then _ else if k = 53 then _ else kA t k) = _
      rw [if_neg (by omega), if_neg (by omega)]
  -- the first part
  have E1 : cf_157 N X (Int32.ofNat fi) (Int32.ofNat xs.length) q t = cf_157_L2 N X N 0 (Int32.ofNat fi) (Int32.ofNat Fs[fi].2.2.2.1) (Int32.ofNat xs.length) tE := by
    have l53 : (kA t 53).1 = 10 := z4.1
    have l54 : (kA t 54).1 = 10 := z4.2.1
    rw [hlen] at c4
    have hP' : kP tE 49 16 = some p := by rw [htE]; exact hP
    have hE' : cEv tE p code Fs := c1.1.keep gE (fun f => ⟨fun q => by omega, fun q => by omega⟩) (fun k k1 k2 q => by omega)
    obtain ⟨w1', -, -⟩ := c_told (N := N) (X := X) hE' hfi
    have hp2 : (p = 12 ∨ p = 21) = True := eq_true hp
    have hnc : (cStk ((m, d', vs, I') :: G)).length ≤ 17600 := by omega
    have sb : Int32.ofNat (xs.length + (cStk ((m, d', vs, I') :: G)).length) - Int32.ofNat xs.length = Int32.ofNat (cStk ((m, d', vs, I') :: G)).length := by rw [← Int32.ofNat_sub _ _ (by omega), Nat.add_sub_cancel_left]
    have hx14 : xs.length ≤ 14 := by omega
    have e237 : cf_237 N X (Int32.ofNat (G.length + 2)) (jI (jA (jA t 53 (upd (kA t 53).2 (G.length + 1) (Int32.ofNat (cStk ((m, d', vs, I') :: G)).length))) 54 (upd (kA t 54).2 (G.length + 1) (Int32.ofNat (cBk code ((m, d', vs, I') :: G))))) 49 11 (Int32.ofNat (G.length + 2))) = some (tE, .inl none) := by
      have h4' : kI (jI (jA (jA t 53 (upd (kA t 53).2 (G.length + 1) (Int32.ofNat (cStk ((m, d', vs, I') :: G)).length))) 54 (upd (kA t 54).2 (G.length + 1) (Int32.ofNat (cBk code ((m, d', vs, I') :: G))))) 49 11 (Int32.ofNat (G.length + 2))) 48 4 = Int32.ofNat T.2.2.1 := h4
      unfold cf_237 cf_237_0
      rw [h4', htE]
      congr 3
      have elt : (Int32.ofNat T.2.2.1 < Int32.ofNat (G.length + 2)) = (T.2.2.1 < G.length + 2) := ev_lt (by omega) (by omega)
      by_cases c : T.2.2.1 < G.length + 2
      · rw [if_pos (elt.mpr c), if_pos c]
      · rw [if_neg (fun q => c (elt.mp q)), if_neg c]
    have n10 : ¬ G.length + 1 = 10 := by omega
    have k54 : kA (jA t 53 (upd (kA t 53).2 (G.length + 1) (Int32.ofNat (cStk ((m, d', vs, I') :: G)).length))) 54 = kA t 54 := rfl
    clear htE w1 w2 w3 gE eC hlen
    generalize (cStk ((m, d', vs, I') :: G)).length = nc at *
    generalize cBk code ((m, d', vs, I') :: G) = cb at *
    generalize xs.length = nx at *
    generalize Fs[fi].2.2.2.1 = nvv at *
    unfold cf_157 cf_157_0 cf_157_18 cf_157_71 cf_157_80
    simp (disch := omega) only [ev_S, ev_C, ↓reduceIte, Nat.reduceEqDiff, Nat.reduceLeDiff, Nat.reduceAdd, Nat.reduceMul, Nat.reduceSub, reduceCtorEq, l32_0, l32_1, l32_2, l32_3, l32_4, l32_5, l32_6, l32_7, l32_8, l32_9, l32_10, l32_11, l32_12, l32_13, l32_14, l32_15, l32_16, l32_17, l32_18, l32_19, l32_20, l32_21, l32_22, l32_23, l32_24, l32_25, l32_26, l32_27, l32_28, l32_29, l32_33, l32_40, l32_41, l32_44, l32_45, l32_59, l32_61, l32_91, l32_93, l32_123, l32_125, z7, n10, l53, l54, c4, sb, hret, k54, e237, hP', hp2, w1']
  have CE : CX t0 tE p code Fs fu S0 u w ((Fs[fi].2.2.2.2.1, 0, xs.map some ++ List.replicate 0 none, []) :: (m, d', vs, I') :: G) sh (opT T (G.length + 2)) out := by
    have eC2 : cStk ((Fs[fi].2.2.2.2.1, 0, xs.map some ++ List.replicate 0 none, []) :: (m, d', vs, I') :: G) = cStk ((m, d, vs, J ++ I') :: G) := by
      show [] ++ ((xs.map some ++ []).reverse ++ cStk ((m, d', vs, I') :: G)) = _
      rw [List.append_nil, eC, List.map_reverse]
      rfl
    have eT2 : tStk ((Fs[fi].2.2.2.2.1, 0, xs.map some ++ List.replicate 0 none, []) :: (m, d', vs, I') :: G) = tStk ((m, d, vs, J ++ I') :: G) := by
      rw [← eT]
      rfl
    have e : ∀ k, ¬ (k = 53 ∨ k = 54) → ¬ k = 111 → kA tE k = kA t k ∧ kB tE k = kB t k := fun k k1 k2 => by
      have := gE.2.2.2.1 k k1 k2
      exact ⟨this.1, this.2.1⟩
    obtain ⟨a1, ⟨b1, b2, b3, b4, b5⟩, a3, a4, a5, a6⟩ := c1
    refine ⟨⟨a1.keep gE (fun f => ⟨fun q => by omega, fun q => by omega⟩) (fun k k1 k2 q => by omega), ?_, ?_, a4.keep2 gE (by omega) (by omega) (by omega), ?_, a6.tr2 (gE.mono2 (fun k f q => by show k = 42 ∨ k = 45 ∨ (k = 48 ∧ ¬ f = 0) ∨ k = 49 ∨ k = 58; omega) (fun k q => by show 43 ≤ k ∧ k ≤ 60; omega))⟩, ⟨?_, ?_, ?_, ?_, ?_, ?_, ?_, ?_⟩, gE.hp c3 (by omega) (by omega) (by omega) (by omega) (by omega), ?_⟩
    · rw [htE]; exact ⟨b1, b2, b3, rfl, b5⟩
    · rw [htE]; exact a3
    · rw [htE]; exact a5
    · rw [eC2]; exact z1.keep gE (by omega) (by omega)
    · refine ⟨?_, ?_, ?_⟩
      · rw [htE]; exact if_pos rfl
      · rw [htE]; exact if_pos rfl
      · -- those below
        have key : ∀ {H : List Fm}, H.length ≤ G.length + 1 → cFr t code H → cFr tE code H := by
          intro H
          induction H with
          | nil => intro _ _; trivial
          | cons a H ih =>
            intro hH q
            have hH : H.length + 1 ≤ G.length + 1 := hH
            refine ⟨?_, ?_, ih (by omega) q.2.2⟩
            · rw [htE]
              show (if H.length = G.length + 1 then _ else _) = _
              rw [if_neg (by omega)]
              exact q.1
            · rw [htE]
              show (if H.length = G.length + 1 then _ else _) = _
              rw [if_neg (by omega)]
              exact q.2.1
        exact key (Nat.le_refl _) (show cFr t code ((m, d', vs, I') :: G) from z2)
    · rw [eT2, (e 55 (by omega) (by omega)).1, (e 56 (by omega) (by omega)).1, (e 57 (by omega) (by omega)).1]
      exact z3
    · have l1 : (kA tE 53).1 = (kA t 53).1 := by rw [htE]; rfl
      have l2 : (kA tE 54).1 = (kA t 54).1 := by rw [htE]; rfl
      rw [l1, l2, (e 50 (by omega) (by omega)).2, (e 51 (by omega) (by omega)).1, (e 60 (by omega) (by omega)).1]
      exact z4
    · rw [eT2, (e 55 (by omega) (by omega)).1, (e 56 (by omega) (by omega)).1, (e 57 (by omega) (by omega)).1]
      exact z5
    · have ec : cel tE = cel t := by unfold cel; rw [(e 43 (by omega) (by omega)).2]
      rw [(e 50 (by omega) (by omega)).2, (e 51 (by omega) (by omega)).1, ec]
      exact z6
    · rw [htE]; rfl
    · rw [eT2, htE]; exact z8
    · rw [eC2, htE]; exact c4
  -- the variables
  have key : ∀ (dd i Q : Nat) (t1 : cS), i + dd = Fs[fi].2.2.2.1 - xs.length → dd < Q → CX t0 t1 p code Fs fu S0 u w ((Fs[fi].2.2.2.2.1, 0, xs.map some ++ List.replicate i none, []) :: (m, d', vs, I') :: G) sh (opT T (G.length + 2)) out → ∃ t', cf_157_L2 N X Q 0 (Int32.ofNat fi) (Int32.ofNat Fs[fi].2.2.2.1) (Int32.ofNat (xs.length + i)) t1 = some (t', .inl none) ∧ CX t0 t' p code Fs fu S0 u w ((Fs[fi].2.2.2.2.1, 0, xs.map some ++ List.replicate (Fs[fi].2.2.2.1 - xs.length) none, []) :: (m, d', vs, I') :: G) sh (opT T (G.length + 2)) out ∧ kI t' 49 17 = Int32.ofNat (posC code Fs[fi].2.2.2.2.1) := by
    intro dd
    induction dd with
    | zero =>
      intro i Q t1 hi hQ H
      obtain ⟨Q', rfl⟩ : ∃ Q', Q = Q' + 1 := ⟨Q - 1, by omega⟩
      have hi : i = Fs[fi].2.2.2.1 - xs.length := by omega
      obtain ⟨-, -, v3⟩ := c_told (N := N) (X := X) H.1.1 hfi
      have hP1 := H.1.1.1
      have hp2 : (p = 12 ∨ p = 21) = True := eq_true hp
      refine ⟨jI t1 49 17 (Int32.ofNat (posC code Fs[fi].2.2.2.2.1)), ?_, ?_, rfl⟩
      · show cf_157_85 N X (cf_157_L2 N X Q') (Int32.ofNat fi) (Int32.ofNat Fs[fi].2.2.2.1) (Int32.ofNat (xs.length + i)) t1 = _
        have n1 : Fs[fi].2.2.2.1 ≤ xs.length + i := by omega
        have n2 : xs.length + i ≤ 14 := by omega
        clear H CE E1
        generalize Fs[fi].2.2.2.1 = nvv at *
        unfold cf_157_85 cf_157_107 cf_157_116
        simp (disch := omega) only [ev_S, ev_C, ↓reduceIte, Nat.reduceEqDiff, Nat.reduceLeDiff, Nat.reduceAdd, Nat.reduceMul, Nat.reduceSub, reduceCtorEq, l32_0, l32_1, l32_2, l32_3, l32_4, l32_5, l32_6, l32_7, l32_8, l32_9, l32_10, l32_11, l32_12, l32_13, l32_14, l32_15, l32_16, l32_17, l32_18, l32_19, l32_20, l32_21, l32_22, l32_23, l32_24, l32_25, l32_26, l32_27, l32_28, l32_29, l32_33, l32_40, l32_41, l32_44, l32_45, l32_59, l32_61, l32_91, l32_93, l32_123, l32_125, n1, hP1, hp2, v3]
      · rw [hi] at H
        exact H.pc (Or.inl rfl)
    | succ dd ih =>
      intro i Q t1 hi hQ H
      obtain ⟨Q', rfl⟩ : ∃ Q', Q = Q' + 1 := ⟨Q - 1, by omega⟩
      have hcl : (cStk ((Fs[fi].2.2.2.2.1, 0, xs.map some ++ List.replicate i none, []) :: (m, d', vs, I') :: G)).length ≤ 20000 := by
        show ([] ++ ((xs.map some ++ List.replicate i none).reverse ++ cStk ((m, d', vs, I') :: G))).length ≤ _
        rw [List.nil_append, List.length_append, List.length_reverse, List.length_append, List.length_map, List.length_replicate]
        omega
      obtain ⟨t2, v1, v2⟩ := H.bareV (N := N) (X := X) hcl
      rw [List.append_assoc, ← List.replicate_succ'] at v2
      obtain ⟨t', k1, k2, k3⟩ := ih (i + 1) Q' t2 (by omega) (by omega) v2
      refine ⟨t', ?_, k2, k3⟩
      rw [← k1]
      show cf_157_85 N X (cf_157_L2 N X Q') (Int32.ofNat fi) (Int32.ofNat Fs[fi].2.2.2.1) (Int32.ofNat (xs.length + i)) t1 = _
      have n1 : ¬ Fs[fi].2.2.2.1 ≤ xs.length + i := by omega
      have n2 : xs.length + i ≤ 14 := by omega
      have eb : cf_253 N X (-Int32.ofNat 1) (Int32.ofNat 0) t1 = some (t1, .inl (some (.long bare))) := rfl
      clear H CE E1 v2 k1 k2
      generalize Fs[fi].2.2.2.1 = nvv at *
      unfold cf_157_85 cf_157_92 cf_157_98 cf_157_101
      simp (disch := omega) only [ev_S, ev_C, ↓reduceIte, Nat.reduceEqDiff, Nat.reduceLeDiff, Nat.reduceAdd, Nat.reduceMul, Nat.reduceSub, reduceCtorEq, l32_0, l32_1, l32_2, l32_3, l32_4, l32_5, l32_6, l32_7, l32_8, l32_9, l32_10, l32_11, l32_12, l32_13, l32_14, l32_15, l32_16, l32_17, l32_18, l32_19, l32_20, l32_21, l32_22, l32_23, l32_24, l32_25, l32_26, l32_27, l32_28, l32_29, l32_33, l32_40, l32_41, l32_44, l32_45, l32_59, l32_61, l32_91, l32_93, l32_123, l32_125, n1, eb, v1]
      rfl
  obtain ⟨t', k1, k2, k3⟩ := key (Fs[fi].2.2.2.1 - xs.length) 0 N tE (Nat.zero_add _) (by omega) CE
  exact ⟨t', by rw [E1]; exact k1, k2, k3⟩
end ENT
end
-- ### 98zi.pure.lean.txt
section
/-! ===== PURE: run (112): a call begins (the reference) ===== -/
section ENR
variable {N : Nat} {s0 s s1 s2 : mS} {f p h fu m m' d d' n k fi : Nat} {code : List Ins} {Fs : List Fn} {T : Ty} {out : List Int32} {G F : List Fm} {sh : Nat → Option Nod} {vs : List (Option Nod)} {I' J : List It} {q x1 bk : Int32} {xs : List Nod}
/-- the variables are laid -/
theorem r_vars (hN : 170000 ≤ N) {D nb r : Nat} (h73 : s.1 73 = Int32.ofNat D) (hD : D ≤ 9) (hnb : nb + r < 9000) (hr : r ≤ 14) : ∃ s2, mf_310_L4 N N 0 x1 (Int32.ofNat r) bk (Int32.ofNat nb) (Int32.ofNat 0) s = mf_310_114 N x1 bk (Int32.ofNat nb) s2 ∧ s2.1 = s.1 ∧ s2.2.1 = s.2.1 ∧ s2.2.2.2 = s.2.2.2 ∧ (∀ q, ¬ q = 77 → ¬ q = 78 → s2.2.2.1 q = s.2.2.1 q) ∧ (∀ v, v < 14 → s2.2.2.1 77 (14 * D + v) = (if v < r then s.2.2.1 49 (nb + v) else Int32.ofNat 2) ∧ s2.2.2.1 78 (14 * D + v) = (if v < r then s.2.2.1 50 (nb + v) else Int32.ofNat 0)) ∧ ∀ y, y < 14 * D → s2.2.2.1 77 y = s.2.2.1 77 y ∧ s2.2.2.1 78 y = s.2.2.1 78 y := by
  refine lp (fun F i (c : mS) => mf_310_L4 N F 0 x1 (Int32.ofNat r) bk (Int32.ofNat nb) (Int32.ofNat i) c) 14 (fun i c => c.1 = s.1 ∧ c.2.1 = s.2.1 ∧ c.2.2.2 = s.2.2.2 ∧ (∀ q, ¬ q = 77 → ¬ q = 78 → c.2.2.1 q = s.2.2.1 q) ∧ (∀ v, v < i → c.2.2.1 77 (14 * D + v) = (if v < r then s.2.2.1 49 (nb + v) else Int32.ofNat 2) ∧ c.2.2.1 78 (14 * D + v) = (if v < r then s.2.2.1 50 (nb + v) else Int32.ofNat 0)) ∧ ∀ y, y < 14 * D → c.2.2.1 77 y = s.2.2.1 77 y ∧ c.2.2.1 78 y = s.2.2.1 78 y) (fun R => ∃ s2, R = mf_310_114 N x1 bk (Int32.ofNat nb) s2 ∧ s2.1 = s.1 ∧ s2.2.1 = s.2.1 ∧ s2.2.2.2 = s.2.2.2 ∧ (∀ q, ¬ q = 77 → ¬ q = 78 → s2.2.2.1 q = s.2.2.1 q) ∧ (∀ v, v < 14 → s2.2.2.1 77 (14 * D + v) = (if v < r then s.2.2.1 49 (nb + v) else Int32.ofNat 2) ∧ s2.2.2.1 78 (14 * D + v) = (if v < r then s.2.2.1 50 (nb + v) else Int32.ofNat 0)) ∧ ∀ y, y < 14 * D → s2.2.2.1 77 y = s.2.2.1 77 y ∧ s2.2.2.1 78 y = s.2.2.1 78 y) ?_ ?_ 14 0 N s (by omega) (by omega) ⟨rfl, rfl, rfl, fun _ _ _ => rfl, fun v hv => by omega, fun _ _ => ⟨rfl, rfl⟩⟩
  · intro F i c hi hP _
    obtain ⟨p1, p2, p3, p4, p5, p6⟩ := hP
    left
    have c73 : c.1 73 = Int32.ofNat D := by rw [p1]; exact h73
    have ix : Int32.ofNat 14 * Int32.ofNat D + Int32.ofNat i = Int32.ofNat (14 * D + i) := by rw [i32mul, i32add]
    have hix : 14 * D + i < 140 := by omega
    have n14 : ¬ 14 ≤ i := by omega
    have step : ∀ k v, mf_310_L4 N (F + 1) 0 x1 (Int32.ofNat r) bk (Int32.ofNat nb) (Int32.ofNat i) c = mf_310_L4 N F 0 x1 (Int32.ofNat r) bk (Int32.ofNat nb) (Int32.ofNat (i + 1)) (mA (mA c 77 (upd (c.2.2.1 77) (14 * D + i) k)) 78 (upd (c.2.2.1 78) (14 * D + i) v)) → k = (if i < r then s.2.2.1 49 (nb + i) else Int32.ofNat 2) → v = (if i < r then s.2.2.1 50 (nb + i) else Int32.ofNat 0) → ∃ a', (a'.1 = s.1 ∧ a'.2.1 = s.2.1 ∧ a'.2.2.2 = s.2.2.2 ∧ (∀ q, ¬ q = 77 → ¬ q = 78 → a'.2.2.1 q = s.2.2.1 q) ∧ (∀ v, v < i + 1 → a'.2.2.1 77 (14 * D + v) = (if v < r then s.2.2.1 49 (nb + v) else Int32.ofNat 2) ∧ a'.2.2.1 78 (14 * D + v) = (if v < r then s.2.2.1 50 (nb + v) else Int32.ofNat 0)) ∧ ∀ y, y < 14 * D → a'.2.2.1 77 y = s.2.2.1 77 y ∧ a'.2.2.1 78 y = s.2.2.1 78 y) ∧ mf_310_L4 N (F + 1) 0 x1 (Int32.ofNat r) bk (Int32.ofNat nb) (Int32.ofNat i) c = mf_310_L4 N F 0 x1 (Int32.ofNat r) bk (Int32.ofNat nb) (Int32.ofNat (i + 1)) a' := by
      intro k v e1 e2 e3
      refine ⟨mA (mA c 77 (upd (c.2.2.1 77) (14 * D + i) k)) 78 (upd (c.2.2.1 78) (14 * D + i) v), ⟨p1, p2, p3, fun q q1 q2 => ?_, fun v' hv' => ⟨?_, ?_⟩, fun y hy => ⟨?_, ?_⟩⟩, e1⟩
      · show (if q = 78 then _ else if q = 77 then _ else c.2.2.1 q) = _
        rw [if_neg q2, if_neg q1]
        exact p4 q q1 q2
      · show (if 14 * D + v' = 14 * D + i then k else c.2.2.1 77 (14 * D + v')) = _
        by_cases c0 : v' = i
        · rw [if_pos (by omega), c0, e2]
        · rw [if_neg (by omega)]
          exact (p5 v' (by omega)).1
      · show (if 14 * D + v' = 14 * D + i then v else c.2.2.1 78 (14 * D + v')) = _
        by_cases c0 : v' = i
        · rw [if_pos (by omega), c0, e3]
        · rw [if_neg (by omega)]
          exact (p5 v' (by omega)).2
      · show (if y = 14 * D + i then _ else _) = _
        rw [if_neg (by omega)]
        exact (p6 y hy).1
      · show (if y = 14 * D + i then _ else _) = _
        rw [if_neg (by omega)]
        exact (p6 y hy).2
    by_cases cr : r ≤ i
    · refine step (Int32.ofNat 2) (Int32.ofNat 0) ?_ (by rw [if_neg (by omega)]) (by rw [if_neg (by omega)])
      show mf_310_31 N (mf_310_L4 N F) x1 (Int32.ofNat r) bk (Int32.ofNat nb) (Int32.ofNat i) c = _
      have c73' : (mA c 77 (upd (c.2.2.1 77) (14 * D + i) (Int32.ofNat 2))).1 73 = Int32.ofNat D := c73
      unfold mf_310_31 mf_310_38 mf_310_71 mf_310_72 mf_310_106 mf_310_107
      simp (disch := omega) only [ev_S, ev_P, ↓reduceIte, Nat.reduceEqDiff, Nat.reduceLeDiff, Nat.reduceAdd, Nat.reduceMul, Nat.reduceSub, reduceCtorEq, l32_0, l32_1, l32_2, l32_3, l32_4, l32_5, l32_6, l32_7, l32_8, l32_9, l32_10, l32_11, l32_12, l32_13, l32_14, l32_15, l32_16, l32_17, l32_18, l32_19, l32_20, l32_21, l32_22, l32_23, l32_24, l32_25, l32_26, l32_27, l32_28, l32_29, l32_33, l32_40, l32_41, l32_44, l32_45, l32_59, l32_61, l32_91, l32_93, l32_123, l32_125, n14, cr, c73, c73', ix]
    · have k49 : c.2.2.1 49 (nb + i) = s.2.2.1 49 (nb + i) := by rw [p4 49 (by omega) (by omega)]
      have k50 : c.2.2.1 50 (nb + i) = s.2.2.1 50 (nb + i) := by rw [p4 50 (by omega) (by omega)]
      refine step (s.2.2.1 49 (nb + i)) (s.2.2.1 50 (nb + i)) ?_ (by rw [if_pos (by omega)]) (by rw [if_pos (by omega)])
      show mf_310_31 N (mf_310_L4 N F) x1 (Int32.ofNat r) bk (Int32.ofNat nb) (Int32.ofNat i) c = _
      have c73' : (mA c 77 (upd (c.2.2.1 77) (14 * D + i) (s.2.2.1 49 (nb + i)))).1 73 = Int32.ofNat D := c73
      have k50' : (mA c 77 (upd (c.2.2.1 77) (14 * D + i) (s.2.2.1 49 (nb + i)))).2.2.1 50 (nb + i) = s.2.2.1 50 (nb + i) := k50
      unfold mf_310_31 mf_310_38 mf_310_58 mf_310_72 mf_310_93 mf_310_107
      simp (disch := omega) only [ev_S, ev_P, ↓reduceIte, Nat.reduceEqDiff, Nat.reduceLeDiff, Nat.reduceAdd, Nat.reduceMul, Nat.reduceSub, reduceCtorEq, l32_0, l32_1, l32_2, l32_3, l32_4, l32_5, l32_6, l32_7, l32_8, l32_9, l32_10, l32_11, l32_12, l32_13, l32_14, l32_15, l32_16, l32_17, l32_18, l32_19, l32_20, l32_21, l32_22, l32_23, l32_24, l32_25, l32_26, l32_27, l32_28, l32_29, l32_33, l32_40, l32_41, l32_44, l32_45, l32_59, l32_61, l32_91, l32_93, l32_123, l32_125, n14, cr, c73, k49, c73', ix, k50']
  · intro F c hP
    refine ⟨c, ?_, hP⟩
    show mf_310_31 N (mf_310_L4 N F) x1 (Int32.ofNat r) bk (Int32.ofNat nb) (Int32.ofNat 14) c = _
    unfold mf_310_31
    simp (disch := omega) only [ev_S, ev_P, ↓reduceIte, Nat.reduceEqDiff, Nat.reduceLeDiff, Nat.reduceAdd, Nat.reduceMul, Nat.reduceSub, reduceCtorEq, l32_0, l32_1, l32_2, l32_3, l32_4, l32_5, l32_6, l32_7, l32_8, l32_9, l32_10, l32_11, l32_12, l32_13, l32_14, l32_15, l32_16, l32_17, l32_18, l32_19, l32_20, l32_21, l32_22, l32_23, l32_24, l32_25, l32_26, l32_27, l32_28, l32_29, l32_33, l32_40, l32_41, l32_44, l32_45, l32_59, l32_61, l32_91, l32_93, l32_123, l32_125]
theorem RXm.enter (hN : 170000 ≤ N) (R : RXm s0 s h code Fs fu f ((m, d, vs, J ++ I') :: G) sh T out) (hJ : rIt J = xs.reverse) (hJw : wStk ((m, d, vs, J ++ I') :: G) = wStk ((m, d', vs, I') :: G)) (hfi : fi < Fs.length) (hF12 : Fs.length ≤ 12) (hG : G.length ≤ 8) (hl : (rStk ((m, d, vs, J ++ I') :: G)).length ≤ 8800) (hnv : xs.length ≤ Fs[fi].2.2.2.1 ∧ Fs[fi].2.2.2.1 ≤ 14) (hdp : T.2.2.1 ≤ 10) : ∃ s2, mf_310 N (Int32.ofNat (fb0 h + fi)) (Int32.ofNat xs.length) (rBk h code ((m, d', vs, I') :: G)) s = some (s2, none) ∧ RXm s0 s2 h code Fs fu f ((Fs[fi].2.2.2.2.1, 0, xs.map some ++ List.replicate (Fs[fi].2.2.2.1 - xs.length) none, []) :: (m, d', vs, I') :: G) sh (opT T (G.length + 2)) out ∧ s2.1 69 = Int32.ofNat (ob0 h + posR code Fs[fi].2.2.2.2.1) := by
  obtain ⟨r1, ⟨b1, b2, b3, b4, b5, b6, b7, b8⟩, r3⟩ := R
  have b6 : s.1 73 = Int32.ofNat (G.length + 1) := b6
  have eR : rStk ((m, d, vs, J ++ I') :: G) = xs.reverse ++ rStk ((m, d', vs, I') :: G) := by rw [rStk_app (m' := m) (d' := d'), hJ]
  have hlen : (rStk ((m, d, vs, J ++ I') :: G)).length = (rStk ((m, d', vs, I') :: G)).length + xs.length := by rw [eR, List.length_append, List.length_reverse]; omega
  rw [hlen] at r3
  have hh := r1.1.1
  have hfe := r1.1.2.2 fi hfi
  have hf20 : s.2.2.1 20 (fb0 h + fi) = Int32.ofNat (ob0 h + posR code Fs[fi].2.2.2.2.1) := hfe.1
  have hfb : fb0 h + fi < 24 := by unfold fb0; omega
  obtain ⟨sv, v1, v2, v3, v4, v5, v6, v7⟩ := r_vars (N := N) (s := s) (x1 := Int32.ofNat (fb0 h + fi)) (bk := rBk h code ((m, d', vs, I') :: G)) (D := G.length + 1) (nb := (rStk ((m, d', vs, I') :: G)).length) (r := xs.length) hN b6 (by omega) (by omega) (by omega)
  have E0 : mf_310 N (Int32.ofNat (fb0 h + fi)) (Int32.ofNat xs.length) (rBk h code ((m, d', vs, I') :: G)) s = mf_310_L4 N N 0 (Int32.ofNat (fb0 h + fi)) (Int32.ofNat xs.length) (rBk h code ((m, d', vs, I') :: G)) (Int32.ofNat (rStk ((m, d', vs, I') :: G)).length) (Int32.ofNat 0) s := by
    have n10 : ¬ G.length + 1 = 10 := by omega
    have sb : Int32.ofNat ((rStk ((m, d', vs, I') :: G)).length + xs.length) - Int32.ofNat xs.length = Int32.ofNat (rStk ((m, d', vs, I') :: G)).length := by rw [← Int32.ofNat_sub _ _ (by omega), Nat.add_sub_cancel]
    clear v1
    generalize (rStk ((m, d', vs, I') :: G)).length = nr at *
    unfold mf_310 mf_310_0 mf_310_20
    simp (disch := omega) only [ev_S, ev_P, ↓reduceIte, Nat.reduceEqDiff, Nat.reduceLeDiff, Nat.reduceAdd, Nat.reduceMul, Nat.reduceSub, reduceCtorEq, l32_0, l32_1, l32_2, l32_3, l32_4, l32_5, l32_6, l32_7, l32_8, l32_9, l32_10, l32_11, l32_12, l32_13, l32_14, l32_15, l32_16, l32_17, l32_18, l32_19, l32_20, l32_21, l32_22, l32_23, l32_24, l32_25, l32_26, l32_27, l32_28, l32_29, l32_33, l32_40, l32_41, l32_44, l32_45, l32_59, l32_61, l32_91, l32_93, l32_123, l32_125, b6, n10, r3, sb]
  have h63 : s.1 63 = Int32.ofNat T.2.2.1 := r1.2.1.2.2.2.1
  obtain ⟨s2, hs2⟩ : ∃ s2, s2 = mI (mI (mI (mA (mA (mA (mI sv 51 (Int32.ofNat (rStk ((m, d', vs, I') :: G)).length)) 74 (upd (sv.2.2.1 74) (G.length + 1) (Int32.ofNat (rStk ((m, d', vs, I') :: G)).length))) 75 (upd (sv.2.2.1 75) (G.length + 1) (rBk h code ((m, d', vs, I') :: G)))) 76 (upd (sv.2.2.1 76) (G.length + 1) (Int32.ofNat (wStk ((m, d', vs, I') :: G)).length))) 73 (Int32.ofNat (G.length + 2))) 63 (Int32.ofNat (if T.2.2.1 < G.length + 2 then G.length + 2 else T.2.2.1))) 69 (Int32.ofNat (ob0 h + posR code Fs[fi].2.2.2.2.1)) := ⟨_, rfl⟩
  have e114 : mf_310_114 N (Int32.ofNat (fb0 h + fi)) (rBk h code ((m, d', vs, I') :: G)) (Int32.ofNat (rStk ((m, d', vs, I') :: G)).length) sv = some (s2, none) := by
    have w73 : sv.1 73 = Int32.ofNat (G.length + 1) := by rw [v2]; exact b6
    have w63 : sv.1 63 = Int32.ofNat T.2.2.1 := by rw [v2]; exact h63
    have w79 : sv.1 79 = Int32.ofNat (wStk ((m, d', vs, I') :: G)).length := by rw [v2, ← hJw]; exact b7
    have w20 : sv.2.2.1 20 (fb0 h + fi) = Int32.ofNat (ob0 h + posR code Fs[fi].2.2.2.2.1) := by rw [v5 20 (by omega) (by omega)]; exact hf20
    rw [hs2]
    clear v1 E0 hs2
    generalize (rStk ((m, d', vs, I') :: G)).length = nr at *
    generalize (wStk ((m, d', vs, I') :: G)).length = nw at *
    generalize rBk h code ((m, d', vs, I') :: G) = rb at *
    generalize ob0 h + posR code Fs[fi].2.2.2.2.1 = en at *
    generalize fb0 h + fi = fn at *
    by_cases c : T.2.2.1 < G.length + 2
    · have c' : ¬ G.length + 2 ≤ T.2.2.1 := by omega
      rw [if_pos c]
      unfold mf_310_114 mf_310_176 mf_310_187
      simp (disch := omega) only [ev_S, ev_P, ↓reduceIte, Nat.reduceEqDiff, Nat.reduceLeDiff, Nat.reduceAdd, Nat.reduceMul, Nat.reduceSub, reduceCtorEq, l32_0, l32_1, l32_2, l32_3, l32_4, l32_5, l32_6, l32_7, l32_8, l32_9, l32_10, l32_11, l32_12, l32_13, l32_14, l32_15, l32_16, l32_17, l32_18, l32_19, l32_20, l32_21, l32_22, l32_23, l32_24, l32_25, l32_26, l32_27, l32_28, l32_29, l32_33, l32_40, l32_41, l32_44, l32_45, l32_59, l32_61, l32_91, l32_93, l32_123, l32_125, w73, w63, c', w79, w20]
    · have c' : G.length + 2 ≤ T.2.2.1 := by omega
      rw [if_neg c]
      unfold mf_310_114 mf_310_183 mf_310_187
      simp (disch := omega) only [ev_S, ev_P, ↓reduceIte, Nat.reduceEqDiff, Nat.reduceLeDiff, Nat.reduceAdd, Nat.reduceMul, Nat.reduceSub, reduceCtorEq, l32_0, l32_1, l32_2, l32_3, l32_4, l32_5, l32_6, l32_7, l32_8, l32_9, l32_10, l32_11, l32_12, l32_13, l32_14, l32_15, l32_16, l32_17, l32_18, l32_19, l32_20, l32_21, l32_22, l32_23, l32_24, l32_25, l32_26, l32_27, l32_28, l32_29, l32_33, l32_40, l32_41, l32_44, l32_45, l32_59, l32_61, l32_91, l32_93, l32_123, l32_125, w73, w63, c', w79, w20]
  refine ⟨s2, by rw [E0, v1, e114], ⟨?_, ⟨?_, ?_, ?_, ?_, ?_, ?_, ?_, ?_⟩, ?_⟩, by rw [hs2]; rfl⟩
  · -- the base
    have iq : ∀ q, ¬ (q = 51 ∨ q = 73 ∨ q = 63 ∨ q = 69) → s2.1 q = s.1 q := fun q hq => by
      rw [hs2]
      show (if q = 69 then _ else if q = 63 then _ else if q = 73 then _ else if q = 51 then _ else sv.1 q) = _
      rw [if_neg (by omega), if_neg (by omega), if_neg (by omega), if_neg (by omega), v2]
    have aq : ∀ q, ¬ (74 ≤ q ∧ q ≤ 78) → s2.2.2.1 q = s.2.2.1 q := fun q hq => by
      rw [hs2]
      show (if q = 76 then _ else if q = 75 then _ else if q = 74 then _ else sv.2.2.1 q) = _
      rw [if_neg (by omega), if_neg (by omega), if_neg (by omega), v5 q (by omega) (by omega)]
    obtain ⟨a1, ⟨t1, t2, t3, t4, t5⟩, a3, a4, a5⟩ := r1
    refine ⟨a1.keep (fun q q1 q2 => aq q (by omega)), ⟨?_, ?_, ?_, ?_, ?_⟩, ⟨?_, ?_⟩, a4.ch (iq 87 (by omega)) (aq 86 (by omega)), a5.tr ⟨⟨fun q r => iq q (by unfold iRn at r; omega), fun q r => ?_, fun q r => aq q (by unfold aRn at r; omega), fun q r => ?_⟩, fun y hy => by rw [aq 47 (by omega)]⟩⟩
    · rw [iq 61 (by omega)]; exact t1
    · rw [iq 60 (by omega)]; exact t2
    · rw [iq 62 (by omega)]; exact t3
    · rw [hs2]; rfl
    · rw [iq 64 (by omega)]; exact t5
    · rw [iq 66 (by omega)]; exact a3.1
    · rw [iq 67 (by omega)]; exact a3.2
    · rw [hs2]; show sv.2.1 q = _; rw [v3]
    · rw [hs2]; show sv.2.2.2 q = _; rw [v4]
  · -- the stack
    have e49 : s2.2.2.1 49 = s.2.2.1 49 := by rw [hs2]; exact v5 49 (by omega) (by omega)
    have e50 : s2.2.2.1 50 = s.2.2.1 50 := by rw [hs2]; exact v5 50 (by omega) (by omega)
    have e47 : s2.2.2.1 47 = s.2.2.1 47 := by rw [hs2]; exact v5 47 (by omega) (by omega)
    rw [e49, e50, e47]
    rw [eR] at b1
    exact b1.app
  · -- the tables
    have e47 : s2.2.2.1 47 = s.2.2.1 47 := by rw [hs2]; exact v5 47 (by omega) (by omega)
    refine ⟨?_, ?_, ?_, fun i hi => ?_, ?_⟩
    · rw [hs2]; exact if_pos rfl
    · rw [hs2]; exact if_pos rfl
    · rw [hs2]; exact if_pos rfl
    · have e77 : s2.2.2.1 77 = sv.2.2.1 77 := by rw [hs2]; rfl
      have e78 : s2.2.2.1 78 = sv.2.2.1 78 := by rw [hs2]; rfl
      rw [e47, e77, e78]
      obtain ⟨u1, u2⟩ := v6 i hi
      show rvo (s.2.2.1 47) f (sv.2.2.1 77 (14 * (G.length + 1) + i)) (sv.2.2.1 78 (14 * (G.length + 1) + i)) _
      rw [u1, u2]
      by_cases c : i < xs.length
      · rw [if_pos c, if_pos c]
        have eg : (xs.map some ++ List.replicate (Fs[fi].2.2.2.1 - xs.length) none).getD i none = some (xs[i]) := by
          rw [List.getD_eq_getElem?_getD, List.getElem?_append_left (by rw [List.length_map]; exact c), List.getElem?_map, List.getElem?_eq_getElem c]
          rfl
        show rvo _ _ _ _ ((xs.map some ++ List.replicate (Fs[fi].2.2.2.1 - xs.length) none).getD i none)
        rw [eg]
        rw [eR] at b1
        have := b1.get (i := xs.length - 1 - i) (by rw [List.length_append, List.length_reverse]; omega)
        rw [List.getElem_append_left (by rw [List.length_reverse]; omega), List.getElem_reverse] at this
        simp only [List.length_append, List.length_reverse] at this
        rw [show xs.length + (rStk ((m, d', vs, I') :: G)).length - 1 - (xs.length - 1 - i) = (rStk ((m, d', vs, I') :: G)).length + i by omega] at this
        have e2 : xs[xs.length - 1 - (xs.length - 1 - i)]'(by omega) = xs[i] := by
          congr 1
          omega
        rw [e2] at this
        exact this
      · rw [if_neg c, if_neg c]
        have eg : (xs.map some ++ List.replicate (Fs[fi].2.2.2.1 - xs.length) (none : Option Nod)).getD i none = none := by
          rw [List.getD_eq_getElem?_getD, List.getElem?_append_right (by rw [List.length_map]; omega)]
          by_cases c2 : i - (xs.map some).length < Fs[fi].2.2.2.1 - xs.length
          · rw [List.getElem?_replicate, if_pos c2]
            rfl
          · rw [List.getElem?_replicate, if_neg c2]
            rfl
        show rvo _ _ _ _ ((xs.map some ++ List.replicate (Fs[fi].2.2.2.1 - xs.length) (none : Option Nod)).getD i none)
        rw [eg]
        rfl
    · refine rFr.loc (s := s) (F := (m, d', vs, I') :: G) (fun q q1 q2 y hy => ?_) (fun y hy => ⟨?_, ?_⟩) (Nat.le_refl _) (fun y _ => by rw [e47]) (rFr.hd (a := (m, d, vs, J ++ I')) rfl b2)
      · rw [hs2]
        have hy : y < G.length + 1 := hy
        show (if q = 76 then upd (sv.2.2.1 76) (G.length + 1) _ else if q = 75 then upd (sv.2.2.1 75) (G.length + 1) _ else if q = 74 then upd (sv.2.2.1 74) (G.length + 1) _ else sv.2.2.1 q) y = _
        have hq : q = 74 ∨ q = 75 ∨ q = 76 := by omega
        rcases hq with e | e | e <;> subst e
        · rw [if_neg (by omega), if_neg (by omega), if_pos rfl]
          show (if y = G.length + 1 then _ else _) = _
          rw [if_neg (by omega), v5 74 (by omega) (by omega)]
        · rw [if_neg (by omega), if_pos rfl]
          show (if y = G.length + 1 then _ else _) = _
          rw [if_neg (by omega), v5 75 (by omega) (by omega)]
        · rw [if_pos rfl]
          show (if y = G.length + 1 then _ else _) = _
          rw [if_neg (by omega), v5 76 (by omega) (by omega)]
      · rw [hs2]; exact (v7 y hy).1
      · rw [hs2]; exact (v7 y hy).2
  · have eA : ∀ q, 80 ≤ q → q ≤ 85 → s2.2.2.1 q = s.2.2.1 q := fun q q1 q2 => by
      rw [hs2]
      show (if q = 76 then _ else if q = 75 then _ else if q = 74 then _ else sv.2.2.1 q) = _
      rw [if_neg (by omega), if_neg (by omega), if_neg (by omega), v5 q (by omega) (by omega)]
    have e47 : s2.2.2.1 47 = s.2.2.1 47 := by rw [hs2]; exact v5 47 (by omega) (by omega)
    rw [eA 80 (by omega) (by omega), eA 81 (by omega) (by omega), eA 82 (by omega) (by omega), eA 83 (by omega) (by omega), eA 84 (by omega) (by omega), eA 85 (by omega) (by omega), e47]
    show stk _ _ (wStk ((m, d', vs, I') :: G))
    rw [← hJw]
    exact b3
  · have e47 : s2.2.2.1 47 = s.2.2.1 47 := by rw [hs2]; exact v5 47 (by omega) (by omega)
    have e71 : s2.2.2.1 71 = s.2.2.1 71 := by rw [hs2]; exact v5 71 (by omega) (by omega)
    have e72 : s2.2.2.1 72 = s.2.2.1 72 := by rw [hs2]; exact v5 72 (by omega) (by omega)
    rw [e47, e71, e72]
    exact b4
  · have e47 : s2.2.2.1 47 = s.2.2.1 47 := by rw [hs2]; exact v5 47 (by omega) (by omega)
    rw [e47]; exact b5
  · rw [hs2]; rfl
  · rw [hs2]
    show sv.1 79 = _
    rw [v2, b7, hJw]
    rfl
  · rw [hs2]
    show sv.1 48 = _
    rw [v2]; exact b8
  · rw [hs2]; rfl
end ENR
end
-- ### 98zj.pure.lean.txt
section
/-! ===== PURE: run (113): instructions: a call ===== -/
section CAL
variable {N : Nat} {X : Nat → Option zz_C} {t0 t t1 t2 : cS} {s0 s s' s1 s2 : mS} {u w f f' p h fu m m' d d' n k b z j k0 fi : Nat} {code : List Ins} {Fs : List Fn} {T T' T1 : Ty} {out out' : List Int32} {F G : List Fm} {sh sh' S0 : Nat → Option Nod} {vs vs' : List (Option Nod)} {I I' J : List It} {q r pl kk gg a1 b1 c1 : Int32} {x y : Nod} {L L' : List Nat} {g : Fn} {xs : List Nod}
/-- the picture with a call more: T1 the tally after the step -/
theorem CK.ent (K : CK code Fs fu ((m, d, vs, I) :: G) sh T out n) (P : PL code Fs m vs I g) (eI : I = J ++ I') (hG : G.length ≤ 8) (hfi : fi < Fs.length) (hx : ∀ x ∈ xs, wfN x ∧ x.1 ≤ 4) (hsus : tyS code (m, d', vs, I')) (hok : okIs code g.2.2.2.2.1 g.2.2.2.2.2 I') (hnv : xs.length ≤ Fs[fi].2.2.2.1) (hT1 : okTy fu T1 ∧ T1.2.1 = T.2.1 ∧ T1.1 = T.1 + 1) (hpot : k + 4 + crL I' + pvI I ≤ crL I + 20 + pvI I') (h5 : n5I I' ≤ n5I I) : CK code Fs fu ((Fs[fi].2.2.2.2.1, 0, xs.map some ++ List.replicate (Fs[fi].2.2.2.1 - xs.length) none, []) :: (m, d', vs, I') :: G) sh (opT T1 (G.length + 2)) out (n + k) := by
  have hK := K
  obtain ⟨⟨h1, h2⟩, h3, ⟨a, G', e', t1, t2, t3⟩, h6, h7, h8, h9⟩ := K
  cases e'
  obtain ⟨hT1a, hT1b, hT1c⟩ := hT1
  have hFO := h1.1 Fs[fi] (List.getElem_mem hfi)
  refine ⟨⟨h1, hT1a.1, hT1a.2.1, hT1a.2.2.1, ?_, hT1a.2.2.2.2⟩, ?_, ⟨_, _, rfl, ⟨[], hFO.2.2.1, Or.inl ⟨rfl, rfl, fun y hy => by cases hy⟩⟩, ⟨Fs[fi], List.getElem_mem hfi, Nat.le_refl _, hFO.1, ?_, trivial⟩, fun c hc => ?_⟩, fun x hx' => ?_, h7, ?_, ?_⟩
  · show (if T1.2.2.1 < G.length + 2 then G.length + 2 else T1.2.2.1) ≤ 10
    have := hT1a.2.2.2.1
    split <;> omega
  · show G.length + 1 + 1 ≤ 10
    omega
  · show (xs.map some ++ List.replicate (Fs[fi].2.2.2.1 - xs.length) none).length = _
    rw [List.length_append, List.length_map, List.length_replicate]
    omega
  · rcases List.mem_cons.mp hc with e | e
    · rw [e]
      exact ⟨hsus, g, P.1, P.2.1.1, P.2.1.2.1, P.2.2.1.1, hok⟩
    · exact t3 c e
  · have hx' : some x ∈ [] ++ ((xs.map some ++ List.replicate (Fs[fi].2.2.2.1 - xs.length) none).reverse ++ cStk ((m, d', vs, I') :: G)) := hx'
    rcases List.mem_append.mp hx' with e | e
    · cases e
    · rcases List.mem_append.mp e with e | e
      · rcases List.mem_append.mp (List.mem_reverse.mp e) with e | e
        · obtain ⟨y, hy, e2⟩ := List.mem_map.mp e
          cases e2
          exact hx x hy
        · have := List.eq_of_mem_replicate e
          cases this
      · refine h6 x ?_
        rw [eI, cStk_app (m' := m) (d' := d')]
        exact List.mem_append_right _ e
  · have h8 : n + (4 + crL I + cr G) ≤ 20 * T.1 + 60 * T.2.1 + (pvI I + pv G) + 4 := h8
    show n + k + (4 + 0 + (4 + crL I' + cr G)) ≤ 20 * T1.1 + 60 * T1.2.1 + (0 + (pvI I' + pv G)) + 4
    rw [hT1b, hT1c]
    omega
  · have h9 : out.length + 9100 * (n5I I + n5 G) ≤ 9100 * T.1 := h9
    show out.length + 9100 * (0 + (n5I I' + n5 G)) ≤ 9100 * T1.1
    rw [hT1c]
    omega
theorem okIs.suf : ∀ {J : List It}, okIs code b z (J ++ I') → okIs code b z I'
  | [], q => q
  | _ :: J, q => okIs.suf (J := J) q.2
theorem fr_fb {e j : Nat} (h : j < 20000) : fr e j = Int32.ofNat (fb0 e + j) := by
  unfold fr
  rw [if_neg (by show ¬ j = 99999; omega)]
theorem fa_e {j : Nat} (h : j < 20000) : fa j = Int32.ofNat j := by
  unfold fa
  rw [if_neg (by show ¬ j = 99999; omega)]
theorem i_9 (hN : 170000 ≤ N) (C : CS t0 t p code Fs fu S0 ((m, 0, vs, I) :: G) sh T out) (R : RSm s0 s h code Fs fu ((m, 0, vs, I) :: G) sh T out) (K : CK code Fs fu ((m, 0, vs, I) :: G) sh T out n) (ho : (inA code m).1 = 9) : GO N X t0 s0 p h code Fs fu S0 t s n := by
  obtain ⟨u, w, f, g, C1, C2, C4, R1, R2, R4, P, hm, hcx, hrl, hG, ⟨b1', b2, b6⟩, hT, hol⟩ := open0 C R K
  obtain ⟨ec, er⟩ := cI_9 (code := code) (own := posC code m) (e := h) ho
  obtain ⟨L', z3, z4⟩ := K.nxt
  obtain ⟨hl, hp⟩ := K.ly0
  obtain ⟨hfi, hpar⟩ := K.1.1.2.1 m hm (Or.inl ho)
  have hfi : (inA code m).2.1 < Fs.length := hfi
  have hpar : Fs[(inA code m).2.1].2.2.1 = (inA code m).2.2.1 := hpar
  have hFO := K.1.1.1 _ (List.getElem_mem hfi)
  have hF12 : Fs.length ≤ 12 := C1.1.1.2.2.2.2.1
  obtain ⟨M, hM1, hM2⟩ : ∃ M, pop0 (inA code m).2.2.1 (kd I) = some M ∧ L' = 0 :: M := by
    generalize inA code m = c at *
    obtain ⟨o', jj, r0, aa, pp, xx, yy⟩ := c
    have z : o' = 9 := ho
    subst z
    have z3 : (pop0 r0 (kd I)).map (0 :: ·) = some L' := z3
    show ∃ M, pop0 r0 (kd I) = some M ∧ L' = 0 :: M
    cases hM : pop0 r0 (kd I) with
    | none => rw [hM] at z3; cases z3
    | some M =>
      rw [hM] at z3
      exact ⟨M, rfl, (Option.some.inj z3).symm⟩
  obtain ⟨xs, J, I', e1, e2, e3, e4, e5, e6, e7, e8⟩ := topV K P hM1
  have hnv : xs.length ≤ Fs[(inA code m).2.1].2.2.2.1 ∧ Fs[(inA code m).2.1].2.2.2.1 ≤ 14 := by
    have := hFO.2.2.2.2.2.2.1
    rw [e2, ← hpar]
    omega
  have hx4 : xs.length ≤ 4 := by
    have := hFO.2.2.2.2.2.2.1
    rw [e2, ← hpar]
    omega
  have hsus : tyS code (m, 0, vs, I') := ⟨kd I, hl, Or.inl ⟨ho, by rw [e7]; exact hM1, fun y hy => hp y (by rw [e1]; exact List.mem_append_right _ hy)⟩⟩
  have hokI : okIs code g.2.2.2.2.1 g.2.2.2.2.2 I' := by
    have := P.2.2.2.1
    rw [e1] at this
    exact okIs.suf this
  rw [fa_e (by omega)] at ec
  rw [fr_fb (by omega), ← e2] at er
  have hpar' : Fs[(inA code m).2.1].2.2.1 = xs.length := by rw [hpar, e2]
  generalize (inA code m).2.2.2.2.1 = pl at *
  obtain ⟨D1, D2⟩ := C1.fet (N := N) (X := X) (n := n) (l1 := []) rfl C4 hm ec hcx (by omega)
  obtain ⟨s1, kx, y1, y2, y3, y4, y5, y6, ⟨y7, y8, y9, y10⟩, y11, y12⟩ := R1.fet (N := N) (l1 := []) hG rfl R4 hm er hrl
  have hop : mf_313 N (Int32.ofNat kx) s1 = mf_313_185 N (Int32.ofNat kx) s1 := r_op9 y3 y7
  have hcBk : cBk code ((m, 0, vs, I') :: G) = posC code m + 1 := by
    show posC code m + (if (inA code m).1 = 10 then 2 else 1) = _
    rw [if_neg (by omega)]
  generalize hfe : (inA code m).2.1 = fi at *
  by_cases hs : T.1 < fu
  · have hst := c_step (N := N) (X := X) (t := jI t 49 17 (Int32.ofNat (posC code m + 0 + 1))) (q := pl) D1.1.2.1.1 D1.1.2.1.2.1 hT.1 hs
    have hT1 : okTy fu (T.1 + 1, T.2) := ⟨hT.1, hs, hT.2.2⟩
    have Rst := y4.st
    have hstep := r_step (N := N) y4 hT.1 hs
    have h66 : (mI s1 60 (Int32.ofNat (T.1 + 1))).1 66 = Int32.ofNat 0 := Rst.1.2.2.1.1
    have hround : ∀ t3, cf_157 N X (Int32.ofNat fi) (Int32.ofNat xs.length) pl (jI (jI t 49 17 (Int32.ofNat (posC code m + 0 + 1))) 48 2 (Int32.ofNat (T.1 + 1))) = some (t3, .inl none) → ∀ Q, cf_141_L4 N X (Q + 1) 0 (Int32.ofNat n) t = cf_141_L4 N X Q 0 (Int32.ofNat (n + 1)) t3 := fun t3 ht Q => by
      rw [D2 Q]
      refine c_rdSM (by decide) (by decide) (by decide) hst (c_mv28.trans ?_)
      have CS1 := D1.st
      obtain ⟨-, w2, -⟩ := c_told (N := N) (X := X) CS1.1.1 hfi
      rw [hpar'] at w2
      have hP1 := CS1.1.1.1
      have hp2 : (p = 12 ∨ p = 21) = True := eq_true CS1.1.1.2.1
      clear D1 D2 CS1 hst
      generalize jI (jI t 49 17 (Int32.ofNat (posC code m + 0 + 1))) 48 2 (Int32.ofNat (T.1 + 1)) = tq at *
      unfold cf_142_281 cf_142_292 cf_142_296
      simp (disch := omega) only [ev_S, ev_C, ↓reduceIte, Nat.reduceEqDiff, Nat.reduceLeDiff, Nat.reduceAdd, Nat.reduceMul, Nat.reduceSub, reduceCtorEq, l32_0, l32_1, l32_2, l32_3, l32_4, l32_5, l32_6, l32_7, l32_8, l32_9, l32_10, l32_11, l32_12, l32_13, l32_14, l32_15, l32_16, l32_17, l32_18, l32_19, l32_20, l32_21, l32_22, l32_23, l32_24, l32_25, l32_26, l32_27, l32_28, l32_29, l32_33, l32_40, l32_41, l32_44, l32_45, l32_59, l32_61, l32_91, l32_93, l32_123, l32_125, hP1, hp2, w2, ht]
    have href : ∀ s3, mf_310 N (Int32.ofNat (fb0 h + fi)) (Int32.ofNat xs.length) (s1.1 69) (mI s1 60 (Int32.ofNat (T.1 + 1))) = some (s3, none) → mf_313 N (Int32.ofNat kx) s1 = some (s3, none) := fun s3 hs3 => by
      rw [hop]
      have y7' : (mI s1 60 (Int32.ofNat (T.1 + 1))).2.2.1 23 kx = Int32.ofNat 9 := y7
      have y8' : (mI s1 60 (Int32.ofNat (T.1 + 1))).2.2.1 24 kx = Int32.ofNat (fb0 h + fi) := y8
      have y9' : (mI s1 60 (Int32.ofNat (T.1 + 1))).2.2.1 25 kx = Int32.ofNat xs.length := y9
      have y69 : (mI s1 60 (Int32.ofNat (T.1 + 1))).1 69 = s1.1 69 := rfl
      clear Rst
      generalize mI s1 60 (Int32.ofNat (T.1 + 1)) = sS at *
      have hw9 : mf_316 N (Int32.ofNat kx) sS = some (s3, none) := by
        rw [r_wk9 y3 y7']
        generalize fb0 h + fi = fn at *
        unfold mf_316_109 mf_316_129
        simp (disch := omega) only [ev_S, ev_P, ↓reduceIte, Nat.reduceEqDiff, Nat.reduceLeDiff, Nat.reduceAdd, Nat.reduceMul, Nat.reduceSub, reduceCtorEq, l32_0, l32_1, l32_2, l32_3, l32_4, l32_5, l32_6, l32_7, l32_8, l32_9, l32_10, l32_11, l32_12, l32_13, l32_14, l32_15, l32_16, l32_17, l32_18, l32_19, l32_20, l32_21, l32_22, l32_23, l32_24, l32_25, l32_26, l32_27, l32_28, l32_29, l32_33, l32_40, l32_41, l32_44, l32_45, l32_59, l32_61, l32_91, l32_93, l32_123, l32_125, y8', y9', y69, hs3, l32_8000]
      unfold mf_313_185 mf_313_189 mf_313_196 mf_313_201
      simp (disch := omega) only [ev_S, ev_P, ↓reduceIte, Nat.reduceEqDiff, Nat.reduceLeDiff, Nat.reduceAdd, Nat.reduceMul, Nat.reduceSub, reduceCtorEq, l32_0, l32_1, l32_2, l32_3, l32_4, l32_5, l32_6, l32_7, l32_8, l32_9, l32_10, l32_11, l32_12, l32_13, l32_14, l32_15, l32_16, l32_17, l32_18, l32_19, l32_20, l32_21, l32_22, l32_23, l32_24, l32_25, l32_26, l32_27, l32_28, l32_29, l32_33, l32_40, l32_41, l32_44, l32_45, l32_59, l32_61, l32_91, l32_93, l32_123, l32_125, hstep, h66, hw9]
    have h30 := hT.2.2.1
    by_cases c10 : G.length ≤ 8
    · obtain ⟨t3, v1, v2, v3⟩ := (show CX t0 (jI (jI t 49 17 (Int32.ofNat (posC code m + 0 + 1))) 48 2 (Int32.ofNat (T.1 + 1))) p code Fs fu S0 u w ((m, 0, vs, J ++ I') :: G) sh (T.1 + 1, T.2) out from by rw [← e1]; exact D1.st).enter (N := N) (X := X) (d' := 0) (fi := fi) (q := pl) hN e4 (fun y hy => by have := e5 y hy; omega) hfi c10 (by rw [hcBk]; rfl) (by rw [← e1]; omega) hnv hT.2.2.2.1
      obtain ⟨s3, r1, r2, r3⟩ := (show RXm s0 (mI s1 60 (Int32.ofNat (T.1 + 1))) h code Fs fu f ((m, 0, vs, J ++ I') :: G) sh (T.1 + 1, T.2) out from by rw [← e1]; exact Rst).enter (N := N) (d' := 0) (fi := fi) hN e3 (wStk_v e5) hfi hF12 c10 (by rw [← e1]; omega) hnv hT.2.2.2.1
      have hbk : rBk h code ((m, 0, vs, I') :: G) = s1.1 69 := by
        rw [y5, y1]
        rfl
      rw [hbk] at r1
      refine goOn (k := 1) (j := 1) (by omega) (hround t3 v1) (fun Q x2 => y11 s3 (href s3 r1) r2.1.2.2.1.1 Q x2) v2 C2 v3 r2 R2 r3 (K.ent P e1 c10 hfi e8 hsus hokI hnv.1 ⟨hT1, rfl, rfl⟩ ?_ ?_)
      · rw [e1, crL_app, pv_app (fun y hy => Or.inl (e5 y hy)), e6, ← e2]
        omega
      · rw [e1, n5I_app]
        omega
    · -- too deep
      have hg9 : G.length = 9 := by omega
      obtain ⟨x1, x2, x3⟩ := Rst.trb (N := N) (k := 8) (q := pl)
      refine trob0 (kq := 8) (k0 := 1) (ra := Int32.ofNat 0) (by omega) (by omega) (by omega) K hT1 ⟨by show T.1 ≤ T.1 + 1; omega, Nat.le_refl _⟩ (D1.st) (Nat.le_trans C2 (Nat.le_add_right _ _)) x2 x3 ⟨R2.1, Nat.le_trans R2.2 (Nat.le_add_right _ _)⟩ rfl (fun t3 ht => hround t3 ?_) (y12 _ 8 (href _ ?_) rfl (by omega)) b6
      · have z7 : kI (jI (jI t 49 17 (Int32.ofNat (posC code m + 0 + 1))) 48 2 (Int32.ofNat (T.1 + 1))) 49 11 = Int32.ofNat 10 := by
          have := (D1.st).2.1.2.2.2.2.2.2.1
          rw [List.length_cons, hg9] at this
          exact this
        clear D1 D2 hst hround
        generalize jI (jI t 49 17 (Int32.ofNat (posC code m + 0 + 1))) 48 2 (Int32.ofNat (T.1 + 1)) = tq at *
        unfold cf_157 cf_157_0 cf_157_9 cf_157_17
        simp (disch := omega) only [ev_S, ev_C, ↓reduceIte, Nat.reduceEqDiff, Nat.reduceLeDiff, Nat.reduceAdd, Nat.reduceMul, Nat.reduceSub, reduceCtorEq, l32_0, l32_1, l32_2, l32_3, l32_4, l32_5, l32_6, l32_7, l32_8, l32_9, l32_10, l32_11, l32_12, l32_13, l32_14, l32_15, l32_16, l32_17, l32_18, l32_19, l32_20, l32_21, l32_22, l32_23, l32_24, l32_25, l32_26, l32_27, l32_28, l32_29, l32_33, l32_40, l32_41, l32_44, l32_45, l32_59, l32_61, l32_91, l32_93, l32_123, l32_125, z7, ht]
      · have z73 : (mI s1 60 (Int32.ofNat (T.1 + 1))).1 73 = Int32.ofNat 10 := by
          have := Rst.2.1.2.2.2.2.2.1
          rw [List.length_cons, hg9] at this
          exact this
        have z70 : (mI s1 60 (Int32.ofNat (T.1 + 1))).1 70 = pl := y6
        clear href x2 x3 Rst
        generalize mI s1 60 (Int32.ofNat (T.1 + 1)) = sS at *
        unfold mf_310 mf_310_0 mf_310_9 mf_310_19
        simp (disch := omega) only [ev_S, ev_P, ↓reduceIte, Nat.reduceEqDiff, Nat.reduceLeDiff, Nat.reduceAdd, Nat.reduceMul, Nat.reduceSub, reduceCtorEq, l32_0, l32_1, l32_2, l32_3, l32_4, l32_5, l32_6, l32_7, l32_8, l32_9, l32_10, l32_11, l32_12, l32_13, l32_14, l32_15, l32_16, l32_17, l32_18, l32_19, l32_20, l32_21, l32_22, l32_23, l32_24, l32_25, l32_26, l32_27, l32_28, l32_29, l32_33, l32_40, l32_41, l32_44, l32_45, l32_59, l32_61, l32_91, l32_93, l32_123, l32_125, z73, z70, x1]
  · obtain ⟨e1', e2', e3'⟩ := r_nost (N := N) y4 hT.1 hs hT.2.1
    rw [y6] at e1' e2' e3'
    refine nofuel (l1 := 0) (j0 := 0) C1 D2 (by decide) hT hs e2' e3' (y12 _ 10 ?_ rfl (by omega)) hol hG
    rw [hop]
    have h66 : (trb s1 (Int32.ofNat 10) pl).1 66 = Int32.ofNat 10 := rfl
    clear e2' e3'
    generalize trb s1 (Int32.ofNat 10) pl = sT at *
    unfold mf_313_185 mf_313_189 mf_313_201
    simp (disch := omega) only [ev_S, ev_P, ↓reduceIte, Nat.reduceEqDiff, Nat.reduceLeDiff, Nat.reduceAdd, Nat.reduceMul, Nat.reduceSub, reduceCtorEq, l32_0, l32_1, l32_2, l32_3, l32_4, l32_5, l32_6, l32_7, l32_8, l32_9, l32_10, l32_11, l32_12, l32_13, l32_14, l32_15, l32_16, l32_17, l32_18, l32_19, l32_20, l32_21, l32_22, l32_23, l32_24, l32_25, l32_26, l32_27, l32_28, l32_29, l32_33, l32_40, l32_41, l32_44, l32_45, l32_59, l32_61, l32_91, l32_93, l32_123, l32_125, e1', h66]
end CAL
end
