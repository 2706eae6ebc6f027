/-! ===== PURE: run (101): instructions: ask, raise, put ===== -/
section IN5
variable {N : Nat} {X : Nat → Option zz_C} {t0 t t1 t2 : cS} {s0 s s' s1 s2 : mS} {u w f f' p h fu m m' d d' n k b z j : Nat} {code : List Ins} {Fs : List Fn} {T T' : Ty} {out out' : List Int32} {F G : List Fm} {sh sh' S0 : Nat → Option Nod} {vs vs' : List (Option Nod)} {I I' J : List It} {q r pl kk v : Int32} {it : It} {x : Nod} {l : List Nod} {c : Ins} {L L' : List Nat} {g : Fn} {a a' : Fm}
/-- the value on top of the reference's stack -/
theorem RXm.hd (R : RXm s0 s h code Fs fu f ((m, d, vs, (0, [x], j) :: I) :: G) sh T out) : s.1 51 = Int32.ofNat ((rStk ((m', d', vs, I) :: G)).length + 1) ∧ rvl (s.2.2.1 47) f (s.2.2.1 49 (rStk ((m', d', vs, I) :: G)).length) (s.2.2.1 50 (rStk ((m', d', vs, I) :: G)).length) x ∧ RXm s0 (mI s 51 (Int32.ofNat (rStk ((m', d', vs, I) :: G)).length)) h code Fs fu f ((m', d', vs, I) :: G) sh T out := by
  have e : rStk ((m, d, vs, (0, [x], j) :: I) :: G) = [x] ++ rStk ((m', d', vs, I) :: G) := rStk_cons (m' := m') (d' := d')
  have h1 := R.2.2
  have h2 := R.2.1.1
  rw [e] at h1 h2
  refine ⟨?_, h2.1, R.lower e rfl (wStk_cons (by show ¬ ((0 : Nat) = 2 ∨ (0 : Nat) = 3 ∨ (0 : Nat) = 6 ∨ (0 : Nat) = 8); decide)).symm⟩
  rw [h1]
  rfl
theorem r_339 {nr : Nat} (hk : k < 8000) (h51 : s.1 51 = Int32.ofNat (nr + 1)) (hn : nr < 9000) (e : mf_314 N (Int32.ofNat k) (mI s 51 (Int32.ofNat nr)) = some (s2, none)) : mf_313_339 N (Int32.ofNat k) s = some (s2, none) := by
  have sb : Int32.ofNat (nr + 1) - Int32.ofNat 1 = Int32.ofNat nr := by rw [← Int32.ofNat_sub _ _ (by omega)]; rfl
  unfold mf_313_339 mf_313_354
  simp (disch := omega) only [ev_S, ev_P, ↓reduceIte, Nat.reduceEqDiff, Nat.reduceLeDiff, Nat.reduceAdd, Nat.reduceMul, Nat.reduceSub, reduceCtorEq, l32_0, l32_1, l32_2, l32_3, l32_4, l32_5, l32_6, l32_7, l32_8, l32_9, l32_10, l32_11, l32_12, l32_13, l32_14, l32_15, l32_16, l32_17, l32_18, l32_19, l32_20, l32_21, l32_22, l32_23, l32_24, l32_25, l32_26, l32_27, l32_28, l32_29, l32_33, l32_40, l32_41, l32_44, l32_45, l32_59, l32_61, l32_91, l32_93, l32_123, l32_125, h51, sb, e]
theorem pv5 {y : It} (h : y.1 = 4 ∨ y.1 = 5 ∨ y.1 = 2 ∨ y.1 = 3) : pvI (y :: I) = 0 := by
  show (if _ then _ else if _ then _ else if _ then _ else _) = _
  rw [if_neg (by omega), if_neg (by omega), if_neg (by omega)]
theorem cr5 {y : It} (h : y.1 = 5) : crI y = 8 := if_pos h
/-- a trouble right after the value was taken off -/
theorem trob1 {kq : Nat} {y : It} {ra : Int32} (hN : 500 ≤ N) (hq : 1 ≤ kq ∧ kq < 10) (K : CK code Fs fu ((m, 0, vs, (0, [x], j) :: y :: I') :: G) sh T out n) (C : CX t0 t2 p code Fs fu S0 u w ((m, 0, vs, y :: I') :: G) sh T out) (C2 : u ≤ 100000 + 20 * T.2.1) (B : RBk s0 s2 h code Fs fu T out (Int32.ofNat kq) pl) (M : RM0 s2 f h code ((m, 0, vs, y :: I') :: G) sh) (R2 : 154242 ≤ f ∧ f ≤ 154250 + T.2.1) (hr : ra = if kq = 9 then s2.1 65 else 0) (hc : ∀ t3, cf_156 N X (Int32.ofNat kq) pl ra t2 = some (t3, .inl none) → ∀ Q, cf_141_L4 N X (Q + 1) 0 (Int32.ofNat n) t = cf_141_L4 N X Q 0 (Int32.ofNat (n + 1)) t3) (hs : ∀ Q x2, mf_68_L10 N (Q + (0 + 1)) 0 x2 s = mo_bi (mf_312 N s2) (fun s3 y => mf_68_L10 N Q 0 x2 s3)) (hn : n ≤ 597000) (hT : okTy fu T) : GO N X t0 s0 p h code Fs fu S0 t s n := trob hN (by omega) (k0 := 1) (j0 := 0) (by omega) (by omega) C.cy (Nat.le_trans C2 (Nat.le_add_right _ _)) B M ⟨R2.1, Nat.le_trans R2.2 (Nat.le_add_right _ _)⟩ (by intro q; cases q) hr (K.kt (J := [((0, [x], j) : It)]) (I' := y :: I') rfl hT ⟨Nat.le_refl _, Nat.le_refl _⟩ (by omega)) hc hs (by omega)
/-- what is at hand where one value is taken off -/
theorem openP (hN : 170000 ≤ N) (D1 : CX t0 t1 p code Fs fu S0 u w ((m, 0, vs, (0, [x], j) :: I') :: G) sh T out) (b2 : (cStk ((m, 0, vs, (0, [x], j) :: I') :: G)).length ≤ 17500) (R : RXm s0 s1 h code Fs fu f ((m, 0, vs, (0, [x], j) :: I') :: G) sh T out) (b1 : (rStk ((m, 0, vs, (0, [x], j) :: I') :: G)).length ≤ 8700) : ∃ t2 v nr s3, cf_166 N X t1 = some (t2, .inl (some (.long v))) ∧ cN (cel t2) u v x ∧ CX t0 t2 p code Fs fu S0 u w ((m, 0, vs, I') :: G) sh T out ∧ kI t2 49 17 = kI t1 49 17 ∧ nr < 8700 ∧ nr = (rStk ((m, 0, vs, I') :: G)).length ∧ s3 = mI s1 51 (Int32.ofNat nr) ∧ RXm s0 s3 h code Fs fu f ((m, 0, vs, I') :: G) sh T out ∧ s3.1 51 = Int32.ofNat nr ∧ s3.1 69 = s1.1 69 ∧ s3.1 70 = s1.1 70 ∧ s3.2.2.1 = s1.2.2.1 ∧ rvl (s3.2.2.1 47) f (s3.2.2.1 49 nr) (s3.2.2.1 50 nr) x ∧ s1.1 51 = Int32.ofNat (nr + 1) ∧ (∀ k s4, k < 8000 → mf_314 N (Int32.ofNat k) s3 = some (s4, none) → mf_313_339 N (Int32.ofNat k) s1 = some (s4, none)) := by
  obtain ⟨t2, v, a1, a2, a3, a4, a5⟩ := D1.pop (N := N) (X := X) (m' := m) (d' := 0) (o := some x) (by omega) (by show ¬ (0 : Nat) = 3; decide) rfl
  obtain ⟨g1, g2, g3⟩ := R.hd (m' := m) (d' := 0)
  have hrn : (rStk ((m, 0, vs, I') :: G)).length < 8700 := by
    rw [rStk_cons (m' := m) (d' := 0), List.length_append] at b1
    have : (iR ((0, [x], j) : It)).length = 1 := rfl
    omega
  exact ⟨t2, v, _, _, a1, by rw [a5]; exact a2, a3, a4, hrn, rfl, rfl, g3, rfl, rfl, rfl, rfl, g2, g1, fun k s4 hk e => r_339 hk g1 (by omega) e⟩
theorem i_21 (hN : 170000 ≤ N) (C : CS t0 t p code Fs fu S0 ((m, 0, vs, I) :: G) sh T out) (R : RSm s0 s h code Fs fu ((m, 0, vs, I) :: G) sh T out) (K : CK code Fs fu ((m, 0, vs, I) :: G) sh T out n) (ho : (inA code m).1 = 21) : GO N X t0 s0 p h code Fs fu S0 t s n := by
  obtain ⟨u, w, f, g, C1, C2, C4, R1, R2, R4, P, hm, hcx, hrl, hG, ⟨b1, b2, b6⟩, hT, hol⟩ := open0 C R K
  obtain ⟨ec, er⟩ := cI_21 (code := code) (own := posC code m) (e := h) ho
  generalize (inA code m).2.2.2.2.1 = pl at *
  obtain ⟨D1, D2⟩ := C1.fet (N := N) (X := X) (n := n) (l1 := []) rfl C4 hm ec hcx (by omega)
  obtain ⟨s1, kx, y1, y2, y3, y4, y5, y6, ⟨y7, y8, y9, y10⟩, y11, y12⟩ := R1.fet (N := N) (l1 := []) hG rfl R4 hm er hrl
  obtain ⟨x, j, y, I', q1, q2, q3, q4, q5, q6⟩ := payI K P (by omega)
  subst q1
  obtain ⟨t2, v, nr, s3, e1, e2, e3, e4, e5, e6, e7, e8, e9, e10, e11, e12, e13, e14, e15⟩ := openP (N := N) (X := X) hN D1 b2 y4 b1
  have kx1 := c_kn (N := N) (X := X) e2
  have lx := kn_le (x := x)
  have h23 : s3.2.2.1 23 kx = Int32.ofNat 21 := by rw [e12]; exact y7
  have h70 : s3.1 70 = pl := e11.trans y6
  have h66 : s3.1 66 = Int32.ofNat 0 := e8.1.2.2.1.1
  have E0 : mf_314 N (Int32.ofNat kx) s3 = mf_314_19 N (Int32.ofNat kx) (Int32.ofNat 21) s3 := by
    unfold mf_314 mf_314_0 mf_314_13
    simp (disch := omega) only [ev_S, ev_P, ↓reduceIte, Nat.reduceEqDiff, Nat.reduceLeDiff, Nat.reduceAdd, Nat.reduceMul, Nat.reduceSub, reduceCtorEq, l32_0, l32_1, l32_2, l32_3, l32_4, l32_5, l32_6, l32_7, l32_8, l32_9, l32_10, l32_11, l32_12, l32_13, l32_14, l32_15, l32_16, l32_17, l32_18, l32_19, l32_20, l32_21, l32_22, l32_23, l32_24, l32_25, l32_26, l32_27, l32_28, l32_29, l32_33, l32_40, l32_41, l32_44, l32_45, l32_59, l32_61, l32_91, l32_93, l32_123, l32_125, h23, l32_8000]
  by_cases c0 : kn x = 0
  · have ev := e2.z c0
    have lo := c_lowOf (N := N) (X := X) (t := t2) (k := 0) (a := ivN x)
    rw [← ev] at lo
    rw [c0] at kx1
    obtain ⟨i1, i2⟩ := e13.iv c0
    have S5 : RXm s0 (mI s3 65 (ivN x)) h code Fs fu f ((m, 0, vs, y :: I') :: G) sh T out := by
      obtain ⟨r1, r2, r3⟩ := e8
      exact ⟨r1.I (by omega), RM0.mv r2 (fun _ _ => rfl) rfl rfl (Nat.le_refl _) (fun _ _ => rfl) r2.2.2.2.2.2.2.2 r2.1 rfl rfl, r3⟩
    obtain ⟨x1, x2, x3⟩ := S5.trb (N := N) (k := 9) (q := pl)
    refine trob1 (kq := 9) (ra := ivN x) (by omega) (by omega) K e3 C2 x2 x3 R2 rfl (fun t3 ht Q => ?_) (y12 _ 9 ?_ rfl (by omega)) b6 hT
    · rw [D2 Q]
      clear D1 D2
      generalize jI t 49 17 (Int32.ofNat (posC code m + 0 + 1)) = t1 at *
      refine c_rdM (by decide) (by decide) (c_mv9.trans ?_)
      have ht : cf_156 N X (Int32.ofNat 9) pl (ivN x) t2 = _ := ht
      generalize ivN x = iv at *
      unfold cf_142_235 cf_142_240 cf_142_296 cf_153 cf_153_0 cf_153_4 cf_153_9 cf_153_12 cf_153_20 cf_153_23 cf_153_33
      simp (disch := omega) only [ev_S, ev_C, ↓reduceIte, Nat.reduceEqDiff, Nat.reduceLeDiff, Nat.reduceAdd, Nat.reduceMul, Nat.reduceSub, reduceCtorEq, l32_0, l32_1, l32_2, l32_3, l32_4, l32_5, l32_6, l32_7, l32_8, l32_9, l32_10, l32_11, l32_12, l32_13, l32_14, l32_15, l32_16, l32_17, l32_18, l32_19, l32_20, l32_21, l32_22, l32_23, l32_24, l32_25, l32_26, l32_27, l32_28, l32_29, l32_33, l32_40, l32_41, l32_44, l32_45, l32_59, l32_61, l32_91, l32_93, l32_123, l32_125, e1, kx1, lo, ht]
    · rw [r_op21 y3 y7]
      refine e15 _ _ y3 ?_
      rw [E0]
      have h70' : (mI s3 65 (ivN x)).1 70 = pl := h70
      generalize ivN x = iv at *
      unfold mf_314_19 mf_314_43 mf_314_74 mf_314_97 mf_314_337
      simp (disch := omega) only [ev_S, ev_P, ↓reduceIte, Nat.reduceEqDiff, Nat.reduceLeDiff, Nat.reduceAdd, Nat.reduceMul, Nat.reduceSub, reduceCtorEq, l32_0, l32_1, l32_2, l32_3, l32_4, l32_5, l32_6, l32_7, l32_8, l32_9, l32_10, l32_11, l32_12, l32_13, l32_14, l32_15, l32_16, l32_17, l32_18, l32_19, l32_20, l32_21, l32_22, l32_23, l32_24, l32_25, l32_26, l32_27, l32_28, l32_29, l32_33, l32_40, l32_41, l32_44, l32_45, l32_59, l32_61, l32_91, l32_93, l32_123, l32_125, e9, i1, i2, h70, x1]
  · obtain ⟨i1, -⟩ := e13.th c0
    obtain ⟨x1, x2, x3⟩ := e8.trb (N := N) (k := 3) (q := pl)
    refine trob1 (kq := 3) (ra := Int32.ofNat 0) (by omega) (by omega) K e3 C2 x2 x3 R2 rfl (fun t3 ht Q => ?_) (y12 _ 3 ?_ rfl (by omega)) b6 hT
    · rw [D2 Q]
      clear D1 D2
      generalize jI t 49 17 (Int32.ofNat (posC code m + 0 + 1)) = t1 at *
      refine c_rdM (by decide) (by decide) (c_mv9.trans ?_)
      generalize kn x = kn' at *
      unfold cf_142_235 cf_142_240 cf_142_296 cf_153 cf_153_0 cf_153_4 cf_153_9 cf_153_26 cf_153_33
      simp (disch := omega) only [ev_S, ev_C, ↓reduceIte, Nat.reduceEqDiff, Nat.reduceLeDiff, Nat.reduceAdd, Nat.reduceMul, Nat.reduceSub, reduceCtorEq, l32_0, l32_1, l32_2, l32_3, l32_4, l32_5, l32_6, l32_7, l32_8, l32_9, l32_10, l32_11, l32_12, l32_13, l32_14, l32_15, l32_16, l32_17, l32_18, l32_19, l32_20, l32_21, l32_22, l32_23, l32_24, l32_25, l32_26, l32_27, l32_28, l32_29, l32_33, l32_40, l32_41, l32_44, l32_45, l32_59, l32_61, l32_91, l32_93, l32_123, l32_125, e1, kx1, c0, ht]
    · rw [r_op21 y3 y7]
      refine e15 _ _ y3 ?_
      rw [E0]
      unfold mf_314_19 mf_314_31 mf_314_40 mf_314_337
      simp (disch := omega) only [ev_S, ev_P, ↓reduceIte, Nat.reduceEqDiff, Nat.reduceLeDiff, Nat.reduceAdd, Nat.reduceMul, Nat.reduceSub, reduceCtorEq, l32_0, l32_1, l32_2, l32_3, l32_4, l32_5, l32_6, l32_7, l32_8, l32_9, l32_10, l32_11, l32_12, l32_13, l32_14, l32_15, l32_16, l32_17, l32_18, l32_19, l32_20, l32_21, l32_22, l32_23, l32_24, l32_25, l32_26, l32_27, l32_28, l32_29, l32_33, l32_40, l32_41, l32_44, l32_45, l32_59, l32_61, l32_91, l32_93, l32_123, l32_125, e9, i1, h70, x1]
/-- a statement's last is done -/
theorem paid {y : It} (K : CK code Fs fu ((m, 0, vs, (0, [x], j) :: y :: I') :: G) sh T out n) (P : PL code Fs m vs ((0, [x], j) :: y :: I') g) (h20 : ¬ (inA code m).1 = 20) (q2 : y.1 = 5) (q3 : lyo (code.take (m + 1)) = some (kd I')) (q4 : plI I') (q5 : okIs code g.2.2.2.2.1 g.2.2.2.2.2 I') (hv : vs'.length = vs.length) (hg : gdS (cStk ((m + 1, 0, vs', I') :: G))) (hs : ∀ i, i < 8 → ∀ x, sh' i = some x → wfN x ∧ x.1 ≤ 4) (ho : out'.length ≤ out.length + 9100) (hk : k ≤ 7) : CK code Fs fu ((m + 1, 0, vs', I') :: G) sh' T out' (n + k) := by
  have hb := P.2.1
  have hcr := P.2.2.2.2.2.1 h20
  refine K.to P (by omega) q3 q4 q5 hv hg hs K.1.2 ?_ ?_
  · have e2 : pvI ((0, [x], j) :: y :: I') = 1 + pvI (y :: I') := rfl
    rw [crL_c, crL_c, cr5 q2, e2, pv5 (by omega)]
    show k + crL I' + 20 * T.1 + 60 * T.2.1 + (1 + 0) ≤ 0 + (8 + crL I') + 20 * T.1 + 60 * T.2.1 + pvI I'
    omega
  · rw [n5I_c, n5I_c, if_pos q2]
    show out'.length + 9100 * n5I I' + 9100 * T.1 ≤ out.length + 9100 * (0 + (1 + n5I I')) + 9100 * T.1
    omega
theorem RXm.store {rr : Nat} (R : RXm s0 s h code Fs fu f ((m, d, vs, I) :: G) sh T out) (hx : rvl (s.2.2.1 47) f kk v x) (hr : rr < 8 + vs.length) (hv : vs.length ≤ 14) : RXm s0 (stM s rr G.length kk v) h code Fs fu f ((m', d', stV rr x vs, I) :: G) (if rr < 8 then stS rr x sh else sh) T out := by
  obtain ⟨r1, r2, r3⟩ := R
  obtain ⟨i1, i2, i3, i4⟩ := stM_i (s := s) (r := rr) (n := G.length) (k := kk) (v := v)
  exact ⟨r1.keep stM_f (fun q _ => by rw [i1]) i2, r2.store hx hr hv, by rw [i1]; exact r3⟩
theorem i_11 (hN : 170000 ≤ N) (C : CS t0 t p code Fs fu S0 ((m, 0, vs, I) :: G) sh T out) (R : RSm s0 s h code Fs fu ((m, 0, vs, I) :: G) sh T out) (K : CK code Fs fu ((m, 0, vs, I) :: G) sh T out n) (ho : (inA code m).1 = 11) : GO N X t0 s0 p h code Fs fu S0 t s n := by
  obtain ⟨u, w, f, g, C1, C2, C4, R1, R2, R4, P, hm, hcx, hrl, hG, ⟨b1, b2, b6⟩, hT, hol⟩ := open0 C R K
  obtain ⟨ec, er⟩ := cI_11 (code := code) (own := posC code m) (e := h) ho
  have hrr : (inA code m).2.2.1 < 8 + vs.length := P.2.2.2.2.1.1 (by omega)
  have hv14 := P.2.2.1.2
  generalize (inA code m).2.2.2.2.1 = pl at *
  generalize hr0 : (inA code m).2.2.1 = rr at *
  obtain ⟨D1, D2⟩ := C1.fet (N := N) (X := X) (n := n) (l1 := []) rfl C4 hm ec hcx (by omega)
  obtain ⟨s1, kx, y1, y2, y3, y4, y5, y6, ⟨y7, y8, y9, y10⟩, y11, y12⟩ := R1.fet (N := N) (l1 := []) hG rfl R4 hm er hrl
  obtain ⟨x, j, y, I', q1, q2, q3, q4, q5, q6⟩ := payI K P (by omega)
  subst q1
  obtain ⟨t3, a1, a2, a3, a4⟩ := D1.store (N := N) (X := X) (m' := m) (d' := 0) (by omega) hG hrr hv14
  obtain ⟨t2, v, nr, s3, e1, e2, e3, e4, e5, e6, e7, e8, e9, e10, e11, e12, e13, e14, e15⟩ := openP (N := N) (X := X) hN D1 b2 y4 b1
  have RY := (e8.store (m' := m) (d' := 0) e13 hrr hv14).no (m' := m + 1) (d' := 0) (Or.inr q2)
  have CY := a2.no (m' := m + 1) (d' := 0) (Or.inr q2)
  have h73 : s3.1 73 = Int32.ofNat (G.length + 1) := e8.2.1.2.2.2.2.2.1
  have hst := r_store (N := N) (s := s3) (G := G) (r := rr) (k := s3.2.2.1 49 nr) (v := s3.2.2.1 50 nr) h73 hG (by omega)
  refine goOn (k := 1) (j := 1) (by omega) (fun Q => ?_) (fun Q x2 => y11 _ ?_ RY.1.2.2.1.1 Q x2) CY C2 ?_ RY R2 ?_ (paid K P (by omega) q2 q3 q4 q5 stV_len ?_ (sh_stS K.2.2.2.2.1 q6) (by omega) (by omega))
  · rw [D2 Q]
    clear D1 D2
    generalize jI t 49 17 (Int32.ofNat (posC code m + 0 + 1)) = t1 at *
    refine c_rdM (by decide) (by decide) (c_mv2.trans ?_)
    unfold cf_142_152 cf_142_157 cf_142_296
    simp (disch := omega) only [ev_S, ev_C, ↓reduceIte, Nat.reduceEqDiff, Nat.reduceLeDiff, Nat.reduceAdd, Nat.reduceMul, Nat.reduceSub, reduceCtorEq, l32_0, l32_1, l32_2, l32_3, l32_4, l32_5, l32_6, l32_7, l32_8, l32_9, l32_10, l32_11, l32_12, l32_13, l32_14, l32_15, l32_16, l32_17, l32_18, l32_19, l32_20, l32_21, l32_22, l32_23, l32_24, l32_25, l32_26, l32_27, l32_28, l32_29, l32_33, l32_40, l32_41, l32_44, l32_45, l32_59, l32_61, l32_91, l32_93, l32_123, l32_125, a1]
  · rw [r_op12 y3 y7]
    have sb : Int32.ofNat (nr + 1) - Int32.ofNat 1 = Int32.ofNat nr := by rw [← Int32.ofNat_sub _ _ (by omega)]; rfl
    rw [e7] at hst ⊢
    have hst : mf_307 N (Int32.ofNat rr) (s1.2.2.1 49 nr) (s1.2.2.1 50 nr) (mI s1 51 (Int32.ofNat nr)) = _ := hst
    unfold mf_313_208 mf_313_246
    simp (disch := omega) only [ev_S, ev_P, ↓reduceIte, Nat.reduceEqDiff, Nat.reduceLeDiff, Nat.reduceAdd, Nat.reduceMul, Nat.reduceSub, reduceCtorEq, l32_0, l32_1, l32_2, l32_3, l32_4, l32_5, l32_6, l32_7, l32_8, l32_9, l32_10, l32_11, l32_12, l32_13, l32_14, l32_15, l32_16, l32_17, l32_18, l32_19, l32_20, l32_21, l32_22, l32_23, l32_24, l32_25, l32_26, l32_27, l32_28, l32_29, l32_33, l32_40, l32_41, l32_44, l32_45, l32_59, l32_61, l32_91, l32_93, l32_123, l32_125, y8, e14, sb, hst, l32_8000]
  · rw [a3]
    show Int32.ofNat (posC code m + 0 + 1) = Int32.ofNat (posC code (m + 1) + 0)
    rw [posC_s hm, show clen (inA code m) = 1 by unfold clen; rw [ho]; rfl]
  · rw [(stM_i (s := s3) (r := rr) (n := G.length) (k := s3.2.2.1 49 nr) (v := s3.2.2.1 50 nr)).1, e10, y5, y1]
    show Int32.ofNat (ob0 h + posR code m + 0 + 1) = Int32.ofNat (ob0 h + posR code (m + 1) + 0)
    rw [posR_s hm, show rlen (inA code m) = 1 by unfold rlen; rw [ho]; rfl]
    rfl
  · refine gdS_stV (m := m) (d := 0) ?_ q6
    exact gd_suf (m := m) (d := 0) (J := [((0, [x], j) : It), y]) K.2.2.2.1
end IN5
