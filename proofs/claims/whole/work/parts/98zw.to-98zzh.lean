-- ### 98zw.pure.lean.txt
section
/-! ===== PURE: run (126): fold calls ===== -/
section NXF
variable {N : Nat} {X : Nat → Option zz_C} {t0 t t1 t2 : cS} {s0 s s1 s2 : mS} {u w f p h fu m m' d d' n k b j fi : Nat} {code : List Ins} {Fs : List Fn} {T T1 : Ty} {out : List Int32} {G F : List Fm} {sh S0 : Nat → Option Nod} {vs : List (Option Nod)} {I J I' Iq : List It} {q z pl : Int32} {x y c : Nod} {rs xs : List Nod} {g : Fn} {L : List Nat}
theorem n_fold (hN : 170000 ≤ N) (C : CS t0 t p code Fs fu S0 ((m, 1, vs, (8, [y], k) :: (0, [c], j) :: Iq) :: G) sh T out) (R : RSm s0 s h code Fs fu ((m, 1, vs, (8, [y], k) :: (0, [c], j) :: Iq) :: G) sh T out) (K : CK code Fs fu ((m, 1, vs, (8, [y], k) :: (0, [c], j) :: Iq) :: G) sh T out n) (ho : (inA code m).1 = 10) (hr : (inA code m).2.2.1 = 2) (hL : lyo (code.take m) = some L) (hk1 : pop0 2 L = some (kd Iq)) (hk2 : k % 2 = 0) (hpl : plI Iq) (hi : k / 2 < szN y) (hs : T.1 < fu) (hG8 : G.length ≤ 8) : GO N X t0 s0 p h code Fs fu S0 t s n := by
  obtain ⟨u, w, f, g, C1, C2, C4, R1, R2, R4, P, hm, hcx, hrl, hG, ⟨b1, b2, b6⟩, hT, hol⟩ := open0 C R K
  obtain ⟨ec, er⟩ := cI_10 (code := code) (own := posC code m) (e := h) ho
  obtain ⟨hfi, hpar⟩ := K.1.1.2.1 m hm (Or.inr ho)
  have hfi : (inA code m).2.1 < Fs.length := hfi
  have hpar : Fs[(inA code m).2.1].2.2.1 = (inA code m).2.2.1 := hpar
  have hFO := K.1.1.1 _ (List.getElem_mem hfi)
  have hF12 : Fs.length ≤ 12 := C1.1.1.2.2.2.2.1
  have hbd := K.bd
  have h30 := hT.2.2.1
  obtain ⟨y', w1, w3, w4⟩ := P.2.2.2.1.1.2.2.2.2.2 rfl
  have w1 : [y] = [y'] := w1
  have eb : y = y' := by simpa using w1
  subst eb
  have hgK := K.2.2.2.1
  have E8 : cStk ((m, 1, vs, (8, [y], k) :: (0, [c], j) :: Iq) :: G) = some (nZ (Int32.ofNat (k / 2))) :: some y :: some c :: cStk ((m, 1, vs, Iq) :: G) := by
    rw [cStk_8 (m' := m) (d' := 1), cStk_0 (m' := m) (d' := 1)]
    rfl
  have E8' : cStk ((m, 1, vs, (8, [y], k + 1) :: (7, [c], j) :: Iq) :: G) = cStk ((m, 1, vs, (8, [y], k) :: (0, [c], j) :: Iq) :: G) := by
    rw [E8, cStk_8 (m' := m) (d' := 1), cStk_7 (m' := m) (d' := 1), show (k + 1) / 2 = k / 2 by omega]
    rfl
  have wy : wfN y ∧ y.1 ≤ 4 := by
    refine hgK y ?_
    rw [E8]
    exact List.mem_cons_of_mem _ List.mem_cons_self
  have wc : wfN c ∧ c.1 ≤ 4 := by
    refine hgK c ?_
    rw [E8]
    exact List.mem_cons_of_mem _ (List.mem_cons_of_mem _ List.mem_cons_self)
  have s64 := wf64 wy.1
  have hnv : 2 ≤ Fs[(inA code m).2.1].2.2.2.1 ∧ Fs[(inA code m).2.1].2.2.2.1 ≤ 14 := by
    have := hFO.2.2.2.2.2.2.1
    rw [hr] at hpar
    omega
  have n1 : ¬ (inA code m).2.2.1 = 1 := by omega
  rw [if_neg n1, if_neg n1, fa_e (by omega)] at ec
  rw [fr_fb (by omega)] at er
  generalize (inA code m).2.2.2.2.1 = pl at *
  have hcBk : cBk code ((m, 1, vs, (8, [y], k + 1) :: (7, [c], j) :: Iq) :: G) = posC code m + 2 := by
    show posC code m + (if (inA code m).1 = 10 then 2 else 1) = _
    rw [if_pos ho]
  generalize hfe : (inA code m).2.1 = fi at *
  obtain ⟨D1, D2⟩ := C1.fet (N := N) (X := X) (n := n) (l1 := [((25 : Int32), (0 : Int32), pl)]) (dd := 1) rfl C4 hm ec hcx (by omega)
  obtain ⟨s1, kx, y1, y2, y3, y4, y5, y6, ⟨y7, y8, y9, y10⟩, y11, y12⟩ := R1.fet (N := N) (l1 := [((10 : Int32), Int32.ofNat (27 + (inA code m).2.2.1), (0 : Int32), (0 : Int32), pl)]) (dd := 1) hG rfl R4 hm er hrl
  obtain ⟨F1, F2⟩ := D1.forget (N := N) (X := X)
  obtain ⟨va, i1, i2⟩ := F2.top1 (N := N) (X := X) E8
  obtain ⟨vb, i3⟩ := F2.peekA (N := N) (X := X) (by omega)
  obtain ⟨t4, e1, e2, e3⟩ := F2.foldA (N := N) (X := X) (fz := Int32.ofNat fi) (pl := pl) b2 w3 hi s64 hT.1 hs
  have e1' : CX t0 t4 p code Fs fu S0 u 0 ((m, 1, vs, [(0, [elN y (k / 2)], 0), (0, [c], 0)] ++ (8, [y], k + 1) :: (7, [c], j) :: Iq) :: G) sh (T.1 + 1, T.2) out := by
    refine e1.re ?_ ?_
    · show cStk ((m, 1, vs, (0, [elN y (k / 2)], 0) :: (0, [c], 0) :: (8, [y], k + 1) :: (7, [c], j) :: Iq) :: G) = _
      rw [cStk_00 (m' := m) (d' := 1), cStk_00 (m' := m) (d' := 1), E8']
    · show tStk ((m, 1, vs, (0, [elN y (k / 2)], 0) :: (0, [c], 0) :: (8, [y], k + 1) :: (7, [c], j) :: Iq) :: G) = _
      rw [tStk_0 (m' := m) (d' := 1), tStk_0 (m' := m) (d' := 1), tStk_678 (m' := m) (d' := 1) (Or.inr (Or.inr rfl)), tStk_678 (m' := m) (d' := 1) (Or.inr (Or.inl rfl)), tStk_0 (m' := m) (d' := 1), tStk_0 (m' := m) (d' := 1), tStk_678 (m' := m) (d' := 1) (Or.inr (Or.inr rfl)), tStk_0 (m' := m) (d' := 1)]
  have hJ0 : ∀ a ∈ ([(0, [elN y (k / 2)], 0), (0, [c], 0)] : List It), a.1 = 0 := fun a ha => by
    rcases List.mem_cons.mp ha with q | q
    · rw [q]
    · rw [List.mem_singleton.mp q]
  obtain ⟨t5, v1, v2, v3⟩ := e1'.enter (N := N) (X := X) (d' := 1) (fi := fi) (q := pl) (xs := [c, elN y (k / 2)]) hN rfl (fun a ha => by have := hJ0 a ha; omega) hfi hG8 (by rw [hcBk]; exact e2) (by show (cStk ((m, 1, vs, (0, [elN y (k / 2)], 0) :: (0, [c], 0) :: (8, [y], k + 1) :: (7, [c], j) :: Iq) :: G)).length ≤ _; rw [cStk_00 (m' := m) (d' := 1), E8', List.length_cons, List.length_cons]; omega) hnv hT.2.2.2.1
  have hstep := r_step (N := N) y4 hT.1 hs
  obtain ⟨s4, f1, f2, f3⟩ := RXm.nextA (N := N) (m' := m) (d' := 1) (kx := kx) (rs := []) (y4.st) rfl hstep (Or.inr rfl) hk2 y3 b1 hbd.2.2.1 w3 hi s64 (by omega) hG8
  have f1' := RXm.foldS (m' := m) (d' := 1) f1
  have hbk : rBk h code ((m, 1, vs, (8, [y], k + 1) :: (7, [c], j) :: Iq) :: G) = Int32.ofNat kx := by
    rw [y1]
    rfl
  have hrl6 : (rStk ((m, 1, vs, (0, [elN y (k / 2)], 0) :: (0, [c], 0) :: (8, [y], k + 1) :: (7, [c], j) :: Iq) :: G)).length ≤ 8800 := by
    rw [rStk_cons (m' := m) (d' := 1), rStk_cons (m := m) (d := 1) (m' := m) (d' := 1), rStk_cons (m := m) (d := 1) (m' := m) (d' := 1), rStk_cons (m := m) (d := 1) (m' := m) (d' := 1)]
    rw [rStk_cons (m' := m) (d' := 1), rStk_cons (m := m) (d := 1) (m' := m) (d' := 1)] at b1
    have b1 : ([c] ++ rStk ((m, 1, vs, Iq) :: G)).length ≤ 8700 := b1
    show ([elN y (k / 2)] ++ ([c] ++ rStk ((m, 1, vs, Iq) :: G))).length ≤ 8800
    rw [List.length_append, List.length_singleton]
    omega
  obtain ⟨s5, r1, r2, r3⟩ := RXm.enter (N := N) (d' := 1) (fi := fi) (J := [(0, [elN y (k / 2)], 0), (0, [c], 0)]) (xs := [c, elN y (k / 2)]) hN f1' rfl (wStk_v hJ0) hfi hF12 hG8 hrl6 hnv hT.2.2.2.1
  rw [hbk] at r1
  have y9' : (mI s1 60 (Int32.ofNat (T.1 + 1))).2.2.1 25 kx = Int32.ofNat (fb0 h + fi) := y9
  have h317 : mf_317 N (Int32.ofNat kx) s1 = some (s5, none) := f3 s5 (by rw [y9']; exact r1)
  have hT1 : okTy fu (T.1 + 1, T.2) := ⟨hT.1, hs, hT.2.2⟩
  have hel : wfN (elN y (k / 2)) ∧ (elN y (k / 2)).1 ≤ 4 := elN_ok wy (by unfold lim; rw [if_neg w3]; exact hi)
  refine goOn (k := 1) (j := 1) (by omega) (fun Q => ?_) (fun Q x2 => y11 s5 ?_ r2.1.2.2.1.1 Q x2) v2 C2 v3 r2 R2 r3 (K.ent2 P hG8 hfi (xs := [c, elN y (k / 2)]) (fun a ha => ?_) ⟨L, hL, Or.inr ⟨ho, Or.inr ⟨hr, _, _, Iq, rfl, rfl, rfl, ⟨hk1, ?_⟩, hpl⟩⟩⟩ ⟨?_, ?_, P.2.2.2.1.2.2⟩ hnv.1 ⟨hT1, rfl, rfl⟩ ?_ ?_ ?_)
  · rw [D2 Q]
    refine c_rdW (by decide) (by decide) (by decide) ((c_143o F1 i1 i3).trans (c_wk15.trans ?_))
    have e4 := e3 t5 v1
    unfold cf_143_274 cf_143_280 cf_143_296
    rw [e4]
    rfl
  · rw [r_op11 y3 y7]
    unfold mf_313_202 mf_313_207
    rw [h317]
    rfl
  · rcases List.mem_cons.mp ha with q | q
    · rw [q]; exact wc
    · rw [List.mem_singleton.mp q]; exact hel
  · show (k + 1) % 2 = 1
    omega
  · refine ⟨by show (8 : Nat) ≤ 8; omega, fun q => (by rcases q with q | q <;> cases q), fun q => (by cases q), fun q => (by cases q), fun q => (by cases q), fun _ => ⟨y, rfl, w3, ?_⟩⟩
    show (k + 1 + 1) / 2 ≤ szN y
    omega
  · exact ⟨by show (7 : Nat) ≤ 8; omega, fun _ => ⟨c, rfl⟩, fun q => (by cases q), fun q => (by cases q), fun q => (by cases q), fun q => (by cases q)⟩
  · rw [E8']
    exact hgK
  · rw [crL_c (I := (7, [c], j) :: Iq), crL_c (I := Iq), crL_c (I := (0, [c], j) :: Iq), crL_c (I := Iq)]
    show 1 + 4 + (3 + (0 + crL Iq)) + (1 + pvI Iq) ≤ 3 + (0 + crL Iq) + 20 + (1 + pvI Iq)
    omega
  · rw [n5I_c (I := (7, [c], j) :: Iq), n5I_c (I := Iq), n5I_c (I := (0, [c], j) :: Iq), n5I_c (I := Iq)]
    exact Nat.le_refl _
end NXF
end
-- ### 98zx.pure.lean.txt
section
/-! ===== PURE: run (127): a condition's end lies nowhere ===== -/
section SIL
variable {N : Nat} {X : Nat → Option zz_C} {t0 t : cS} {s0 s : mS} {p h fu m n : Nat} {code : List Ins} {Fs : List Fn} {T : Ty} {out : List Int32} {G : List Fm} {sh S0 : Nat → Option Nod} {vs : List (Option Nod)} {I : List It}
theorem s_26 (C : CS t0 t p code Fs fu S0 ((m, 0, vs, I) :: G) sh T out) (R : RSm s0 s h code Fs fu ((m, 0, vs, I) :: G) sh T out) (K : CK code Fs fu ((m, 0, vs, I) :: G) sh T out n) (ho : (inA code m).1 = 26) : ∃ I', CS t0 t p code Fs fu S0 ((m + 1, 0, vs, I') :: G) sh T out ∧ RSm s0 s h code Fs fu ((m + 1, 0, vs, I') :: G) sh T out ∧ CK code Fs fu ((m + 1, 0, vs, I') :: G) sh T out n := by
  obtain ⟨u, w, f, g, C1, C2, C4, R1, R2, R4, P, hm, hcx, hrl, hG, ⟨b1, b2, b6⟩, hT, hol⟩ := open0 C R K
  obtain ⟨hl, hp⟩ := K.ly0
  obtain ⟨L2, z3, z4⟩ := K.nxt
  have hnx := P.2.2.2.2.2.1 (by omega)
  have hpb := P.2.1
  have hI : kd I = 4 :: L2 := by
    generalize inA code m = c at *
    obtain ⟨o', jj, r0, aa, pp, xx, yy⟩ := c
    have z : o' = 26 := ho
    subst z
    have z3 : (match (generalizing := false) kd I with | 4 :: M => some M | _ => none) = some L2 := z3
    split at z3
    · rename_i M hM
      rw [hM, Option.some.inj z3]
    · cases z3
  obtain ⟨a, I', q1, q2, q3⟩ := kdC hI
  subst q1
  refine ⟨I', ⟨u, w, C1.no (m' := m + 1) (d' := 0) (Or.inl q2), C2, fun b G' e => ?_⟩, ⟨f, R1.no (m' := m + 1) (d' := 0) (Or.inl q2), R2.1, R2.2, fun b G' e => ?_⟩, K.to (k := 0) P (by omega) (by rw [q3]; exact z4) hp.tl P.2.2.2.1.2 rfl (gd_suf (m := m) (d := 0) (J := [a]) K.2.2.2.1) K.2.2.2.2.1 hT ?_ ?_⟩
  · cases e
    rw [C4]
    show Int32.ofNat (posC code m + 0) = Int32.ofNat (posC code (m + 1) + 0)
    rw [posC_s hm, show clen (inA code m) = 0 by unfold clen; rw [ho]; rfl]
  · cases e
    rw [R4]
    show Int32.ofNat (ob0 h + posR code m + 0) = Int32.ofNat (ob0 h + posR code (m + 1) + 0)
    rw [posR_s hm, show rlen (inA code m) = 0 by unfold rlen; rw [ho]; rfl]
    rfl
  · have e1 : crI a = 2 := by
      unfold crI
      rw [if_neg (by omega), if_pos (Or.inr q2)]
    rw [crL_c, pv5 (Or.inl q2), e1]
    omega
  · rw [n5I_c]
    omega
end SIL
end
-- ### 98zy.pure.lean.txt
section
/-! ===== PURE: run (128): a fold ends ===== -/
section FEN
variable {N : Nat} {X : Nat → Option zz_C} {t0 t t1 t2 : cS} {s0 s s1 s2 : mS} {u w f p h fu m m' d d' n k b j : Nat} {code : List Ins} {Fs : List Fn} {T T1 : Ty} {out : List Int32} {G F : List Fm} {sh S0 : Nat → Option Nod} {vs : List (Option Nod)} {I J I' Iq : List It} {q z pl fz : Int32} {x y c : Nod} {g : Fn} {L : List Nat}
theorem CX.foldE (C : CX t0 t p code Fs fu S0 u w ((m, d, vs, (8, [y], k) :: I) :: G) sh T out) (hl : (cStk ((m, d, vs, (8, [y], k) :: I) :: G)).length ≤ 17500) (hi : szN y = k / 2) (hb : szN y ≤ 64) : ∃ t4, CX t0 t4 p code Fs fu S0 u w ((m', d', vs, I) :: G) sh T out ∧ kI t4 49 17 = kI t 49 17 ∧ cf_163 N X fz pl t = some (jI t4 49 17 (kI t4 49 17 + 1), .inl none) := by
  have e8 : cStk ((m, d, vs, (8, [y], k) :: I) :: G) = some (nZ (Int32.ofNat (k / 2))) :: some y :: cStk ((m, d, vs, I) :: G) := by
    rw [cStk_8 (m' := m) (d' := d)]
    rfl
  obtain ⟨va, a1, a2⟩ := C.top1 (N := N) (X := X) e8
  obtain ⟨vb, b1, b2⟩ := C.top2 (N := N) (X := X) e8
  have a2 : cN (cel t) u va (nZ (Int32.ofNat (k / 2))) := a2
  have b2 : cN (cel t) u vb y := b2
  have ea := a2.z rfl
  have lo := c_lowOf (N := N) (X := X) (t := t) (k := 0) (a := ivN (nZ (Int32.ofNat (k / 2))))
  rw [← ea] at lo
  have lo : cf_256 N X va t = some (t, .inl (some (.int (Int32.ofNat (k / 2))))) := lo
  have sz := c_sizeN (N := N) (X := X) C.2.2.1 b2
  have hl2 : (cStk ((m, d, vs, I) :: G)).length + 1 + 1 ≤ 17500 := by
    rw [e8] at hl
    exact hl
  have CV : CX t0 t p code Fs fu S0 u w ((m, d, vs, (0, [nZ (Int32.ofNat (k / 2))], 0) :: (0, [y], 0) :: I) :: G) sh T out := C.re (by rw [e8, cStk_00 (m' := m) (d' := d)]) (by rw [tStk_0 (m' := m) (d' := d), tStk_0 (m' := m) (d' := d), tStk_678 (m' := m) (d' := d) (Or.inr (Or.inr rfl))])
  obtain ⟨t2, v2, p1, -, p3, p4, p5⟩ := CV.pop (N := N) (X := X) (m' := m) (d' := d) (o := some (nZ (Int32.ofNat (k / 2)))) (by rw [cStk_00 (m' := m) (d' := d), List.length_cons, List.length_cons]; omega) (by show ¬ (0 : Nat) = 3; decide) rfl
  obtain ⟨t3, v3, q1, -, q3, q4, q5⟩ := p3.pop (N := N) (X := X) (m' := m') (d' := d') (o := some y) (by rw [cStk_0 (m' := m) (d' := d), List.length_cons]; omega) (by show ¬ (0 : Nat) = 3; decide) rfl
  refine ⟨t3, q3, q4.trans p4, ?_⟩
  rw [hi] at sz hb
  clear C CV p3 q3 e8 a2 b2 ea
  generalize k / 2 = kh at *
  unfold cf_163 cf_163_0 cf_163_5 cf_163_8 cf_163_14 cf_163_26 cf_163_68 cf_163_72 cf_163_77
  simp (disch := omega) only [ev_S, ev_C, ↓reduceIte, Nat.reduceEqDiff, Nat.reduceLeDiff, Nat.reduceAdd, Nat.reduceMul, Nat.reduceSub, reduceCtorEq, l32_0, l32_1, l32_2, l32_3, l32_4, l32_5, l32_6, l32_7, l32_8, l32_9, l32_10, l32_11, l32_12, l32_13, l32_14, l32_15, l32_16, l32_17, l32_18, l32_19, l32_20, l32_21, l32_22, l32_23, l32_24, l32_25, l32_26, l32_27, l32_28, l32_29, l32_33, l32_40, l32_41, l32_44, l32_45, l32_59, l32_61, l32_91, l32_93, l32_123, l32_125, a1, lo, b1, sz, p1, q1]
theorem n_foldE (hN : 170000 ≤ N) (C : CS t0 t p code Fs fu S0 ((m, 1, vs, (8, [y], k) :: (0, [c], j) :: Iq) :: G) sh T out) (R : RSm s0 s h code Fs fu ((m, 1, vs, (8, [y], k) :: (0, [c], j) :: Iq) :: G) sh T out) (K : CK code Fs fu ((m, 1, vs, (8, [y], k) :: (0, [c], j) :: Iq) :: G) sh T out n) (ho : (inA code m).1 = 10) (hr : (inA code m).2.2.1 = 2) (hL : lyo (code.take m) = some L) (hk1 : pop0 2 L = some (kd Iq)) (hk2 : k % 2 = 0) (hpl : plI Iq) (hi : ¬ k / 2 < szN y) : GO N X t0 s0 p h code Fs fu S0 t s n := by
  obtain ⟨u, w, f, g, C1, C2, C4, R1, R2, R4, P, hm, hcx, hrl, hG, ⟨b1, b2, b6⟩, hT, hol⟩ := open0 C R K
  obtain ⟨ec, er⟩ := cI_10 (code := code) (own := posC code m) (e := h) ho
  have hbd := K.bd
  have hpb := P.2.1
  have hnx := P.2.2.2.2.2.1 (by omega)
  obtain ⟨y', w1, w3, w4⟩ := P.2.2.2.1.1.2.2.2.2.2 rfl
  have w1 : [y] = [y'] := w1
  have eb : y = y' := by simpa using w1
  subst eb
  have w4 : (k + 1) / 2 ≤ szN y := w4
  have hgK := K.2.2.2.1
  have wy : wfN y ∧ y.1 ≤ 4 := by
    refine hgK y ?_
    rw [cStk_8 (m' := m) (d' := 1)]
    exact List.mem_cons_of_mem _ List.mem_cons_self
  have s64 := wf64 wy.1
  have n1 : ¬ (inA code m).2.2.1 = 1 := by omega
  rw [if_neg n1, if_neg n1] at ec
  obtain ⟨L2', x1, x2⟩ := nxF K.1.1 hm hL
  have x3 : L2' = 0 :: kd Iq := by
    generalize inA code m = cc at *
    obtain ⟨o', jj, r0, aa, pp, xx, yy⟩ := cc
    have z : o' = 10 := ho
    have z2 : r0 = 2 := hr
    subst z z2
    have x1 : (if 2 ≤ 2 then (pop0 2 L).map (0 :: ·) else none) = some L2' := x1
    rw [if_pos (Nat.le_refl _), hk1] at x1
    exact (Option.some.inj x1).symm
  generalize (inA code m).2.2.2.2.1 = pl at *
  obtain ⟨D1, D2⟩ := C1.fet (N := N) (X := X) (n := n) (l1 := [((25 : Int32), (0 : Int32), pl)]) (dd := 1) rfl C4 hm ec hcx (by omega)
  obtain ⟨s1, kx, y1, y2, y3, y4, y5, y6, ⟨y7, y8, y9, y10⟩, y11, y12⟩ := R1.fet (N := N) (l1 := [((10 : Int32), Int32.ofNat (27 + (inA code m).2.2.1), (0 : Int32), (0 : Int32), pl)]) (dd := 1) hG rfl R4 hm er hrl
  obtain ⟨F1, F2⟩ := D1.forget (N := N) (X := X)
  obtain ⟨va, i1, i2⟩ := F2.top1 (N := N) (X := X) (cStk_8 (m' := m) (d' := 1))
  obtain ⟨vb, i3⟩ := F2.peekA (N := N) (X := X) (by omega)
  obtain ⟨t4, e1, e2, e3⟩ := F2.foldE (N := N) (X := X) (fz := fa (inA code m).2.1) (pl := pl) (m' := m + 1) (d' := 0) b2 (by omega) s64
  have e2 : kI t4 49 17 = Int32.ofNat (posC code m + 1 + 1) := e2
  have pc1 : kI t4 49 17 + 1 = Int32.ofNat (posC code (m + 1) + 0) := by
    rw [e2, show (1 : Int32) = Int32.ofNat 1 from rfl, i32add, posC_s hm, show clen (inA code m) = 3 by unfold clen; rw [ho]; rfl]
  have RU := y4.unway (m' := m + 1) (d' := 0) (Or.inr (Or.inr (Or.inr rfl))) rfl
  have eW := wStk_w (m := m) (d := 1) (m' := m + 1) (d' := 0) (vs := vs) (I := (0, [c], j) :: Iq) (G := G) (it := (8, [y], k)) (Or.inr (Or.inr (Or.inr rfl)))
  have h79 := y4.2.1.2.2.2.2.2.2.1
  have hv := y4.2.1.2.2.1
  rw [eW] at hv
  obtain ⟨v1, v2, -, v4⟩ := hv.1.2.2 (Or.inr rfl)
  obtain ⟨a, -, -, v7⟩ := v4 [] y rfl
  have v1 : s1.2.2.1 80 (wStk ((m + 1, 0, vs, (0, [c], j) :: Iq) :: G)).length = Int32.ofNat 4 := v1
  have v8 : s1.2.2.1 82 (wStk ((m + 1, 0, vs, (0, [c], j) :: Iq) :: G)).length = Int32.ofNat ((k + 1) / 2) := v2
  have v7 : s1.2.2.1 83 (wStk ((m + 1, 0, vs, (0, [c], j) :: Iq) :: G)).length = Int32.ofNat (szN y) := v7
  have hwl := hbd.2.2.1
  rw [eW, List.length_cons] at h79 hwl
  have h317 : mf_317 N (Int32.ofNat kx) s1 = some (mI s1 79 (Int32.ofNat (wStk ((m + 1, 0, vs, (0, [c], j) :: Iq) :: G)).length), none) := by
    clear hv v4 v2 RU eW
    generalize (wStk ((m + 1, 0, vs, (0, [c], j) :: Iq) :: G)).length = nw at *
    have sb : Int32.ofNat (nw + 1) - Int32.ofNat 1 = Int32.ofNat nw := by rw [← Int32.ofNat_sub _ _ (by omega)]; rfl
    have hle : szN y ≤ (k + 1) / 2 := by omega
    generalize (k + 1) / 2 = kh at *
    generalize szN y = sy at *
    unfold mf_317 mf_317_0 mf_317_107 mf_317_127
    simp (disch := omega) only [ev_S, ev_P, ↓reduceIte, Nat.reduceEqDiff, Nat.reduceLeDiff, Nat.reduceAdd, Nat.reduceMul, Nat.reduceSub, reduceCtorEq, l32_0, l32_1, l32_2, l32_3, l32_4, l32_5, l32_6, l32_7, l32_8, l32_9, l32_10, l32_11, l32_12, l32_13, l32_14, l32_15, l32_16, l32_17, l32_18, l32_19, l32_20, l32_21, l32_22, l32_23, l32_24, l32_25, l32_26, l32_27, l32_28, l32_29, l32_33, l32_40, l32_41, l32_44, l32_45, l32_59, l32_61, l32_91, l32_93, l32_123, l32_125, h79, sb, v8, v7, hle, v1]
  refine goOn (k := 1) (j := 1) (by omega) (fun Q => ?_) (fun Q x2 => y11 _ ?_ RU.1.2.2.1.1 Q x2) (e1.pc (z := kI t4 49 17 + 1) (Or.inl rfl)) C2 pc1 RU R2 ?_ (K.nx hT ⟨0 :: kd Iq, by rw [← x3]; exact x2, Or.inl ⟨rfl, rfl, ?_⟩⟩ ⟨g, P.1, by show _ ≤ m + 1; omega, hnx, P.2.2.1.1, okV, P.2.2.2.1.2.2⟩ ?_ K.2.2.2.2.1 ?_ ?_)
  · rw [D2 Q]
    refine c_rdW (by decide) (by decide) (by decide) ((c_143o F1 i1 i3).trans (c_wk15.trans ?_))
    unfold cf_143_274 cf_143_280 cf_143_296
    rw [e3]
    rfl
  · rw [r_op11 y3 y7]
    unfold mf_313_202 mf_313_207
    rw [h317]
    rfl
  · show s1.1 69 = _
    rw [y5, y1, posR_s hm, show rlen (inA code m) = 2 by unfold rlen; rw [ho]; rfl]
    rfl
  · intro a ha
    rcases List.mem_cons.mp ha with q | q
    · rw [q]; exact Nat.zero_le 5
    · exact hpl a q
  · rw [cStk_8 (m' := m + 1) (d' := 0)] at hgK
    exact fun a ha => hgK a (List.mem_cons_of_mem _ (List.mem_cons_of_mem _ ha))
  · rw [crL_c (I := (0, [c], j) :: Iq)]
    have f1 : crI (8, [y], k) = 3 := rfl
    have f2 : pvI ((8, [y], k) :: (0, [c], j) :: Iq) = pvI ((0, [c], j) :: Iq) := rfl
    rw [f1, f2]
    omega
  · rw [n5I_c (I := (0, [c], j) :: Iq)]
    have f1 : (if (((8, [y], k) : It)).1 = 5 then 1 else 0) = 0 := rfl
    rw [f1]
    omega
end FEN
end
-- ### 98zz.pure.lean.txt
section
/-! ===== PURE: run (129): no fuel at a walk's next ===== -/
section NXX
variable {N : Nat} {X : Nat → Option zz_C} {t0 t t1 t2 t3 : cS} {s0 s s1 s2 : mS} {u w f p h fu m m' d d' n k b j e kx : Nat} {code : List Ins} {Fs : List Fn} {T T1 : Ty} {out : List Int32} {G F : List Fm} {sh S0 : Nat → Option Nod} {vs : List (Option Nod)} {I J I' Iq : List It} {q z pl fz : Int32} {x y c : Nod} {rs : List Nod} {g : Fn} {L : List Nat}
theorem c_stepX (C : CX t0 t p code Fs fu S0 u w F sh T out) (hf : fu ≤ 20000) (hT : T.1 ≤ fu) (hs : ¬ T.1 < fu) (ht : cf_156 N X (Int32.ofNat 10) pl (Int32.ofNat 0) t = some (t3, .inl none)) : cf_146 N X pl t = some (t3, .inl (some (.int (Int32.ofNat 0)))) := by
  have h1 := C.1.2.1.1
  have h2 := C.1.2.1.2.1
  have fit0 : zz_reti (some .boolean) (Int32.ofNat 0) = true := rfl
  have hn : ¬ fu < fu := by omega
  rw [show T.1 = fu by omega] at h2
  unfold cf_146 cf_146_0 cf_146_7 cf_146_12 cf_146_20 cf_235 cf_235_0 cf_235_11
  simp (disch := omega) only [ev_S, ev_C, ↓reduceIte, Nat.reduceEqDiff, Nat.reduceLeDiff, Nat.reduceAdd, Nat.reduceMul, Nat.reduceSub, reduceCtorEq, l32_0, l32_1, l32_2, l32_3, l32_4, l32_5, l32_6, l32_7, l32_8, l32_9, l32_10, l32_11, l32_12, l32_13, l32_14, l32_15, l32_16, l32_17, l32_18, l32_19, l32_20, l32_21, l32_22, l32_23, l32_24, l32_25, l32_26, l32_27, l32_28, l32_29, l32_33, l32_40, l32_41, l32_44, l32_45, l32_59, l32_61, l32_91, l32_93, l32_123, l32_125, h1, h2, hn, ht, fit0]
theorem CX.eachX (C : CX t0 t p code Fs fu S0 u w ((m, d, vs, (6, rs ++ [y], k) :: I) :: G) sh T out) (hrs : rs.length = k / 2) (hi : k / 2 < szN y) (hb : szN y ≤ 64) (hst : cf_146 N X pl t = some (t3, .inl (some (.int (Int32.ofNat 0))))) : cf_161 N X fz pl t = some (t3, .inl none) := by
  have e6 := cStk_6 (m := m) (d := d) (m' := m) (d' := d) (vs := vs) (l := rs ++ [y]) (k := k) (I := I) (G := G)
  obtain ⟨va, a1, a2⟩ := C.top1 (N := N) (X := X) e6
  have hlen : k / 2 + 2 ≤ (cStk ((m, d, vs, (6, rs ++ [y], k) :: I) :: G)).length := by
    rw [e6, List.length_cons, List.length_append, List.length_map, List.length_append, List.length_singleton]
    omega
  obtain ⟨vb, b1, b2⟩ := C.peek (N := N) (X := X) (k := k / 2 + 2) (by omega) hlen
  have eg : (cStk ((m, d, vs, (6, rs ++ [y], k) :: I) :: G))[k / 2 + 2 - 1]'(by omega) = some y := by
    have h1 : (cStk ((m, d, vs, (6, rs ++ [y], k) :: I) :: G))[k / 2 + 2 - 1]? = some (some y) := by
      rw [e6, show k / 2 + 2 - 1 = k / 2 + 1 by omega, List.getElem?_cons_succ, List.getElem?_append_left (by rw [List.length_map, List.length_append, List.length_singleton]; omega), List.getElem?_map, List.getElem?_append_right (by omega), show k / 2 - rs.length = 0 by omega]
      rfl
    rw [List.getElem?_eq_getElem (by omega)] at h1
    exact Option.some.inj h1
  rw [eg] at b2
  have a2 : cN (cel t) u va (nZ (Int32.ofNat (k / 2))) := a2
  have b2 : cN (cel t) u vb y := b2
  have ea := a2.z rfl
  have lo := c_lowOf (N := N) (X := X) (t := t) (k := 0) (a := ivN (nZ (Int32.ofNat (k / 2))))
  rw [← ea] at lo
  have lo : cf_256 N X va t = some (t, .inl (some (.int (Int32.ofNat (k / 2))))) := lo
  have sz := c_sizeN (N := N) (X := X) C.2.2.1 b2
  have hn : ¬ szN y ≤ k / 2 := by omega
  clear eg e6 hlen a2 ea b2 C
  generalize hkh : k / 2 = kh at *
  generalize szN y = sy at *
  unfold cf_161 cf_161_0 cf_161_5 cf_161_8 cf_161_16 cf_161_28 cf_161_31 cf_161_36 cf_161_60
  simp (disch := omega) only [ev_S, ev_C, ↓reduceIte, Nat.reduceEqDiff, Nat.reduceLeDiff, Nat.reduceAdd, Nat.reduceMul, Nat.reduceSub, reduceCtorEq, l32_0, l32_1, l32_2, l32_3, l32_4, l32_5, l32_6, l32_7, l32_8, l32_9, l32_10, l32_11, l32_12, l32_13, l32_14, l32_15, l32_16, l32_17, l32_18, l32_19, l32_20, l32_21, l32_22, l32_23, l32_24, l32_25, l32_26, l32_27, l32_28, l32_29, l32_33, l32_40, l32_41, l32_44, l32_45, l32_59, l32_61, l32_91, l32_93, l32_123, l32_125, a1, lo, b1, sz, hn, hst]
theorem CX.foldX (C : CX t0 t p code Fs fu S0 u w ((m, d, vs, (8, [y], k) :: I) :: G) sh T out) (hi : k / 2 < szN y) (hb : szN y ≤ 64) (hst : cf_146 N X pl t = some (t3, .inl (some (.int (Int32.ofNat 0))))) : cf_163 N X fz pl t = some (t3, .inl none) := by
  have e8 : cStk ((m, d, vs, (8, [y], k) :: I) :: G) = some (nZ (Int32.ofNat (k / 2))) :: some y :: cStk ((m, d, vs, I) :: G) := by
    rw [cStk_8 (m' := m) (d' := d)]
    rfl
  obtain ⟨va, a1, a2⟩ := C.top1 (N := N) (X := X) e8
  obtain ⟨vb, b1, b2⟩ := C.top2 (N := N) (X := X) e8
  have a2 : cN (cel t) u va (nZ (Int32.ofNat (k / 2))) := a2
  have b2 : cN (cel t) u vb y := b2
  have ea := a2.z rfl
  have lo := c_lowOf (N := N) (X := X) (t := t) (k := 0) (a := ivN (nZ (Int32.ofNat (k / 2))))
  rw [← ea] at lo
  have lo : cf_256 N X va t = some (t, .inl (some (.int (Int32.ofNat (k / 2))))) := lo
  have sz := c_sizeN (N := N) (X := X) C.2.2.1 b2
  have hn : ¬ szN y ≤ k / 2 := by omega
  clear e8 a2 ea b2 C
  generalize k / 2 = kh at *
  generalize szN y = sy at *
  unfold cf_163 cf_163_0 cf_163_5 cf_163_8 cf_163_14 cf_163_26 cf_163_29 cf_163_34 cf_163_67
  simp (disch := omega) only [ev_S, ev_C, ↓reduceIte, Nat.reduceEqDiff, Nat.reduceLeDiff, Nat.reduceAdd, Nat.reduceMul, Nat.reduceSub, reduceCtorEq, l32_0, l32_1, l32_2, l32_3, l32_4, l32_5, l32_6, l32_7, l32_8, l32_9, l32_10, l32_11, l32_12, l32_13, l32_14, l32_15, l32_16, l32_17, l32_18, l32_19, l32_20, l32_21, l32_22, l32_23, l32_24, l32_25, l32_26, l32_27, l32_28, l32_29, l32_33, l32_40, l32_41, l32_44, l32_45, l32_59, l32_61, l32_91, l32_93, l32_123, l32_125, a1, lo, b1, sz, hn, hst]
/-- the reference has no fuel -/
theorem r_nextX (R : RXm s0 s h code Fs fu f ((m, d, vs, (e, rs ++ [y], k) :: I) :: G) sh T out) (he : e = 6 ∨ e = 8) (hk : k % 2 = 0) (hw : (wStk ((m, d, vs, (e, rs ++ [y], k) :: I) :: G)).length ≤ 110) (hi : k / 2 < szN y) (hb : szN y ≤ 64) (hst : mf_302 N s = some (s2, none)) (h66 : s2.1 66 = Int32.ofNat 10) : mf_317 N (Int32.ofNat kx) s = some (s2, none) := by
  have hw6 : e = 2 ∨ e = 3 ∨ e = 6 ∨ e = 8 := by omega
  have eW := wStk_w (m := m) (d := d) (m' := m) (d' := d) (vs := vs) (I := I) (G := G) (it := (e, rs ++ [y], k)) hw6
  have h79 := R.2.1.2.2.2.2.2.2.1
  have hv := R.2.1.2.2.1
  rw [eW, List.length_cons] at h79 hw
  rw [eW] at hv
  obtain ⟨v1, v2, v3, v4⟩ := hv.1.2.2 he
  obtain ⟨a, v5, v6, v7⟩ := v4 rs y rfl
  have v8 : s.2.2.1 82 (wStk ((m, d, vs, I) :: G)).length = Int32.ofNat ((k + 1) / 2) := v2
  have v9 : s.2.2.1 83 (wStk ((m, d, vs, I) :: G)).length = Int32.ofNat (szN y) := v7
  have hn : ¬ szN y ≤ (k + 1) / 2 := by omega
  clear hv v1 v2 v3 v4 v5 v6 v7 eW R
  generalize (wStk ((m, d, vs, I) :: G)).length = nw at *
  have sb : Int32.ofNat (nw + 1) - Int32.ofNat 1 = Int32.ofNat nw := by rw [← Int32.ofNat_sub _ _ (by omega)]; rfl
  have hkb : (k + 1) / 2 ≤ 64 := by omega
  generalize (k + 1) / 2 = kh at *
  generalize szN y = sy at *
  unfold mf_317 mf_317_0 mf_317_22 mf_317_26 mf_317_33
  simp (disch := omega) only [ev_S, ev_P, ↓reduceIte, Nat.reduceEqDiff, Nat.reduceLeDiff, Nat.reduceAdd, Nat.reduceMul, Nat.reduceSub, reduceCtorEq, l32_0, l32_1, l32_2, l32_3, l32_4, l32_5, l32_6, l32_7, l32_8, l32_9, l32_10, l32_11, l32_12, l32_13, l32_14, l32_15, l32_16, l32_17, l32_18, l32_19, l32_20, l32_21, l32_22, l32_23, l32_24, l32_25, l32_26, l32_27, l32_28, l32_29, l32_33, l32_40, l32_41, l32_44, l32_45, l32_59, l32_61, l32_91, l32_93, l32_123, l32_125, h79, sb, v8, v9, hn, hst, h66]
end NXX
end
-- ### 98zza.pure.lean.txt
section
/-! ===== PURE: run (130): no fuel at a walk's next: both ===== -/
section NXY
variable {N : Nat} {X : Nat → Option zz_C} {t0 t t1 t2 t3 : cS} {s0 s s1 s2 : mS} {u w f p h fu m m' d d' n k b j e kx : Nat} {code : List Ins} {Fs : List Fn} {T T1 : Ty} {out : List Int32} {G F : List Fm} {sh S0 : Nat → Option Nod} {vs : List (Option Nod)} {I J I' Iq : List It} {q z pl fz : Int32} {x y c : Nod} {rs : List Nod} {g : Fn} {L : List Nat}
theorem n_eachX (hN : 170000 ≤ N) (C : CS t0 t p code Fs fu S0 ((m, 1, vs, (6, rs ++ [y], k) :: Iq) :: G) sh T out) (R : RSm s0 s h code Fs fu ((m, 1, vs, (6, rs ++ [y], k) :: Iq) :: G) sh T out) (K : CK code Fs fu ((m, 1, vs, (6, rs ++ [y], k) :: Iq) :: G) sh T out n) (ho : (inA code m).1 = 10) (hr : (inA code m).2.2.1 = 1) (hk2 : k % 2 = 0) (hi : k / 2 < szN y) (hs : ¬ T.1 < fu) : GO N X t0 s0 p h code Fs fu S0 t s n := by
  obtain ⟨u, w, f, g, C1, C2, C4, R1, R2, R4, P, hm, hcx, hrl, hG, ⟨b1, b2, b6⟩, hT, hol⟩ := open0 C R K
  obtain ⟨ec, er⟩ := cI_10 (code := code) (own := posC code m) (e := h) ho
  have hbd := K.bd
  obtain ⟨rs', y', w1, w2, w3, w4⟩ := P.2.2.2.1.1.2.2.2.2.1 rfl
  have w1 : rs ++ [y] = rs' ++ [y'] := w1
  obtain ⟨ea, eb⟩ := List.append_inj' w1 rfl
  have eb : y = y' := by simpa using eb
  subst ea eb
  have w2 : rs.length = k / 2 := w2
  have wy : wfN y ∧ y.1 ≤ 4 := by
    refine K.2.2.2.1 y ?_
    rw [cStk_6 (m' := m) (d' := 0)]
    exact List.mem_cons_of_mem _ (List.mem_append_left _ (List.mem_map.mpr ⟨y, List.mem_append_right _ List.mem_cons_self, rfl⟩))
  have s64 := wf64 wy.1
  rw [if_pos hr, if_pos hr] at ec
  generalize (inA code m).2.2.2.2.1 = pl at *
  obtain ⟨D1, D2⟩ := C1.fet (N := N) (X := X) (n := n) (l1 := [((25 : Int32), (0 : Int32), pl)]) (dd := 1) rfl C4 hm ec hcx (by omega)
  obtain ⟨s1, kx, y1, y2, y3, y4, y5, y6, ⟨y7, y8, y9, y10⟩, y11, y12⟩ := R1.fet (N := N) (l1 := [((10 : Int32), Int32.ofNat (27 + (inA code m).2.2.1), (0 : Int32), (0 : Int32), pl)]) (dd := 1) hG rfl R4 hm er hrl
  obtain ⟨F1, F2⟩ := D1.forget (N := N) (X := X)
  obtain ⟨va, i1, i2⟩ := F2.top1 (N := N) (X := X) (cStk_6 (m' := m) (d' := 0))
  obtain ⟨vb, i3⟩ := F2.peekA (N := N) (X := X) (by omega)
  obtain ⟨e1', e2', e3'⟩ := r_nost (N := N) y4 hT.1 hs hT.2.1
  rw [y6] at e1' e2' e3'
  have h317 : mf_317 N (Int32.ofNat kx) s1 = some (trb s1 (Int32.ofNat 10) pl, none) := r_nextX (N := N) y4 (Or.inl rfl) hk2 hbd.2.2.1 hi s64 e1' rfl
  refine trob0 (kq := 10) (k0 := 1) (ra := Int32.ofNat 0) (by omega) (by omega) (by omega) K hT ⟨Nat.le_refl _, Nat.le_refl _⟩ F2 (Nat.le_trans C2 (Nat.le_add_right _ _)) e2' e3' ⟨R2.1, Nat.le_trans R2.2 (Nat.le_add_right _ _)⟩ rfl (fun t3 ht Q => ?_) (y12 _ 10 ?_ rfl (by omega)) b6
  · rw [D2 Q]
    refine c_rdW (by decide) (by decide) (by decide) ((c_143o F1 i1 i3).trans (c_wk13.trans ?_))
    have e4 := F2.eachX (N := N) (X := X) (fz := fa (inA code m).2.1) w2 hi s64 (c_stepX F2 hT.1 hT.2.1 hs ht)
    unfold cf_143_265 cf_143_271 cf_143_296
    rw [e4]
    rfl
  · rw [r_op11 y3 y7]
    unfold mf_313_202 mf_313_207
    rw [h317]
    rfl
theorem n_foldX (hN : 170000 ≤ N) (C : CS t0 t p code Fs fu S0 ((m, 1, vs, (8, [y], k) :: Iq) :: G) sh T out) (R : RSm s0 s h code Fs fu ((m, 1, vs, (8, [y], k) :: Iq) :: G) sh T out) (K : CK code Fs fu ((m, 1, vs, (8, [y], k) :: Iq) :: G) sh T out n) (ho : (inA code m).1 = 10) (hr : (inA code m).2.2.1 = 2) (hk2 : k % 2 = 0) (hi : k / 2 < szN y) (hs : ¬ T.1 < fu) : GO N X t0 s0 p h code Fs fu S0 t s n := by
  obtain ⟨u, w, f, g, C1, C2, C4, R1, R2, R4, P, hm, hcx, hrl, hG, ⟨b1, b2, b6⟩, hT, hol⟩ := open0 C R K
  obtain ⟨ec, er⟩ := cI_10 (code := code) (own := posC code m) (e := h) ho
  have hbd := K.bd
  have wy : wfN y ∧ y.1 ≤ 4 := by
    refine K.2.2.2.1 y ?_
    rw [cStk_8 (m' := m) (d' := 0)]
    exact List.mem_cons_of_mem _ List.mem_cons_self
  have s64 := wf64 wy.1
  have n1 : ¬ (inA code m).2.2.1 = 1 := by omega
  rw [if_neg n1, if_neg n1] at ec
  generalize (inA code m).2.2.2.2.1 = pl at *
  obtain ⟨D1, D2⟩ := C1.fet (N := N) (X := X) (n := n) (l1 := [((25 : Int32), (0 : Int32), pl)]) (dd := 1) rfl C4 hm ec hcx (by omega)
  obtain ⟨s1, kx, y1, y2, y3, y4, y5, y6, ⟨y7, y8, y9, y10⟩, y11, y12⟩ := R1.fet (N := N) (l1 := [((10 : Int32), Int32.ofNat (27 + (inA code m).2.2.1), (0 : Int32), (0 : Int32), pl)]) (dd := 1) hG rfl R4 hm er hrl
  obtain ⟨F1, F2⟩ := D1.forget (N := N) (X := X)
  obtain ⟨va, i1, i2⟩ := F2.top1 (N := N) (X := X) (cStk_8 (m' := m) (d' := 0))
  obtain ⟨vb, i3⟩ := F2.peekA (N := N) (X := X) (by omega)
  obtain ⟨e1', e2', e3'⟩ := r_nost (N := N) y4 hT.1 hs hT.2.1
  rw [y6] at e1' e2' e3'
  have h317 : mf_317 N (Int32.ofNat kx) s1 = some (trb s1 (Int32.ofNat 10) pl, none) := r_nextX (N := N) (rs := []) y4 (Or.inr rfl) hk2 hbd.2.2.1 hi s64 e1' rfl
  refine trob0 (kq := 10) (k0 := 1) (ra := Int32.ofNat 0) (by omega) (by omega) (by omega) K hT ⟨Nat.le_refl _, Nat.le_refl _⟩ F2 (Nat.le_trans C2 (Nat.le_add_right _ _)) e2' e3' ⟨R2.1, Nat.le_trans R2.2 (Nat.le_add_right _ _)⟩ rfl (fun t3 ht Q => ?_) (y12 _ 10 ?_ rfl (by omega)) b6
  · rw [D2 Q]
    refine c_rdW (by decide) (by decide) (by decide) ((c_143o F1 i1 i3).trans (c_wk15.trans ?_))
    have e4 := F2.foldX (N := N) (X := X) (fz := fa (inA code m).2.1) hi s64 (c_stepX F2 hT.1 hT.2.1 hs ht)
    unfold cf_143_274 cf_143_280 cf_143_296
    rw [e4]
    rfl
  · rw [r_op11 y3 y7]
    unfold mf_313_202 mf_313_207
    rw [h317]
    rfl
end NXY
end
-- ### 98zzb.pure.lean.txt
section
/-! ===== PURE: run (131): too deep at a walk's next ===== -/
section NXD
variable {N : Nat} {X : Nat → Option zz_C} {t0 t t1 t2 t3 : cS} {s0 s s1 s2 : mS} {u w f p h fu m m' d d' n k b j e kx : Nat} {code : List Ins} {Fs : List Fn} {T T1 : Ty} {out : List Int32} {G F : List Fm} {sh S0 : Nat → Option Nod} {vs : List (Option Nod)} {I J I' Iq : List It} {q z pl fz : Int32} {x y c : Nod} {rs : List Nod} {g : Fn} {L : List Nat}
theorem CX.dropY (C : CX t0 t p code Fs fu S0 u w ((m, d, vs, J ++ I) :: G) sh T out) (hJ : ∀ y ∈ J, ¬ y.1 = 3) : CY t0 t p code Fs fu S0 u w ((m', d', vs, I) :: G) sh T out := by
  obtain ⟨h1, h2, h3, -⟩ := C
  have hs := h2.1
  rw [cStk_app (m' := m') (d' := d')] at hs
  refine ⟨h1, h2.stk (gf.rf2 (E := fun _ _ => False) (A := fun _ => False)) (fun f q => q.elim) (fun k q => q.elim) ⟨hs.1.app, ?_, hs.2.2⟩ ?_, h3⟩
  · have := hs.2.1
    rw [List.length_append] at this
    omega
  · show tIt _ _ I ++ _ = tIt _ _ (J ++ I) ++ _
    rw [tIt_app hJ]
theorem r_nextD (R : RXm s0 s h code Fs fu f ((m, d, vs, (e, rs ++ [y], k) :: I) :: G) sh T out) (hs : s = mI s1 60 z) (hstep : mf_302 N s1 = some (s, none)) (he : e = 6 ∨ e = 8) (hk : k % 2 = 0) (hw : (wStk ((m, d, vs, (e, rs ++ [y], k) :: I) :: G)).length ≤ 110) (hi : k / 2 < szN y) (hb : szN y ≤ 64) (hG : G.length = 9) (h70 : s.1 70 = pl) (ht : mf_301 N (Int32.ofNat 8) pl s = some (s2, none)) : mf_317 N (Int32.ofNat kx) s1 = some (s2, none) := by
  have hw6 : e = 2 ∨ e = 3 ∨ e = 6 ∨ e = 8 := by omega
  have eW := wStk_w (m := m) (d := d) (m' := m) (d' := d) (vs := vs) (I := I) (G := G) (it := (e, rs ++ [y], k)) hw6
  have h66 : s.1 66 = Int32.ofNat 0 := R.1.2.2.1.1
  have h79 := R.2.1.2.2.2.2.2.2.1
  have h73 : s.1 73 = Int32.ofNat 10 := by
    have : s.1 73 = Int32.ofNat (G.length + 1) := R.2.1.2.2.2.2.2.1
    rw [hG] at this
    exact this
  have hv := R.2.1.2.2.1
  rw [eW, List.length_cons] at h79 hw
  rw [eW] at hv
  obtain ⟨v1, v2, v3, v4⟩ := hv.1.2.2 he
  obtain ⟨a, v5, v6, v7⟩ := v4 rs y rfl
  have v8 : s.2.2.1 82 (wStk ((m, d, vs, I) :: G)).length = Int32.ofNat ((k + 1) / 2) := v2
  have v9 : s.2.2.1 83 (wStk ((m, d, vs, I) :: G)).length = Int32.ofNat (szN y) := v7
  have u79 : s1.1 79 = Int32.ofNat ((wStk ((m, d, vs, I) :: G)).length + 1) := by rw [← h79, hs]; rfl
  have u82 : s1.2.2.1 82 (wStk ((m, d, vs, I) :: G)).length = Int32.ofNat ((k + 1) / 2) := by rw [← v8, hs]; rfl
  have u83 : s1.2.2.1 83 (wStk ((m, d, vs, I) :: G)).length = Int32.ofNat (szN y) := by rw [← v9, hs]; rfl
  have hn : ¬ szN y ≤ (k + 1) / 2 := by omega
  clear hv v1 v2 v3 v4 v5 v6 v7 v8 v9 h79 eW R hs
  generalize (wStk ((m, d, vs, I) :: G)).length = nw at *
  have sb : Int32.ofNat (nw + 1) - Int32.ofNat 1 = Int32.ofNat nw := by rw [← Int32.ofNat_sub _ _ (by omega)]; rfl
  have hkb : (k + 1) / 2 ≤ 64 := by omega
  generalize (k + 1) / 2 = kh at *
  generalize szN y = sy at *
  unfold mf_317 mf_317_0 mf_317_22 mf_317_26 mf_317_34 mf_317_43 mf_317_53
  simp (disch := omega) only [ev_S, ev_P, ↓reduceIte, Nat.reduceEqDiff, Nat.reduceLeDiff, Nat.reduceAdd, Nat.reduceMul, Nat.reduceSub, reduceCtorEq, l32_0, l32_1, l32_2, l32_3, l32_4, l32_5, l32_6, l32_7, l32_8, l32_9, l32_10, l32_11, l32_12, l32_13, l32_14, l32_15, l32_16, l32_17, l32_18, l32_19, l32_20, l32_21, l32_22, l32_23, l32_24, l32_25, l32_26, l32_27, l32_28, l32_29, l32_33, l32_40, l32_41, l32_44, l32_45, l32_59, l32_61, l32_91, l32_93, l32_123, l32_125, u79, sb, u82, u83, hn, hstep, h66, h73, h70, ht]
theorem c_deep (h11 : kI t 49 11 = Int32.ofNat 10) (ht : cf_156 N X (Int32.ofNat 8) pl (Int32.ofNat 0) t = some (t3, .inl none)) : cf_157 N X fz z pl t = some (t3, .inl none) := by
  unfold cf_157 cf_157_0 cf_157_9 cf_157_17
  simp (disch := omega) only [ev_S, ev_C, ↓reduceIte, Nat.reduceEqDiff, Nat.reduceLeDiff, Nat.reduceAdd, Nat.reduceMul, Nat.reduceSub, reduceCtorEq, l32_0, l32_1, l32_2, l32_3, l32_4, l32_5, l32_6, l32_7, l32_8, l32_9, l32_10, l32_11, l32_12, l32_13, l32_14, l32_15, l32_16, l32_17, l32_18, l32_19, l32_20, l32_21, l32_22, l32_23, l32_24, l32_25, l32_26, l32_27, l32_28, l32_29, l32_33, l32_40, l32_41, l32_44, l32_45, l32_59, l32_61, l32_91, l32_93, l32_123, l32_125, h11, ht]
theorem n_eachD (hN : 170000 ≤ N) (C : CS t0 t p code Fs fu S0 ((m, 1, vs, (6, rs ++ [y], k) :: Iq) :: G) sh T out) (R : RSm s0 s h code Fs fu ((m, 1, vs, (6, rs ++ [y], k) :: Iq) :: G) sh T out) (K : CK code Fs fu ((m, 1, vs, (6, rs ++ [y], k) :: Iq) :: G) sh T out n) (ho : (inA code m).1 = 10) (hr : (inA code m).2.2.1 = 1) (hk2 : k % 2 = 0) (hi : k / 2 < szN y) (hs : T.1 < fu) (hG9 : G.length = 9) : GO N X t0 s0 p h code Fs fu S0 t s n := by
  obtain ⟨u, w, f, g, C1, C2, C4, R1, R2, R4, P, hm, hcx, hrl, hG, ⟨b1, b2, b6⟩, hT, hol⟩ := open0 C R K
  obtain ⟨ec, er⟩ := cI_10 (code := code) (own := posC code m) (e := h) ho
  have hbd := K.bd
  obtain ⟨rs', y', w1, w2, w3, w4⟩ := P.2.2.2.1.1.2.2.2.2.1 rfl
  have w1 : rs ++ [y] = rs' ++ [y'] := w1
  obtain ⟨ea, eb⟩ := List.append_inj' w1 rfl
  have eb : y = y' := by simpa using eb
  subst ea eb
  have w2 : rs.length = k / 2 := w2
  have wy : wfN y ∧ y.1 ≤ 4 := by
    refine K.2.2.2.1 y ?_
    rw [cStk_6 (m' := m) (d' := 0)]
    exact List.mem_cons_of_mem _ (List.mem_append_left _ (List.mem_map.mpr ⟨y, List.mem_append_right _ List.mem_cons_self, rfl⟩))
  have s64 := wf64 wy.1
  rw [if_pos hr, if_pos hr] at ec
  generalize (inA code m).2.2.2.2.1 = pl at *
  obtain ⟨D1, D2⟩ := C1.fet (N := N) (X := X) (n := n) (l1 := [((25 : Int32), (0 : Int32), pl)]) (dd := 1) rfl C4 hm ec hcx (by omega)
  obtain ⟨s1, kx, y1, y2, y3, y4, y5, y6, ⟨y7, y8, y9, y10⟩, y11, y12⟩ := R1.fet (N := N) (l1 := [((10 : Int32), Int32.ofNat (27 + (inA code m).2.2.1), (0 : Int32), (0 : Int32), pl)]) (dd := 1) hG rfl R4 hm er hrl
  obtain ⟨F1, F2⟩ := D1.forget (N := N) (X := X)
  obtain ⟨va, i1, i2⟩ := F2.top1 (N := N) (X := X) (cStk_6 (m' := m) (d' := 0))
  obtain ⟨vb, i3⟩ := F2.peekA (N := N) (X := X) (by omega)
  obtain ⟨t4, e1, e2, e3⟩ := F2.eachA (N := N) (X := X) (fz := fa (inA code m).2.1) (pl := pl) b2 w2 w3 hi s64 hT.1 hs
  have hT1 : okTy fu (T.1 + 1, T.2) := ⟨hT.1, hs, hT.2.2⟩
  have hstep := r_step (N := N) y4 hT.1 hs
  obtain ⟨x1, x2, x3⟩ := (y4.st).trb (N := N) (k := 8) (q := pl)
  have h317 := r_nextD (N := N) (kx := kx) (y4.st) rfl hstep (Or.inl rfl) hk2 hbd.2.2.1 hi s64 hG9 y6 x1
  have CYd := CX.dropY (J := [(0, [elN y (k / 2)], 0)]) (m' := m) (d' := 1) e1 (fun a ha => by rw [List.mem_singleton.mp ha]; show ¬ (0 : Nat) = 3; decide)
  have h11 : kI t4 49 11 = Int32.ofNat 10 := by
    have : kI t4 49 11 = Int32.ofNat (G.length + 1) := e1.2.1.2.2.2.2.2.2.1
    rw [hG9] at this
    exact this
  refine trob (k := 8) (k0 := 1) (r := Int32.ofNat 0) (by omega) (by omega) (by omega) (j0 := 0) (by omega) CYd (Nat.le_trans C2 (Nat.le_add_right _ _)) x2 x3 ⟨R2.1, Nat.le_trans R2.2 (Nat.le_add_right _ _)⟩ (by intro q; cases q) rfl (K.kt (J := []) rfl hT1 ⟨by show T.1 ≤ T.1 + 1; omega, Nat.le_refl _⟩ (by omega)) (fun t3 ht Q => ?_) (y12 _ 8 ?_ rfl (by omega)) (by omega)
  · rw [D2 Q]
    refine c_rdW (by decide) (by decide) (by decide) ((c_143o F1 i1 i3).trans (c_wk13.trans ?_))
    have e4 := e3 t3 (c_deep h11 ht)
    unfold cf_143_265 cf_143_271 cf_143_296
    rw [e4]
    rfl
  · rw [r_op11 y3 y7]
    unfold mf_313_202 mf_313_207
    rw [h317]
    rfl
theorem n_foldD (hN : 170000 ≤ N) (C : CS t0 t p code Fs fu S0 ((m, 1, vs, (8, [y], k) :: (0, [c], j) :: Iq) :: G) sh T out) (R : RSm s0 s h code Fs fu ((m, 1, vs, (8, [y], k) :: (0, [c], j) :: Iq) :: G) sh T out) (K : CK code Fs fu ((m, 1, vs, (8, [y], k) :: (0, [c], j) :: Iq) :: G) sh T out n) (ho : (inA code m).1 = 10) (hr : (inA code m).2.2.1 = 2) (hk2 : k % 2 = 0) (hi : k / 2 < szN y) (hs : T.1 < fu) (hG9 : G.length = 9) : GO N X t0 s0 p h code Fs fu S0 t s n := by
  obtain ⟨u, w, f, g, C1, C2, C4, R1, R2, R4, P, hm, hcx, hrl, hG, ⟨b1, b2, b6⟩, hT, hol⟩ := open0 C R K
  obtain ⟨ec, er⟩ := cI_10 (code := code) (own := posC code m) (e := h) ho
  have hbd := K.bd
  obtain ⟨y', w1, w3, w4⟩ := P.2.2.2.1.1.2.2.2.2.2 rfl
  have w1 : [y] = [y'] := w1
  have eb : y = y' := by simpa using w1
  subst eb
  have wy : wfN y ∧ y.1 ≤ 4 := by
    refine K.2.2.2.1 y ?_
    rw [cStk_8 (m' := m) (d' := 0)]
    exact List.mem_cons_of_mem _ List.mem_cons_self
  have s64 := wf64 wy.1
  have n1 : ¬ (inA code m).2.2.1 = 1 := by omega
  rw [if_neg n1, if_neg n1] at ec
  generalize (inA code m).2.2.2.2.1 = pl at *
  obtain ⟨D1, D2⟩ := C1.fet (N := N) (X := X) (n := n) (l1 := [((25 : Int32), (0 : Int32), pl)]) (dd := 1) rfl C4 hm ec hcx (by omega)
  obtain ⟨s1, kx, y1, y2, y3, y4, y5, y6, ⟨y7, y8, y9, y10⟩, y11, y12⟩ := R1.fet (N := N) (l1 := [((10 : Int32), Int32.ofNat (27 + (inA code m).2.2.1), (0 : Int32), (0 : Int32), pl)]) (dd := 1) hG rfl R4 hm er hrl
  obtain ⟨F1, F2⟩ := D1.forget (N := N) (X := X)
  obtain ⟨va, i1, i2⟩ := F2.top1 (N := N) (X := X) (cStk_8 (m' := m) (d' := 0))
  obtain ⟨vb, i3⟩ := F2.peekA (N := N) (X := X) (by omega)
  obtain ⟨t4, e1, e2, e3⟩ := F2.foldA (N := N) (X := X) (fz := fa (inA code m).2.1) (pl := pl) b2 w3 hi s64 hT.1 hs
  have hT1 : okTy fu (T.1 + 1, T.2) := ⟨hT.1, hs, hT.2.2⟩
  have hstep := r_step (N := N) y4 hT.1 hs
  obtain ⟨x1, x2, x3⟩ := (y4.st).trb (N := N) (k := 8) (q := pl)
  have h317 := r_nextD (N := N) (kx := kx) (rs := []) (y4.st) rfl hstep (Or.inr rfl) hk2 hbd.2.2.1 hi s64 hG9 y6 x1
  have CYd := CX.dropY (J := [(0, [elN y (k / 2)], 0), (0, [c], 0)]) (m' := m) (d' := 1) e1 (fun a ha => by
    rcases List.mem_cons.mp ha with q | q
    · rw [q]; show ¬ (0 : Nat) = 3; decide
    · rw [List.mem_singleton.mp q]; show ¬ (0 : Nat) = 3; decide)
  have h11 : kI t4 49 11 = Int32.ofNat 10 := by
    have : kI t4 49 11 = Int32.ofNat (G.length + 1) := e1.2.1.2.2.2.2.2.2.1
    rw [hG9] at this
    exact this
  refine trob (k := 8) (k0 := 1) (r := Int32.ofNat 0) (by omega) (by omega) (by omega) (j0 := 0) (by omega) CYd (Nat.le_trans C2 (Nat.le_add_right _ _)) x2 x3 ⟨R2.1, Nat.le_trans R2.2 (Nat.le_add_right _ _)⟩ (by intro q; cases q) rfl (K.kt (J := []) rfl hT1 ⟨by show T.1 ≤ T.1 + 1; omega, Nat.le_refl _⟩ (by omega)) (fun t3 ht Q => ?_) (y12 _ 8 ?_ rfl (by omega)) (by omega)
  · rw [D2 Q]
    refine c_rdW (by decide) (by decide) (by decide) ((c_143o F1 i1 i3).trans (c_wk15.trans ?_))
    have e4 := e3 t3 (c_deep h11 ht)
    unfold cf_143_274 cf_143_280 cf_143_296
    rw [e4]
    rfl
  · rw [r_op11 y3 y7]
    unfold mf_313_202 mf_313_207
    rw [h317]
    rfl
end NXD
end
-- ### 98zzc.pure.lean.txt
section
/-! ===== PURE: run (132): what each gives, the class ===== -/
/-- what an each over y gives that got xs -/
def ansE (y : Nod) (xs : List Nod) : Ans := if kn y = 3 then ansM 3 xs else if xs = [] then ansM (kn y) [] else ansL xs
section EAC
variable {N : Nat} {X : Nat → Option zz_C} {t t' : cS} {u : Nat} {x y : Nod} {xs : List Nod}
theorem c_eachB (hN : 170000 ≤ N) (H : cG t t' u u 0 xs) (hw : ∀ x ∈ xs, wfN x) (hd : ∀ x ∈ xs, x.1 ≤ 4) (hl : xs.length ≤ 3000) (hu : u ≤ 162000) (h0 : ¬ kn y = 0) : (kn y = 3 → ∃ t'' v, cf_126 N X (Int32.ofNat 3) (Int32.ofNat 0) t' = some (t'', .inl (some (.long v))) ∧ cE t t'' u v (ansE y xs)) ∧ (¬ kn y = 3 → ∃ t'' v, cf_127 N X (Int32.ofNat (kn y)) (Int32.ofNat 0) t' = some (t'', .inl (some (.long v))) ∧ cE t t'' u v (ansE y xs)) := by
  have hk := kn_le (x := y)
  refine ⟨fun h3 => ?_, fun h3 => ?_⟩
  · obtain ⟨t2, v, b1, b2⟩ := cG.build (N := N) (X := X) (k := 3) hN H (Or.inr (Or.inr rfl)) hw hd hl (by omega) (by omega) (by omega) (by omega)
    refine ⟨t2, v, b1, ?_⟩
    unfold ansE
    rw [if_pos h3]
    exact b2
  · have H' := H
    obtain ⟨⟨h1, h2, h3', h4, h5, h6, h7, h8, h9⟩, -, -, -, -, hr⟩ := H'
    rw [Nat.zero_add] at h2
    cases xs with
    | nil =>
      have hok : mkOk (kn y) [] := by
        rcases (show kn y = 1 ∨ kn y = 2 by omega) with e | e
        · rw [e]; exact Or.inl ⟨rfl, fun x hx => by cases hx⟩
        · rw [e]; exact Or.inr (Or.inl ⟨rfl, fun x hx => by cases hx⟩)
      obtain ⟨t2, v, b1, b2⟩ := cG.build (N := N) (X := X) hN H hok hw hd hl (by omega) (by omega) (by omega) (by omega)
      refine ⟨t2, v, ?_, ?_⟩
      · have h2 : kI t' 42 3 = Int32.ofNat 0 := h2
        obtain ⟨N', rfl⟩ : ∃ N', N = N' + 1 := ⟨N - 1, by omega⟩
        have e5 : ∀ q : Int32, cf_127_L5 (N' + 1) X (N' + 1) 0 (Int32.ofNat 0) q (Int32.ofNat 1) (Int32.ofNat 0) t' = cf_127_44 (N' + 1) X (cf_127_L5 (N' + 1) X N') (Int32.ofNat 0) q (Int32.ofNat 1) (Int32.ofNat 0) t' := fun q => rfl
        rcases (show kn y = 1 ∨ kn y = 2 by omega) with e | e
        · rw [e] at b1 ⊢
          unfold cf_127 cf_127_0 cf_127_22 cf_127_23 cf_127_34 cf_127_39
          simp (disch := omega) only [ev_S, ev_C, ↓reduceIte, Nat.reduceEqDiff, Nat.reduceLeDiff, Nat.reduceAdd, Nat.reduceMul, Nat.reduceSub, reduceCtorEq, l32_0, l32_1, l32_2, l32_3, l32_4, l32_5, l32_6, l32_7, l32_8, l32_9, l32_10, l32_11, l32_12, l32_13, l32_14, l32_15, l32_16, l32_17, l32_18, l32_19, l32_20, l32_21, l32_22, l32_23, l32_24, l32_25, l32_26, l32_27, l32_28, l32_29, l32_33, l32_40, l32_41, l32_44, l32_45, l32_59, l32_61, l32_91, l32_93, l32_123, l32_125, h2, e5]
          unfold cf_127_44 cf_127_87 cf_127_92 cf_127_98 cf_127_105
          simp (disch := omega) only [ev_S, ev_C, ↓reduceIte, Nat.reduceEqDiff, Nat.reduceLeDiff, Nat.reduceAdd, Nat.reduceMul, Nat.reduceSub, reduceCtorEq, l32_0, l32_1, l32_2, l32_3, l32_4, l32_5, l32_6, l32_7, l32_8, l32_9, l32_10, l32_11, l32_12, l32_13, l32_14, l32_15, l32_16, l32_17, l32_18, l32_19, l32_20, l32_21, l32_22, l32_23, l32_24, l32_25, l32_26, l32_27, l32_28, l32_29, l32_33, l32_40, l32_41, l32_44, l32_45, l32_59, l32_61, l32_91, l32_93, l32_123, l32_125, h2, b1]
        · rw [e] at b1 ⊢
          unfold cf_127 cf_127_0 cf_127_22 cf_127_23 cf_127_29 cf_127_34 cf_127_39
          simp (disch := omega) only [ev_S, ev_C, ↓reduceIte, Nat.reduceEqDiff, Nat.reduceLeDiff, Nat.reduceAdd, Nat.reduceMul, Nat.reduceSub, reduceCtorEq, l32_0, l32_1, l32_2, l32_3, l32_4, l32_5, l32_6, l32_7, l32_8, l32_9, l32_10, l32_11, l32_12, l32_13, l32_14, l32_15, l32_16, l32_17, l32_18, l32_19, l32_20, l32_21, l32_22, l32_23, l32_24, l32_25, l32_26, l32_27, l32_28, l32_29, l32_33, l32_40, l32_41, l32_44, l32_45, l32_59, l32_61, l32_91, l32_93, l32_123, l32_125, h2, e5]
          unfold cf_127_44 cf_127_87 cf_127_92 cf_127_98 cf_127_105
          simp (disch := omega) only [ev_S, ev_C, ↓reduceIte, Nat.reduceEqDiff, Nat.reduceLeDiff, Nat.reduceAdd, Nat.reduceMul, Nat.reduceSub, reduceCtorEq, l32_0, l32_1, l32_2, l32_3, l32_4, l32_5, l32_6, l32_7, l32_8, l32_9, l32_10, l32_11, l32_12, l32_13, l32_14, l32_15, l32_16, l32_17, l32_18, l32_19, l32_20, l32_21, l32_22, l32_23, l32_24, l32_25, l32_26, l32_27, l32_28, l32_29, l32_33, l32_40, l32_41, l32_44, l32_45, l32_59, l32_61, l32_91, l32_93, l32_123, l32_125, h2, b1]
      · unfold ansE
        rw [if_neg h3, if_pos rfl]
        exact b2
    | cons x xs =>
      obtain ⟨t2, v, b1, b2⟩ := c_lit (N := N) (X := X) hN H hw hd hl hu
      refine ⟨t2, v, ?_, ?_⟩
      · have h2 : kI t' 42 3 = Int32.ofNat (xs.length + 1) := h2
        have hl' : xs.length + 1 ≤ 3000 := hl
        have n0 : ¬ xs.length + 1 ≤ 0 := by omega
        rw [← b1]
        have e1 : ∀ q : Int32, cf_127 N X q (Int32.ofNat 0) t' = cf_127_8 N X (Int32.ofNat 0) t' := fun q => by
          unfold cf_127 cf_127_0
          simp (disch := omega) only [ev_S, ev_C, ↓reduceIte, Nat.reduceEqDiff, Nat.reduceLeDiff, Nat.reduceAdd, Nat.reduceMul, Nat.reduceSub, reduceCtorEq, l32_0, l32_1, l32_2, l32_3, l32_4, l32_5, l32_6, l32_7, l32_8, l32_9, l32_10, l32_11, l32_12, l32_13, l32_14, l32_15, l32_16, l32_17, l32_18, l32_19, l32_20, l32_21, l32_22, l32_23, l32_24, l32_25, l32_26, l32_27, l32_28, l32_29, l32_33, l32_40, l32_41, l32_44, l32_45, l32_59, l32_61, l32_91, l32_93, l32_123, l32_125, h2, n0]
        rw [e1, e1]
      · unfold ansE
        rw [if_neg h3, if_neg (by intro q; cases q)]
        exact b2
end EAC
end
-- ### 98zzd.pure.lean.txt
section
/-! ===== PURE: run (133): what each gives, the reference ===== -/
section EAR
variable {N nw a : Nat} {x y : Nod} {xs : List Nod} {s s' : mS} {n f m : Nat}
/-- the scan -/
theorem r_eachS (hN : 170000 ≤ N) (H : rA s n f m xs) (hl : xs.length ≤ 3000) : mf_317_L8 N N 0 (Int32.ofNat n) (Int32.ofNat 1) (Int32.ofNat 1) (Int32.ofNat n) s = mf_317_279 N (Int32.ofNat n) (bI (aK 0 xs)) (bI (aK 1 xs)) s := by
  obtain ⟨⟨h51, hv⟩, H2, H3, H4, H5, H6, H7, H8, H9, H10⟩ := H
  have L := lp (fun f i (a : Int32 × Int32) => mf_317_L8 N f 0 (Int32.ofNat n) a.1 a.2 (Int32.ofNat (n + i)) s) xs.length (fun i a => a.1 = bI (aK 0 (xs.take i)) ∧ a.2 = bI (aK 1 (xs.take i))) (fun r => r = mf_317_279 N (Int32.ofNat n) (bI (aK 0 xs)) (bI (aK 1 xs)) s) (by
    intro f1 i a hi hP _
    left
    obtain ⟨a1, a2⟩ := a
    obtain ⟨e1, e2⟩ := hP
    have e1 : a1 = _ := e1
    have e2 : a2 = _ := e2
    subst e1
    subst e2
    have hx := hv i hi
    have hka := r_kindAt (N := N) hx (by omega) (by omega)
    rw [kd_kn] at hka
    have n1 : ¬ n + xs.length ≤ n + i := by omega
    have kl := kn_le (x := xs[i])
    refine ⟨(_, _), ⟨rfl, rfl⟩, ?_⟩
    show mf_317_220 N (mf_317_L8 N f1) (Int32.ofNat n) (bI (aK 0 (xs.take i))) (bI (aK 1 (xs.take i))) (Int32.ofNat (n + i)) s = mf_317_L8 N f1 0 (Int32.ofNat n) (bI (aK 0 (xs.take (i + 1)))) (bI (aK 1 (xs.take (i + 1)))) (Int32.ofNat (n + (i + 1))) s
    rw [aK_s hi, aK_s hi]
    have hkz := rvl.kz hx
    generalize kn xs[i] = kk at *
    generalize aK 0 (xs.take i) = A
    generalize aK 1 (xs.take i) = B
    have e0 : (kk == 0) = decide (kk = 0) := rfl
    have e1 : (kk == 1) = decide (kk = 1) := rfl
    rw [e0, e1]
    rcases hkz with ⟨k1, k2⟩ | ⟨k1, k2, -⟩
    · rw [decide_eq_true k2, decide_eq_false (show ¬ kk = 1 by omega)]
      cases A <;> cases B <;> simp only [bI, Bool.true_and, Bool.false_and, Bool.and_false, Bool.and_true, if_true, reduceCtorEq, if_false] <;> (repeat ((first | unfold mf_317 | unfold mf_317_0 | unfold mf_317_22 | unfold mf_317_26 | unfold mf_317_33 | unfold mf_317_34 | unfold mf_317_43 | unfold mf_317_53 | unfold mf_317_54 | unfold mf_317_70 | unfold mf_317_97 | unfold mf_317_101 | unfold mf_317_102 | unfold mf_317_106 | unfold mf_317_107 | unfold mf_317_127 | unfold mf_317_128 | unfold mf_317_150 | unfold mf_317_156 | unfold mf_317_157 | unfold mf_317_165 | unfold mf_317_180 | unfold mf_317_184 | unfold mf_317_185 | unfold mf_317_195 | unfold mf_317_210 | unfold mf_317_214 | unfold mf_317_215 | unfold mf_317_220 | unfold mf_317_229 | unfold mf_317_234 | unfold mf_317_244 | unfold mf_317_248 | unfold mf_317_249 | unfold mf_317_256 | unfold mf_317_262 | unfold mf_317_266 | unfold mf_317_270 | unfold mf_317_271 | unfold mf_317_279 | unfold mf_317_284 | unfold mf_317_290 | unfold mf_317_293 | unfold mf_317_298 | unfold mf_317_304 | unfold mf_317_307 | unfold mf_317_316); try simp (disch := omega) only [ev_S, ev_P, ↓reduceIte, Nat.reduceEqDiff, Nat.reduceLeDiff, Nat.reduceAdd, Nat.reduceMul, Nat.reduceSub, reduceCtorEq, l32_0, l32_1, l32_2, l32_3, l32_4, l32_8, l32_10, l32_25, l32_47, l32_49, l32_51, l32_400, l32_8000, l32_9000, l32_166300, h51, n1, k1, hka, k2])) <;> (try rfl)
    · rw [decide_eq_false k2]
      by_cases k3 : kk = 1
      · rw [decide_eq_true k3]
        cases A <;> cases B <;> simp only [bI, Bool.true_and, Bool.false_and, Bool.and_false, Bool.and_true, if_true, reduceCtorEq, if_false] <;> (repeat ((first | unfold mf_317 | unfold mf_317_0 | unfold mf_317_22 | unfold mf_317_26 | unfold mf_317_33 | unfold mf_317_34 | unfold mf_317_43 | unfold mf_317_53 | unfold mf_317_54 | unfold mf_317_70 | unfold mf_317_97 | unfold mf_317_101 | unfold mf_317_102 | unfold mf_317_106 | unfold mf_317_107 | unfold mf_317_127 | unfold mf_317_128 | unfold mf_317_150 | unfold mf_317_156 | unfold mf_317_157 | unfold mf_317_165 | unfold mf_317_180 | unfold mf_317_184 | unfold mf_317_185 | unfold mf_317_195 | unfold mf_317_210 | unfold mf_317_214 | unfold mf_317_215 | unfold mf_317_220 | unfold mf_317_229 | unfold mf_317_234 | unfold mf_317_244 | unfold mf_317_248 | unfold mf_317_249 | unfold mf_317_256 | unfold mf_317_262 | unfold mf_317_266 | unfold mf_317_270 | unfold mf_317_271 | unfold mf_317_279 | unfold mf_317_284 | unfold mf_317_290 | unfold mf_317_293 | unfold mf_317_298 | unfold mf_317_304 | unfold mf_317_307 | unfold mf_317_316); try simp (disch := omega) only [ev_S, ev_P, ↓reduceIte, Nat.reduceEqDiff, Nat.reduceLeDiff, Nat.reduceAdd, Nat.reduceMul, Nat.reduceSub, reduceCtorEq, l32_0, l32_1, l32_2, l32_3, l32_4, l32_8, l32_10, l32_25, l32_47, l32_49, l32_51, l32_400, l32_8000, l32_9000, l32_166300, h51, n1, k1, hka, k3])) <;> (try rfl)
      · rw [decide_eq_false k3]
        cases A <;> cases B <;> simp only [bI, Bool.true_and, Bool.false_and, Bool.and_false, Bool.and_true, if_true, reduceCtorEq, if_false] <;> (repeat ((first | unfold mf_317 | unfold mf_317_0 | unfold mf_317_22 | unfold mf_317_26 | unfold mf_317_33 | unfold mf_317_34 | unfold mf_317_43 | unfold mf_317_53 | unfold mf_317_54 | unfold mf_317_70 | unfold mf_317_97 | unfold mf_317_101 | unfold mf_317_102 | unfold mf_317_106 | unfold mf_317_107 | unfold mf_317_127 | unfold mf_317_128 | unfold mf_317_150 | unfold mf_317_156 | unfold mf_317_157 | unfold mf_317_165 | unfold mf_317_180 | unfold mf_317_184 | unfold mf_317_185 | unfold mf_317_195 | unfold mf_317_210 | unfold mf_317_214 | unfold mf_317_215 | unfold mf_317_220 | unfold mf_317_229 | unfold mf_317_234 | unfold mf_317_244 | unfold mf_317_248 | unfold mf_317_249 | unfold mf_317_256 | unfold mf_317_262 | unfold mf_317_266 | unfold mf_317_270 | unfold mf_317_271 | unfold mf_317_279 | unfold mf_317_284 | unfold mf_317_290 | unfold mf_317_293 | unfold mf_317_298 | unfold mf_317_304 | unfold mf_317_307 | unfold mf_317_316); try simp (disch := omega) only [ev_S, ev_P, ↓reduceIte, Nat.reduceEqDiff, Nat.reduceLeDiff, Nat.reduceAdd, Nat.reduceMul, Nat.reduceSub, reduceCtorEq, l32_0, l32_1, l32_2, l32_3, l32_4, l32_8, l32_10, l32_25, l32_47, l32_49, l32_51, l32_400, l32_8000, l32_9000, l32_166300, h51, n1, k1, hka, k3])) <;> (try rfl)) (by
    intro f1 a hP
    obtain ⟨a1, a2⟩ := a
    obtain ⟨e1, e2⟩ := hP
    rw [List.take_length] at e1 e2
    have e1 : a1 = _ := e1
    have e2 : a2 = _ := e2
    subst e1
    subst e2
    show mf_317_220 N (mf_317_L8 N f1) (Int32.ofNat n) _ _ (Int32.ofNat (n + xs.length)) s = _
    unfold mf_317_220
    simp (disch := omega) only [ev_S, ev_P, ↓reduceIte, Nat.reduceEqDiff, Nat.reduceLeDiff, Nat.reduceAdd, Nat.reduceMul, Nat.reduceSub, reduceCtorEq, l32_0, l32_1, l32_2, l32_3, l32_4, l32_5, l32_6, l32_7, l32_8, l32_9, l32_10, l32_11, l32_12, l32_13, l32_14, l32_15, l32_16, l32_17, l32_18, l32_19, l32_20, l32_21, l32_22, l32_23, l32_24, l32_25, l32_26, l32_27, l32_28, l32_29, l32_33, l32_40, l32_41, l32_44, l32_45, l32_59, l32_61, l32_91, l32_93, l32_123, l32_125, h51]) xs.length 0 N (1, 1) (Nat.zero_add _) (by omega) ⟨rfl, rfl⟩
  exact L
end EAR
end
-- ### 98zze.pure.lean.txt
section
/-! ===== PURE: run (134): what each gives, the reference (2) ===== -/
section EAT
variable {N nw a : Nat} {x y : Nod} {xs : List Nod} {s s' : mS} {n f m : Nat}
theorem r_eachE (hN : 170000 ≤ N) (H : rA s n f m xs) (hl : xs.length ≤ 3000) (hnw : nw < 400) (h84 : s.2.2.1 84 nw = Int32.ofNat n) (h81 : s.2.2.1 81 nw = Int32.ofNat a) (La : LayN (s.2.2.1 47) (Rf f) a y) (hfa : f ≤ 166300) (h0 : ¬ kn y = 0) : ∃ s', mf_317_128 N (Int32.ofNat nw) s = some (s', none) ∧ rE s s' n f m (ansE y xs) := by
  have H' := H
  obtain ⟨⟨h51, hv⟩, H2, H3, H4, H5, H6, H7, H8, H9, H10⟩ := H'
  have kd : s.2.2.1 47 a = Int32.ofNat (kn y) := by rw [(LayN_iff.mp La).2.kd.1]; exact kd_kn
  have ha : a < 166300 := by
    have := LayN.lt La
    omega
  have hk := kn_le (x := y)
  clear hv La
  by_cases c3 : kn y = 3
  · obtain ⟨s1, b1, b2⟩ := rA.builds (N := N) (k := 3) hN H H.g (Or.inr (Or.inr rfl)) H9 H10 (by omega) (by omega) hl H7
    refine ⟨s1, ?_, by unfold ansE; rw [if_pos c3]; exact b2⟩
    rw [c3] at kd
    unfold mf_317_128 mf_317_150 mf_317_156
    simp (disch := omega) only [ev_S, ev_P, ↓reduceIte, Nat.reduceEqDiff, Nat.reduceLeDiff, Nat.reduceAdd, Nat.reduceMul, Nat.reduceSub, reduceCtorEq, l32_0, l32_1, l32_2, l32_3, l32_4, l32_5, l32_6, l32_7, l32_8, l32_9, l32_10, l32_11, l32_12, l32_13, l32_14, l32_15, l32_16, l32_17, l32_18, l32_19, l32_20, l32_21, l32_22, l32_23, l32_24, l32_25, l32_26, l32_27, l32_28, l32_29, l32_33, l32_40, l32_41, l32_44, l32_45, l32_59, l32_61, l32_91, l32_93, l32_123, l32_125, h84, h81, kd, b1]
  · cases xs with
    | nil =>
      have h51 : s.1 51 = Int32.ofNat n := h51
      obtain ⟨N', hN'⟩ : ∃ N', N = N' + 1 := ⟨N - 1, by omega⟩
      have hok : mkOk (kn y) [] := by
        rcases (show kn y = 1 ∨ kn y = 2 by omega) with e | e
        · rw [e]; exact Or.inl ⟨rfl, fun x hx => by cases hx⟩
        · rw [e]; exact Or.inr (Or.inl ⟨rfl, fun x hx => by cases hx⟩)
      obtain ⟨s1, b1, b2⟩ := rA.builds (N := N) (k := kn y) hN H H.g hok H9 H10 (by omega) (by omega) hl H7
      refine ⟨s1, ?_, by unfold ansE; rw [if_neg c3, if_pos rfl]; exact b2⟩
      have n0 : ¬ n < n := by omega
      have e5 : ∀ q r : Int32, mf_317_L8 N N 0 (Int32.ofNat n) q r (Int32.ofNat n) s = mf_317_279 N (Int32.ofNat n) q r s := fun q r => by
        have : mf_317_L8 N N 0 (Int32.ofNat n) q r (Int32.ofNat n) s = mf_317_220 N (mf_317_L8 N N') (Int32.ofNat n) q r (Int32.ofNat n) s := by
          subst hN'
          rfl
        rw [this]
        unfold mf_317_220
        simp (disch := omega) only [ev_S, ev_P, ↓reduceIte, Nat.reduceEqDiff, Nat.reduceLeDiff, Nat.reduceAdd, Nat.reduceMul, Nat.reduceSub, reduceCtorEq, l32_0, l32_1, l32_2, l32_3, l32_4, l32_5, l32_6, l32_7, l32_8, l32_9, l32_10, l32_11, l32_12, l32_13, l32_14, l32_15, l32_16, l32_17, l32_18, l32_19, l32_20, l32_21, l32_22, l32_23, l32_24, l32_25, l32_26, l32_27, l32_28, l32_29, l32_33, l32_40, l32_41, l32_44, l32_45, l32_59, l32_61, l32_91, l32_93, l32_123, l32_125, h51]
      clear b2 H hok
      rcases (show kn y = 1 ∨ kn y = 2 by omega) with e | e
      · rw [e] at b1 kd
        unfold mf_317_128 mf_317_157 mf_317_165 mf_317_180 mf_317_185 mf_317_195 mf_317_214 mf_317_215
        simp (disch := omega) only [ev_S, ev_P, ↓reduceIte, Nat.reduceEqDiff, Nat.reduceLeDiff, Nat.reduceAdd, Nat.reduceMul, Nat.reduceSub, reduceCtorEq, l32_0, l32_1, l32_2, l32_3, l32_4, l32_5, l32_6, l32_7, l32_8, l32_9, l32_10, l32_11, l32_12, l32_13, l32_14, l32_15, l32_16, l32_17, l32_18, l32_19, l32_20, l32_21, l32_22, l32_23, l32_24, l32_25, l32_26, l32_27, l32_28, l32_29, l32_33, l32_40, l32_41, l32_44, l32_45, l32_59, l32_61, l32_91, l32_93, l32_123, l32_125, h84, h81, kd, h51, n0, e5]
        unfold mf_317_279 mf_317_284 mf_317_290 mf_317_316
        simp (disch := omega) only [ev_S, ev_P, ↓reduceIte, Nat.reduceEqDiff, Nat.reduceLeDiff, Nat.reduceAdd, Nat.reduceMul, Nat.reduceSub, reduceCtorEq, l32_0, l32_1, l32_2, l32_3, l32_4, l32_5, l32_6, l32_7, l32_8, l32_9, l32_10, l32_11, l32_12, l32_13, l32_14, l32_15, l32_16, l32_17, l32_18, l32_19, l32_20, l32_21, l32_22, l32_23, l32_24, l32_25, l32_26, l32_27, l32_28, l32_29, l32_33, l32_40, l32_41, l32_44, l32_45, l32_59, l32_61, l32_91, l32_93, l32_123, l32_125, b1]
      · rw [e] at b1 kd
        unfold mf_317_128 mf_317_157 mf_317_165 mf_317_184 mf_317_185 mf_317_195 mf_317_210 mf_317_215
        simp (disch := omega) only [ev_S, ev_P, ↓reduceIte, Nat.reduceEqDiff, Nat.reduceLeDiff, Nat.reduceAdd, Nat.reduceMul, Nat.reduceSub, reduceCtorEq, l32_0, l32_1, l32_2, l32_3, l32_4, l32_5, l32_6, l32_7, l32_8, l32_9, l32_10, l32_11, l32_12, l32_13, l32_14, l32_15, l32_16, l32_17, l32_18, l32_19, l32_20, l32_21, l32_22, l32_23, l32_24, l32_25, l32_26, l32_27, l32_28, l32_29, l32_33, l32_40, l32_41, l32_44, l32_45, l32_59, l32_61, l32_91, l32_93, l32_123, l32_125, h84, h81, kd, h51, n0, e5]
        unfold mf_317_279 mf_317_293 mf_317_298 mf_317_304 mf_317_316
        simp (disch := omega) only [ev_S, ev_P, ↓reduceIte, Nat.reduceEqDiff, Nat.reduceLeDiff, Nat.reduceAdd, Nat.reduceMul, Nat.reduceSub, reduceCtorEq, l32_0, l32_1, l32_2, l32_3, l32_4, l32_5, l32_6, l32_7, l32_8, l32_9, l32_10, l32_11, l32_12, l32_13, l32_14, l32_15, l32_16, l32_17, l32_18, l32_19, l32_20, l32_21, l32_22, l32_23, l32_24, l32_25, l32_26, l32_27, l32_28, l32_29, l32_33, l32_40, l32_41, l32_44, l32_45, l32_59, l32_61, l32_91, l32_93, l32_123, l32_125, b1]
    | cons x xs =>
      have h51 : s.1 51 = Int32.ofNat (n + (xs.length + 1)) := h51
      have L := r_eachS (N := N) hN H hl
      have hlc : xs.length + 1 ≤ 3000 := hl
      have n0 : n < n + (xs.length + 1) := by omega
      have H7' : n + (xs.length + 1) < 9000 := H7
      have E : mf_317_128 N (Int32.ofNat nw) s = mf_317_279 N (Int32.ofNat n) (bI (aK 0 (x :: xs))) (bI (aK 1 (x :: xs))) s := by
        rw [← L]
        clear L H
        generalize kn y = ky at *
        unfold mf_317_128 mf_317_157 mf_317_180 mf_317_185 mf_317_210 mf_317_215
        simp (disch := omega) only [ev_S, ev_P, ↓reduceIte, Nat.reduceEqDiff, Nat.reduceLeDiff, Nat.reduceAdd, Nat.reduceMul, Nat.reduceSub, reduceCtorEq, l32_0, l32_1, l32_2, l32_3, l32_4, l32_5, l32_6, l32_7, l32_8, l32_9, l32_10, l32_11, l32_12, l32_13, l32_14, l32_15, l32_16, l32_17, l32_18, l32_19, l32_20, l32_21, l32_22, l32_23, l32_24, l32_25, l32_26, l32_27, l32_28, l32_29, l32_33, l32_40, l32_41, l32_44, l32_45, l32_59, l32_61, l32_91, l32_93, l32_123, l32_125, h84, h81, kd, c3, h51, n0]
      rw [E]
      have eA : ansE y (x :: xs) = ansL (x :: xs) := by
        unfold ansE
        rw [if_neg c3, if_neg (by intro q; cases q)]
      rw [eA]
      unfold ansL bI
      by_cases A : aK 0 (x :: xs) = true
      · rw [if_pos A, if_pos A]
        obtain ⟨s1, b1, b2⟩ := rA.builds (N := N) (k := 1) hN H H.g (Or.inl ⟨rfl, fun x hx => (kd_iff (k := 0) (by omega)).mpr (aK_i.mp A x hx)⟩) H9 H10 (by omega) (by omega) hl H7
        refine ⟨s1, ?_, b2⟩
        unfold mf_317_279 mf_317_284 mf_317_290 mf_317_316
        simp (disch := omega) only [ev_S, ev_P, ↓reduceIte, Nat.reduceEqDiff, Nat.reduceLeDiff, Nat.reduceAdd, Nat.reduceMul, Nat.reduceSub, reduceCtorEq, l32_0, l32_1, l32_2, l32_3, l32_4, l32_5, l32_6, l32_7, l32_8, l32_9, l32_10, l32_11, l32_12, l32_13, l32_14, l32_15, l32_16, l32_17, l32_18, l32_19, l32_20, l32_21, l32_22, l32_23, l32_24, l32_25, l32_26, l32_27, l32_28, l32_29, l32_33, l32_40, l32_41, l32_44, l32_45, l32_59, l32_61, l32_91, l32_93, l32_123, l32_125, b1]
      · rw [if_neg A, if_neg A]
        by_cases B : aK 1 (x :: xs) = true
        · rw [if_pos B, if_pos B]
          obtain ⟨s1, b1, b2⟩ := rA.builds (N := N) (k := 2) hN H H.g (Or.inr (Or.inl ⟨rfl, fun x hx => (kd_iff (k := 1) (by omega)).mpr (aK_i.mp B x hx)⟩)) H9 H10 (by omega) (by omega) hl H7
          refine ⟨s1, ?_, b2⟩
          unfold mf_317_279 mf_317_293 mf_317_298 mf_317_304 mf_317_316
          simp (disch := omega) only [ev_S, ev_P, ↓reduceIte, Nat.reduceEqDiff, Nat.reduceLeDiff, Nat.reduceAdd, Nat.reduceMul, Nat.reduceSub, reduceCtorEq, l32_0, l32_1, l32_2, l32_3, l32_4, l32_5, l32_6, l32_7, l32_8, l32_9, l32_10, l32_11, l32_12, l32_13, l32_14, l32_15, l32_16, l32_17, l32_18, l32_19, l32_20, l32_21, l32_22, l32_23, l32_24, l32_25, l32_26, l32_27, l32_28, l32_29, l32_33, l32_40, l32_41, l32_44, l32_45, l32_59, l32_61, l32_91, l32_93, l32_123, l32_125, b1]
        · rw [if_neg B, if_neg B]
          obtain ⟨b1, b2⟩ := rG.trb (N := N) H H.g (by omega) 3
          refine ⟨_, ?_, b2⟩
          unfold mf_317_279 mf_317_293 mf_317_307 mf_317_316
          simp (disch := omega) only [ev_S, ev_P, ↓reduceIte, Nat.reduceEqDiff, Nat.reduceLeDiff, Nat.reduceAdd, Nat.reduceMul, Nat.reduceSub, reduceCtorEq, l32_0, l32_1, l32_2, l32_3, l32_4, l32_5, l32_6, l32_7, l32_8, l32_9, l32_10, l32_11, l32_12, l32_13, l32_14, l32_15, l32_16, l32_17, l32_18, l32_19, l32_20, l32_21, l32_22, l32_23, l32_24, l32_25, l32_26, l32_27, l32_28, l32_29, l32_33, l32_40, l32_41, l32_44, l32_45, l32_59, l32_61, l32_91, l32_93, l32_123, l32_125, b1]
end EAT
end
-- ### 98zzf.pure.lean.txt
section
/-! ===== PURE: run (135): each ends ===== -/
section EEN
variable {N : Nat} {X : Nat → Option zz_C} {t0 t t' t1 t2 : cS} {s0 s s1 s2 : mS} {u w f p h fu m m' d d' n k b j : Nat} {code : List Ins} {Fs : List Fn} {T T1 : Ty} {out : List Int32} {G F : List Fm} {sh S0 : Nat → Option Nod} {vs : List (Option Nod)} {I J I' Iq : List It} {q z pl fz : Int32} {x y c : Nod} {g : Fn} {L : List Nat} {rs : List Nod} {r : Ans} {v : Int64}
theorem hfw.pcI (g : hfw t t') : hfw (jI t 49 17 z) (jI t' 49 17 z) := by
  obtain ⟨h1, h2, h3, h4, h5, h6, h7, h8, h9, h10⟩ := g
  refine ⟨fun k f r1 r2 => ?_, h2, h3, h4, h5, h6, h7, h8, h9, h10⟩
  show (if k = 49 ∧ f = 17 then z else kI t' k f) = (if k = 49 ∧ f = 17 then z else kI t k f)
  rw [h1 k f r1 r2]
theorem cF.pcI (g : cF t t' u v r) : cF (jI t 49 17 z) (jI t' 49 17 z) u v r := by
  obtain ⟨u', w', g1, g2, g3, g4, g5⟩ := g
  exact ⟨u', w', g1.I (by decide), hfw.pcI g2, g3, g4, g5⟩
/-- values as items -/
abbrev vIt (l : List Nod) : List It := l.map fun x => ((0, [x], 0) : It)
theorem vIt_c : ∀ {l : List Nod}, cIt (vIt l) = l.map some
  | [] => rfl
  | x :: l => by
    show some x :: cIt (vIt l) = some x :: l.map some
    rw [vIt_c]
theorem vIt_0 {l : List Nod} : ∀ y ∈ vIt l, y.1 = 0 := by
  intro y hy
  obtain ⟨x, -, e⟩ := List.mem_map.mp hy
  rw [← e]
theorem CX.eachE (hN : 170000 ≤ N) (C : CX t0 t p code Fs fu S0 u 0 ((m, d, vs, (6, rs ++ [y], k) :: I) :: G) sh T out) (hl : (cStk ((m, d, vs, (6, rs ++ [y], k) :: I) :: G)).length ≤ 17500) (hrs : rs.length = k / 2) (h0 : ¬ kn y = 0) (hi : szN y = k / 2) (hb : szN y ≤ 64) (hw : ∀ x ∈ rs, wfN x ∧ x.1 ≤ 4) (hu : u ≤ 162000) : ∃ t1 t2 v, CX t0 t1 p code Fs fu S0 u 0 ((m, d, vs, vIt (rs ++ [y]) ++ I) :: G) sh T out ∧ kI t1 49 17 = kI t 49 17 + 1 ∧ cF t1 t2 u v (ansE y rs.reverse) ∧ ∀ t3, cf_144 N X v (Int32.ofNat (k / 2 + 1)) pl t2 = some (t3, .inl none) → cf_161 N X fz pl t = some (t3, .inl none) := by
  have e6 := cStk_6 (m := m) (d := d) (m' := m) (d' := d) (vs := vs) (l := rs ++ [y]) (k := k) (I := I) (G := G)
  obtain ⟨va, a1, a2⟩ := C.top1 (N := N) (X := X) e6
  have hlen : k / 2 + 2 ≤ (cStk ((m, d, vs, (6, rs ++ [y], k) :: I) :: G)).length := by
    rw [e6, List.length_cons, List.length_append, List.length_map, List.length_append, List.length_singleton]
    omega
  obtain ⟨vb, b1, b2⟩ := C.peek (N := N) (X := X) (k := k / 2 + 2) (by omega) hlen
  have eg : (cStk ((m, d, vs, (6, rs ++ [y], k) :: I) :: G))[k / 2 + 2 - 1]'(by omega) = some y := by
    have h1 : (cStk ((m, d, vs, (6, rs ++ [y], k) :: I) :: G))[k / 2 + 2 - 1]? = some (some y) := by
      rw [e6, show k / 2 + 2 - 1 = k / 2 + 1 by omega, List.getElem?_cons_succ, List.getElem?_append_left (by rw [List.length_map, List.length_append, List.length_singleton]; omega), List.getElem?_map, List.getElem?_append_right (by omega), show k / 2 - rs.length = 0 by omega]
      rfl
    rw [List.getElem?_eq_getElem (by omega)] at h1
    exact Option.some.inj h1
  rw [eg] at b2
  have a2 : cN (cel t) u va (nZ (Int32.ofNat (k / 2))) := a2
  have b2 : cN (cel t) u vb y := b2
  have ea := a2.z rfl
  have lo := c_lowOf (N := N) (X := X) (t := t) (k := 0) (a := ivN (nZ (Int32.ofNat (k / 2))))
  rw [← ea] at lo
  have lo : cf_256 N X va t = some (t, .inl (some (.int (Int32.ofNat (k / 2))))) := lo
  have sz := c_sizeN (N := N) (X := X) C.2.2.1 b2
  have eA := cStk_app (m := m) (d := d) (m' := m) (d' := d) (vs := vs) (J := vIt (rs ++ [y])) (I := I) (G := G)
  rw [vIt_c] at eA
  have CV : CX t0 t p code Fs fu S0 u 0 ((m, d, vs, (0, [nZ (Int32.ofNat (k / 2))], 0) :: (vIt (rs ++ [y]) ++ I)) :: G) sh T out := by
    refine C.re ?_ ?_
    · rw [cStk_0 (m' := m) (d' := d), eA, e6]
    · rw [tStk_0 (m' := m) (d' := d), tStk_678 (m' := m) (d' := d) (Or.inl rfl)]
      show tIt _ _ (vIt (rs ++ [y]) ++ I) ++ _ = _
      rw [tIt_app (fun y hy => by rw [vIt_0 y hy]; decide)]
      rfl
  have hl2 : (cStk ((m, d, vs, (0, [nZ (Int32.ofNat (k / 2))], 0) :: (vIt (rs ++ [y]) ++ I)) :: G)).length ≤ 17500 := by
    rw [cStk_0 (m' := m) (d' := d), eA, ← e6]
    exact hl
  obtain ⟨tp, v2, p1, -, p3, p4, p5⟩ := CV.pop (N := N) (X := X) (m' := m) (d' := d) (o := some (nZ (Int32.ofNat (k / 2)))) (by omega) (by show ¬ (0 : Nat) = 3; decide) rfl
  have hl3 : (cStk ((m, d, vs, vIt (rs ++ [y]) ++ I) :: G)).length ≤ 17500 := by
    rw [cStk_0 (m' := m) (d' := d), List.length_cons] at hl2
    omega
  obtain ⟨tg, g1, g2⟩ := p3.gather (N := N) (X := X) (xs := rs.reverse) (l := some y :: cStk ((m, d, vs, I) :: G)) hN (by omega) (by rw [eA, List.reverse_reverse, List.map_append, List.append_assoc]; rfl)
  rw [List.length_reverse, hrs] at g1
  have hcl := g2.2.2.2.1
  have b3 : cN (cel tg) u vb y := cN.mono (fun y hy => by rw [hcl y hy, p5]) (Nat.le_refl _) b2
  have kn1 := c_kn (N := N) (X := X) b3
  have hrl : rs.reverse.length ≤ 64 := by rw [List.length_reverse]; omega
  obtain ⟨B3, Bn⟩ := c_eachB (N := N) (X := X) (y := y) hN g2 (fun x hx => (hw x (List.mem_reverse.mp hx)).1) (fun x hx => (hw x (List.mem_reverse.mp hx)).2) (by omega) hu h0
  have key : ∃ t'' v, cE tp t'' u v (ansE y rs.reverse) ∧ ∀ t3, cf_144 N X v (Int32.ofNat (k / 2 + 1)) pl (jI t'' 49 17 (kI t'' 49 17 + Int32.ofNat 1)) = some (t3, .inl none) → cf_161 N X fz pl t = some (t3, .inl none) := by
    by_cases c3 : kn y = 3
    · obtain ⟨t'', v, k1, k2⟩ := B3 c3
      refine ⟨t'', v, k2, fun t3 h3 => ?_⟩
      rw [c3] at kn1
      rw [hi] at sz hb
      clear C CV p3 e6 a2 b2 ea B3 Bn g2 k2 eg hlen hl hl2 hl3 b3 eA
      generalize k / 2 = kh at *
      unfold cf_161 cf_161_0 cf_161_5 cf_161_8 cf_161_16 cf_161_28 cf_161_61 cf_161_65 cf_161_71 cf_161_76 cf_161_80 cf_161_89 cf_161_105 cf_161_127
      simp (disch := omega) only [ev_S, ev_C, ↓reduceIte, Nat.reduceEqDiff, Nat.reduceLeDiff, Nat.reduceAdd, Nat.reduceMul, Nat.reduceSub, reduceCtorEq, l32_0, l32_1, l32_2, l32_3, l32_4, l32_5, l32_6, l32_7, l32_8, l32_9, l32_10, l32_11, l32_12, l32_13, l32_14, l32_15, l32_16, l32_17, l32_18, l32_19, l32_20, l32_21, l32_22, l32_23, l32_24, l32_25, l32_26, l32_27, l32_28, l32_29, l32_33, l32_40, l32_41, l32_44, l32_45, l32_59, l32_61, l32_91, l32_93, l32_123, l32_125, a1, lo, b1, sz, p1, g1, kn1, k1, h3]
    · obtain ⟨t'', v, k1, k2⟩ := Bn c3
      refine ⟨t'', v, k2, fun t3 h3 => ?_⟩
      have hk := kn_le (x := y)
      rw [hi] at sz hb
      clear C CV p3 e6 a2 b2 ea B3 Bn g2 k2 eg hlen hl hl2 hl3 b3 eA
      generalize k / 2 = kh at *
      generalize kn y = ky at *
      unfold cf_161 cf_161_0 cf_161_5 cf_161_8 cf_161_16 cf_161_28 cf_161_61 cf_161_65 cf_161_71 cf_161_76 cf_161_92 cf_161_101 cf_161_105 cf_161_127
      simp (disch := omega) only [ev_S, ev_C, ↓reduceIte, Nat.reduceEqDiff, Nat.reduceLeDiff, Nat.reduceAdd, Nat.reduceMul, Nat.reduceSub, reduceCtorEq, l32_0, l32_1, l32_2, l32_3, l32_4, l32_5, l32_6, l32_7, l32_8, l32_9, l32_10, l32_11, l32_12, l32_13, l32_14, l32_15, l32_16, l32_17, l32_18, l32_19, l32_20, l32_21, l32_22, l32_23, l32_24, l32_25, l32_26, l32_27, l32_28, l32_29, l32_33, l32_40, l32_41, l32_44, l32_45, l32_59, l32_61, l32_91, l32_93, l32_123, l32_125, a1, lo, b1, sz, p1, g1, kn1, c3, k1, h3]
  obtain ⟨t'', v, k1, k2⟩ := key
  have e17 : kI t'' 49 17 = kI t 49 17 := by
    obtain ⟨u', w', -, q2, -⟩ := k1
    rw [q2.1 49 17 (by omega) (by omega), p4]
  rw [e17] at k2
  exact ⟨jI tp 49 17 (kI t 49 17 + 1), jI t'' 49 17 (kI t 49 17 + 1), v, p3.pc (Or.inl rfl), rfl, cF.pcI k1.F, k2⟩
end EEN
end
-- ### 98zzg.pure.lean.txt
section
/-! ===== PURE: run (136): each ends, both; the next of a walk ===== -/
section EEB
variable {N : Nat} {X : Nat → Option zz_C} {t0 t t' t1 t2 : cS} {s0 s s1 s2 : mS} {u w f p h fu m m' d d' n k b j : Nat} {code : List Ins} {Fs : List Fn} {T T1 : Ty} {out : List Int32} {G F : List Fm} {sh S0 : Nat → Option Nod} {vs : List (Option Nod)} {I J I' Iq : List It} {q z pl fz : Int32} {x y c : Nod} {g : Fn} {L : List Nat} {rs xs : List Nod} {r : Ans} {v : Int64}
theorem RM0.eachP (M : RM0 s f h code ((m, d, vs, (6, rs ++ [y], k) :: I) :: G) sh) : RM0 (mI s 79 (Int32.ofNat (wStk ((m', d', vs, I) :: G)).length)) f h code ((m', d', vs, I) :: G) sh := by
  obtain ⟨e1, e2, e3, e4, e5, e6, e7, e8⟩ := M
  have eR := rStk_cons (m := m) (d := d) (m' := m') (d' := d') (vs := vs) (it := (6, rs ++ [y], k)) (I := I) (F := G)
  have eW := wStk_w (m := m) (d := d) (m' := m') (d' := d') (vs := vs) (I := I) (G := G) (it := (6, rs ++ [y], k)) (Or.inr (Or.inr (Or.inl rfl)))
  rw [eR] at e1
  rw [eW] at e3
  have e9 : rFr s f h code ((m', d', vs, I) :: G) := rFr.hd (a := (m, d, vs, (6, rs ++ [y], k) :: I)) rfl e2
  exact ⟨e1.app, rFr.up (s := s) (s' := mI s 79 (Int32.ofNat (wStk ((m', d', vs, I) :: G)).length)) (fun _ _ _ => rfl) (Nat.le_refl _) (fun _ _ => rfl) e9, e3.2, e4, e5, e6, rfl, e8⟩
theorem okAn_E : okAn (ansE y xs) := by
  unfold ansE
  exact okAn_i okAn_M (okAn_i okAn_M okAn_L)
theorem ct_L (e : ansL xs = .inr x) : xs.length ≤ ctV (vw x) := by
  unfold ansL at e
  split at e
  · rename_i c
    exact ct_M (k := 1) (Or.inl ⟨rfl, fun x hx => by rw [kd_kn, aK_i.mp c x hx]; rfl⟩) e
  · split at e
    · rename_i c
      exact ct_M (k := 2) (Or.inr (Or.inl ⟨rfl, fun x hx => by rw [kd_kn, aK_i.mp c x hx]; rfl⟩)) e
    · cases e
theorem ct_E (e : ansE y xs = .inr x) : xs.length ≤ ctV (vw x) := by
  unfold ansE at e
  split at e
  · exact ct_M (k := 3) (Or.inr (Or.inr rfl)) e
  · split at e
    · rename_i c
      rw [c]
      exact Nat.zero_le _
    · exact ct_L e
theorem n_eachE (hN : 170000 ≤ N) (C : CS t0 t p code Fs fu S0 ((m, 1, vs, (6, rs ++ [y], k) :: Iq) :: G) sh T out) (R : RSm s0 s h code Fs fu ((m, 1, vs, (6, rs ++ [y], k) :: Iq) :: G) sh T out) (K : CK code Fs fu ((m, 1, vs, (6, rs ++ [y], k) :: Iq) :: G) sh T out n) (ho : (inA code m).1 = 10) (hr : (inA code m).2.2.1 = 1) (hL : lyo (code.take m) = some L) (hk1 : pop0 1 L = some (kd Iq)) (hk2 : k % 2 = 0) (hpl : plI Iq) (hi : ¬ k / 2 < szN y) : GO N X t0 s0 p h code Fs fu S0 t s n := by
  obtain ⟨u, w, f, g, C1, C2, C4, R1, R2, R4, P, hm, hcx, hrl, hG, ⟨b1, b2, b6⟩, hT, hol⟩ := open0 C R K
  obtain ⟨ec, er⟩ := cI_10 (code := code) (own := posC code m) (e := h) ho
  have hbd := K.bd
  have h30 := hT.2.2.1
  obtain ⟨rs', y', w1, w2, w3, w4⟩ := P.2.2.2.1.1.2.2.2.2.1 rfl
  have w1 : rs ++ [y] = rs' ++ [y'] := w1
  obtain ⟨ea, eb⟩ := List.append_inj' w1 rfl
  have eb : y = y' := by simpa using eb
  subst ea eb
  have w2 : rs.length = k / 2 := w2
  have w4 : (k + 1) / 2 ≤ szN y := w4
  have hgK := K.2.2.2.1
  have gd : ∀ x ∈ rs ++ [y], wfN x ∧ x.1 ≤ 4 := by
    intro x hx
    refine hgK x ?_
    rw [cStk_6 (m' := m) (d' := 0)]
    exact List.mem_cons_of_mem _ (List.mem_append_left _ (List.mem_map.mpr ⟨x, hx, rfl⟩))
  have wy := gd y (List.mem_append_right _ List.mem_cons_self)
  have grs : ∀ x ∈ rs, wfN x ∧ x.1 ≤ 4 := fun x hx => gd x (List.mem_append_left _ hx)
  have s64 := wf64 wy.1
  rw [if_pos hr, if_pos hr] at ec
  obtain ⟨L2', x1, x2⟩ := nxF K.1.1 hm hL
  have x3 : L2' = 0 :: kd Iq := by
    generalize inA code m = cc at *
    obtain ⟨o', jj, r0, aa, pp, xx, yy⟩ := cc
    have z : o' = 10 := ho
    have z2 : r0 = 1 := hr
    subst z z2
    have x1 : (if 1 ≤ 2 then (pop0 1 L).map (0 :: ·) else none) = some L2' := x1
    rw [if_pos (by omega), hk1] at x1
    exact (Option.some.inj x1).symm
  rw [x3] at x2
  generalize (inA code m).2.2.2.2.1 = pl at *
  obtain ⟨D1, D2⟩ := C1.fet (N := N) (X := X) (n := n) (l1 := [((25 : Int32), (0 : Int32), pl)]) (dd := 1) rfl C4 hm ec hcx (by omega)
  obtain ⟨s1, kx, y1, y2, y3, y4, y5, y6, ⟨y7, y8, y9, y10⟩, y11, y12⟩ := R1.fet (N := N) (l1 := [((10 : Int32), Int32.ofNat (27 + (inA code m).2.2.1), (0 : Int32), (0 : Int32), pl)]) (dd := 1) hG rfl R4 hm er hrl
  obtain ⟨F1, F2⟩ := D1.forget (N := N) (X := X)
  obtain ⟨va, i1, i2⟩ := F2.top1 (N := N) (X := X) (cStk_6 (m' := m) (d' := 0))
  obtain ⟨vb, i3⟩ := F2.peekA (N := N) (X := X) (by omega)
  obtain ⟨tA, tB, v, e1, e2, e3, e4⟩ := F2.eachE (N := N) (X := X) (fz := fa (inA code m).2.1) (pl := pl) hN b2 w2 w3 (by omega) s64 grs (by omega)
  have e2 : kI tA 49 17 = Int32.ofNat (posC code m + 1 + 1) + 1 := e2
  have pc1 : kI tA 49 17 = Int32.ofNat (posC code (m + 1)) := by
    rw [e2, show (1 : Int32) = Int32.ofNat 1 from rfl, i32add, posC_s hm, show clen (inA code m) = 3 by unfold clen; rw [ho]; rfl]
  have eW := wStk_w (m := m) (d := 1) (m' := m) (d' := 0) (vs := vs) (I := Iq) (G := G) (it := (6, rs ++ [y], k)) (Or.inr (Or.inr (Or.inl rfl)))
  have h79 := y4.2.1.2.2.2.2.2.2.1
  have hv := y4.2.1.2.2.1
  rw [eW] at hv
  obtain ⟨v1, v2, v5, v4⟩ := hv.1.2.2 (Or.inl rfl)
  obtain ⟨a, v6, La, v7⟩ := v4 rs y rfl
  have v1 : s1.2.2.1 80 (wStk ((m, 0, vs, Iq) :: G)).length = Int32.ofNat 3 := v1
  have v8 : s1.2.2.1 82 (wStk ((m, 0, vs, Iq) :: G)).length = Int32.ofNat ((k + 1) / 2) := v2
  have v7 : s1.2.2.1 83 (wStk ((m, 0, vs, Iq) :: G)).length = Int32.ofNat (szN y) := v7
  have v6 : s1.2.2.1 81 (wStk ((m, 0, vs, Iq) :: G)).length = Int32.ofNat a := v6
  have v5 : s1.2.2.1 84 (wStk ((m, 0, vs, Iq) :: G)).length = Int32.ofNat (rStk ((m, 0, vs, Iq) :: G)).length := v5 rfl
  have hwl := hbd.2.2.1
  rw [eW, List.length_cons] at h79 hwl
  have eJ : rIt [((6, rs ++ [y], k) : It)] = rs.reverse.reverse := by
    show (rs ++ [y]).dropLast ++ [] = _
    rw [List.dropLast_concat, List.append_nil, List.reverse_reverse]
  have A1 : rA s1 (rStk ((m, 0, vs, Iq) :: G)).length f T.2.1 rs.reverse := (RXm.rA (m' := m) (d' := 0) (J := [((6, rs ++ [y], k) : It)]) (I' := Iq) (xs := rs.reverse) y4 eJ hT R2 b1 (fun x hx => grs x (List.mem_reverse.mp hx))).1
  have M1 := y4.2.1.eachP (m' := m) (d' := 0)
  have B1 : RB s0 (mI s1 79 (Int32.ofNat (wStk ((m, 0, vs, Iq) :: G)).length)) h code Fs fu T out := y4.1.I (by omega)
  have A2 : rA (mI s1 79 (Int32.ofNat (wStk ((m, 0, vs, Iq) :: G)).length)) (rStk ((m, 0, vs, Iq) :: G)).length f T.2.1 rs.reverse := A1
  obtain ⟨s2, r1, r2⟩ := r_eachE (N := N) (y := y) (nw := (wStk ((m, 0, vs, Iq) :: G)).length) (a := a) hN A2 (by rw [List.length_reverse]; omega) (by omega) v5 v6 La (by omega) w3
  have h317 : mf_317 N (Int32.ofNat kx) s1 = some (s2, none) := by
    clear hv v4 v2 eW A1 A2 M1 B1 r2 La y4 R1
    generalize (wStk ((m, 0, vs, Iq) :: G)).length = nw at *
    have sb : Int32.ofNat (nw + 1) - Int32.ofNat 1 = Int32.ofNat nw := by rw [← Int32.ofNat_sub _ _ (by omega)]; rfl
    have hle : szN y ≤ (k + 1) / 2 := by omega
    generalize (k + 1) / 2 = kh at *
    generalize szN y = sy at *
    unfold mf_317 mf_317_0 mf_317_107
    simp (disch := omega) only [ev_S, ev_P, ↓reduceIte, Nat.reduceEqDiff, Nat.reduceLeDiff, Nat.reduceAdd, Nat.reduceMul, Nat.reduceSub, reduceCtorEq, l32_0, l32_1, l32_2, l32_3, l32_4, l32_5, l32_6, l32_7, l32_8, l32_9, l32_10, l32_11, l32_12, l32_13, l32_14, l32_15, l32_16, l32_17, l32_18, l32_19, l32_20, l32_21, l32_22, l32_23, l32_24, l32_25, l32_26, l32_27, l32_28, l32_29, l32_33, l32_40, l32_41, l32_44, l32_45, l32_59, l32_61, l32_91, l32_93, l32_123, l32_125, h79, sb, v8, v7, hle, v1, r1]
  have h313 : mf_313 N (Int32.ofNat kx) s1 = some (s2, none) := by
    rw [r_op11 y3 y7]
    unfold mf_313_202 mf_313_207
    rw [h317]
    rfl
  refine vop (JK := [((6, rs ++ [y], k) : It)]) (J := vIt (rs ++ [y])) (I' := Iq) (k0 := 1) (jn := k / 2 + 1) (T1 := T) (d' := 0) (s1 := mI s1 79 (Int32.ofNat (wStk ((m, 0, vs, Iq) :: G)).length)) (pl := pl) hN (by omega) K P ?_ (by omega) (fun y hy => by rw [vIt_0 y hy]; decide) (by rw [vIt_c, List.length_map, List.length_append, List.length_singleton, w2]) ⟨hT, Nat.le_refl _, rfl⟩ x2 hpl P.2.2.2.1.2 e1 C2 e3 pc1 (fun t3 h3 Q => ?_) B1 M1 R2 y6 ?_ r2 okAn_E (fun h66 Q x2 => y11 s2 h313 h66 Q x2) (fun kq h66 hq Q x2 => y12 s2 kq h313 h66 hq Q x2) (fun x ex => ?_) hol
  · rw [cStk_app (m' := m) (d' := 0), vIt_c]
    rw [cStk_6 (m' := m) (d' := 0), List.length_cons] at b2
    omega
  · rw [D2 Q]
    refine c_rdW (by decide) (by decide) (by decide) ((c_143o F1 i1 i3).trans (c_wk13.trans ?_))
    have e5 := e4 t3 h3
    unfold cf_143_265 cf_143_271 cf_143_296
    rw [e5]
    rfl
  · show s1.1 69 = _
    rw [y5, y1, posR_s hm, show rlen (inA code m) = 2 by unfold rlen; rw [ho]; rfl]
    rfl
  · have := ct_E ex
    rw [List.length_reverse] at this
    show 1 + 20 * T.1 + (k / 2 + pvI Iq) ≤ crL [((6, rs ++ [y], k) : It)] + 20 * T.1 + 60 * ctV (vw x) + 1 + pvI Iq
    omega
/-- the next of a walk -/
theorem i_10n (hN : 170000 ≤ N) (C : CS t0 t p code Fs fu S0 ((m, 1, vs, I) :: G) sh T out) (R : RSm s0 s h code Fs fu ((m, 1, vs, I) :: G) sh T out) (K : CK code Fs fu ((m, 1, vs, I) :: G) sh T out n) : GO N X t0 s0 p h code Fs fu S0 t s n := by
  obtain ⟨g, P⟩ := K.pl0
  obtain ⟨a', G', eF, ⟨L, hL, hty⟩, -, -⟩ := K.2.2.1
  have eF := List.cons.inj eF
  obtain ⟨rfl, rfl⟩ := eF
  have hGl : G.length ≤ 9 := by
    have := K.2.1
    rw [List.length_cons] at this
    omega
  rcases hty with ⟨q, -⟩ | ⟨-, ho, hw⟩
  · cases q
  · have hok := P.2.2.2.1
    have hT := K.1.2
    rcases hw with ⟨hr, a, Iq, e, ha, ⟨hk1, hk2⟩, hpl⟩ | ⟨hr, a, y0, Iq, e, ha, hy, ⟨hk1, hk2⟩, hpl⟩
    · have e : I = a :: Iq := e
      subst e
      obtain ⟨a1, al, ak⟩ := a
      have ha : a1 = 6 := ha
      subst ha
      obtain ⟨rs, y, w1, -⟩ := hok.1.2.2.2.2.1 rfl
      have w1 : al = rs ++ [y] := w1
      subst w1
      have hk2 : ak % 2 = 0 := hk2
      by_cases hi : ak / 2 < szN y
      · by_cases hs : T.1 < fu
        · by_cases hG8 : G.length ≤ 8
          · exact n_each hN C R K ho hr hL hk1 hk2 hpl hi hs hG8
          · exact n_eachD hN C R K ho hr hk2 hi hs (by omega)
        · exact n_eachX hN C R K ho hr hk2 hi hs
      · exact n_eachE hN C R K ho hr hL hk1 hk2 hpl hi
    · have e : I = a :: y0 :: Iq := e
      subst e
      obtain ⟨a1, al, ak⟩ := a
      have ha : a1 = 8 := ha
      subst ha
      obtain ⟨y, w1, -⟩ := hok.1.2.2.2.2.2 rfl
      have w1 : al = [y] := w1
      subst w1
      obtain ⟨b1, bl, bk⟩ := y0
      have hy : b1 = 0 := hy
      subst hy
      obtain ⟨c, w2⟩ := hok.2.1.2.1 (Or.inl rfl)
      have w2 : bl = [c] := w2
      subst w2
      have hk2 : ak % 2 = 0 := hk2
      by_cases hi : ak / 2 < szN y
      · by_cases hs : T.1 < fu
        · by_cases hG8 : G.length ≤ 8
          · exact n_fold hN C R K ho hr hL hk1 hk2 hpl hi hs hG8
          · exact n_foldD hN C R K ho hr hk2 hi hs (by omega)
        · exact n_foldX hN C R K ho hr hk2 hi hs
      · exact n_foldE hN C R K ho hr hL hk1 hk2 hpl hi
end EEB
end
-- ### 98zzh.pure.lean.txt
section
/-! ===== PURE: run (137): something is put at a place of a variable's THING ===== -/
section PUA
variable {N : Nat} {X : Nat → Option zz_C} {t0 t t1 t2 : cS} {s0 s s' s1 s2 : mS} {u w f f' p h fu m m' d d' n k b z j jn k0 nb rr kx : Nat} {code : List Ins} {Fs : List Fn} {T T' T1 : Ty} {out out' : List Int32} {F G : List Fm} {sh sh' S0 : Nat → Option Nod} {vs vs' : List (Option Nod)} {I I' J : List It} {q r pl kk : Int32} {v : Int64} {it y5 : It} {x : Nod} {l : List Nod} {c : Ins} {L L' : List Nat} {g : Fn} {a a' : Fm} {ans : Ans} {xs : List Nod} {R0 : mO} {a1 a2 : C3}
theorem mk_n0 (e : ansM k xs = .inr x) : ¬ kn x = 0 := by
  unfold ansM mk at e
  split at e
  · rename_i y hy
    cases e
    split at hy
    · split at hy
      · cases hy; intro q; cases q
      · cases hy
    · split at hy
      · split at hy
        · cases hy; intro q; cases q
        · cases hy
      · split at hy
        · cases hy; intro q; cases q
        · cases hy
  · cases e
theorem vopP (hN : 170000 ≤ N) (K : CK code Fs fu ((m, 0, vs, J ++ y5 :: I') :: G) sh T out n) (P : PL code Fs m vs (J ++ y5 :: I') g) (ho : (inA code m).1 = 12) (hJ : ∀ y ∈ J, y.1 = 0) (hJr : (cIt J).length = J.length) (hJl : J.length ≤ 3) (q2 : y5.1 = 5) (q3 : lyo (code.take (m + 1)) = some (kd I')) (q4 : plI I') (q5 : okIs code g.2.2.2.2.1 g.2.2.2.2.2 I') (hrr : rr < 8 + vs.length) (ec : cI code (posC code m) (inA code m) = [a1, a2] ++ (2, cv rr, q) :: []) (hm : m < code.length) (hcx : cx code < 6500)
    (C1 : CX t0 t1 p code Fs fu S0 u w ((m, 0, vs, (0, [x], 0) :: (J ++ y5 :: I')) :: G) sh T out) (C2 : u ≤ 100000 + 20 * T.2.1) (hF : cF t1 t2 u v ans) (hpc : kI t1 49 17 = Int32.ofNat (posC code m + 2))
    (hround : ∀ t3, cf_144 N X v (Int32.ofNat (J.length + 1)) pl t2 = some (t3, .inl none) → ∀ Q, cf_141_L4 N X (Q + 2) 0 (Int32.ofNat n) t = cf_141_L4 N X Q 0 (Int32.ofNat (n + 2)) t3)
    (R : RXm s0 s1 h code Fs fu f ((m, 0, vs, J ++ y5 :: I') :: G) sh T out) (R2 : 154242 ≤ f ∧ f ≤ 154250 + T.2.1) (h70 : s1.1 70 = pl) (h69 : s1.1 69 = Int32.ofNat (ob0 h + posR code (m + 1)))
    (hE : rPt N s1 (rStk ((m, 0, vs, I') :: G)).length f T.2.1 (Int32.ofNat rr) ans R0) (hR0 : ∀ s2, R0 = some (s2, none) → mf_313 N (Int32.ofNat kx) s1 = some (s2, none)) (hans : okAn ans) (hn0 : ∀ x, ans = .inr x → ¬ kn x = 0)
    (y11 : ∀ s2, mf_313 N (Int32.ofNat kx) s1 = some (s2, none) → s2.1 66 = Int32.ofNat 0 → ∀ Q x2, mf_68_L10 N (Q + 1) 0 x2 s = mf_68_L10 N Q 0 x2 s2) (y12 : ∀ s2 kq, mf_313 N (Int32.ofNat kx) s1 = some (s2, none) → s2.1 66 = Int32.ofNat kq → 0 < kq ∧ kq < 100 → ∀ Q x2, mf_68_L10 N (Q + (0 + 1)) 0 x2 s = mo_bi (mf_312 N s2) (fun s3 y => mf_68_L10 N Q 0 x2 s3))
    (hG : G.length ≤ 9) (hol : out.length ≤ 200000000) : GO N X t0 s0 p h code Fs fu S0 t s n := by
  obtain ⟨b1, b2, b3, b4, b5, b6⟩ := K.bd
  have hT := K.1.2
  have hv14 := P.2.2.1.2
  have hpb := P.2.1
  have hnx := P.2.2.2.2.2.1 (by omega)
  obtain ⟨u', w', CO, co17, co1, co2, co3⟩ := C1.op hF
  have hB := R.1
  have h66s : s1.1 66 = Int32.ofNat 0 := hB.2.2.1.1
  have h67s : s1.1 67 = -Int32.ofNat 1 := hB.2.2.1.2
  have hno := iC_no (it := y5) (Or.inr q2)
  have eR : rStk ((m, 0, vs, J ++ y5 :: I') :: G) = rIt J ++ rStk ((m, 0, vs, I') :: G) := by
    rw [rStk_app (m' := m) (d' := 0), rStk_cons (m' := m) (d' := 0), hno.2]
    rfl
  have eW : wStk ((m, 0, vs, I') :: G) = wStk ((m, 0, vs, J ++ y5 :: I') :: G) := by
    rw [wStk_v (m' := m) (d' := 0) hJ, wStk_cons (m' := m) (d' := 0) (by omega)]
  have M1 : RM0 s1 f h code ((m, 0, vs, I') :: G) sh := by
    refine RM0.mv R.2.1 (fun _ _ => rfl) rfl rfl (Nat.le_refl _) (fun _ _ => rfl) R.2.1.2.2.2.2.2.2.2 ?_ rfl eW
    have := R.2.1.1
    rw [eR] at this
    exact this.app
  rcases hE with ⟨kq, s', e1, e2, e3⟩ | ⟨x', s', e1, e3, e2⟩
  · subst e1
    obtain ⟨hk1, hk2⟩ := hans kq rfl
    obtain ⟨f', g1, g2, g3, g4⟩ := e3
    obtain ⟨i1, i2, i3, i4⟩ := g4
    obtain ⟨o1, o2⟩ := co3
    have RK := hB.vf g3 R2.1 i2
    rw [i3, i4, h70] at RK
    have hT1' : (T.1, T.2.1, T.2.2) = T := rfl
    rw [hT1'] at RK
    have M2 := M1.vf (m' := m) (d' := 0) g3 rfl g1 g2
    have eL : ((0, [x], 0) :: (J ++ [y5])) ++ I' = ((0, [x], 0) : It) :: (J ++ y5 :: I') := by simp
    have CO' : CY t0 t2 p code Fs fu S0 u' w' ((m, 0, vs, ((0, [x], 0) :: (J ++ [y5])) ++ I') :: G) sh T out := by
      rw [eL]
      exact CO.cy
    refine trob (k := kq) (k0 := 2) (j0 := 0) (r := Int32.ofNat 0) (by omega) (by omega) (by omega) (by omega) (CO'.low (m' := m) (d' := 0) ?_) (by omega) RK M2 ⟨by omega, by omega⟩ (by intro q; cases q) ?_ (K.kt (J := J ++ [y5]) (I' := I') (by simp) hT ⟨Nat.le_refl _, Nat.le_refl _⟩ (by omega)) (fun t3 ht => hround t3 ?_) (y12 s' kq (hR0 s' e2) i3 (by omega)) (by omega)
    · intro y hy
      rcases List.mem_cons.mp hy with e | e
      · rw [e]; show ¬ (0 : Nat) = 3; decide
      · rcases List.mem_append.mp e with e | e
        · rw [hJ y e]; decide
        · rw [List.mem_singleton.mp e, q2]; decide
    · rw [if_neg (by omega)]
      rfl
    · rw [o1]
      exact c_giveT (by omega) ht
  · subst e1
    obtain ⟨f', g1, g2, g3, g4⟩ := e3
    obtain ⟨i1, i2, i3, i4, i5⟩ := g4
    obtain ⟨o1, o2, o3, o4⟩ := co3
    by_cases c : T.2.1 + ctV (vw x') ≤ 3000
    · rw [if_pos c] at i5 e2
      have CO2 : CX t0 t2 p code Fs fu S0 u' w' ((m, 0, vs, ((0, [x], 0) :: J) ++ y5 :: I') :: G) sh T out := CO
      have hl : (cStk ((m, 0, vs, ((0, [x], 0) :: J) ++ y5 :: I') :: G)).length ≤ 17501 := by
        show (cStk ((m, 0, vs, (0, [x], 0) :: (J ++ y5 :: I')) :: G)).length ≤ _
        rw [cStk_0 (m' := m) (d' := 0), List.length_cons]
        omega
      obtain ⟨t3, v1, v2, v3⟩ := CO2.give (N := N) (X := X) (m' := m) (d' := 0) (q := pl) (j := J.length + 1) (by omega) (fun y hy => by
        rcases List.mem_cons.mp hy with e | e
        · rw [e]; show ¬ (0 : Nat) = 3; decide
        · rw [hJ y e]; decide) (by show (some x :: cIt J).length = _; rw [List.length_cons, hJr]) o1 o3 c
      have hpc3 : kI t3 49 17 = Int32.ofNat (posC code m + 2) := by rw [v3, co17, hpc]
      obtain ⟨D1, D2⟩ := v2.fet (N := N) (X := X) (n := n + 2) (l1 := [a1, a2]) (dd := 2) rfl hpc3 hm ec hcx (by omega)
      have hl3 : (cStk ((m, 0, vs, (0, [x'], 0) :: y5 :: I') :: G)).length ≤ 17501 := by
        rw [cStk_0 (m' := m) (d' := 0), List.length_cons]
        rw [cStk_app (m' := m) (d' := 0), List.length_append] at b2
        omega
      obtain ⟨t4, a1', a2', a3, a4⟩ := D1.store (N := N) (X := X) (m' := m + 1) (d' := 0) (r := rr) (by omega) hG hrr hv14
      have CY := a2'.no (m' := m + 1) (d' := 0) (Or.inr q2)
      have RK := hB.vf g3 R2.1 i4
      rw [i5.1, i5.2, h66s, h67s] at RK
      have M2 := M1.vf (m' := m) (d' := 0) g3 rfl g1 g2
      have RB3 : RB s0 s' h code Fs fu (T.1, T.2.1 + ctV (vw x'), T.2.2) out := RK
      have RX3 : RXm s0 (mI s' 51 (Int32.ofNat (rStk ((m, 0, vs, I') :: G)).length)) h code Fs fu f' ((m, 0, vs, I') :: G) sh (T.1, T.2.1 + ctV (vw x'), T.2.2) out := ⟨RB3.I (by omega), RM0.mv M2 (fun _ _ => rfl) rfl rfl (Nat.le_refl _) (fun _ _ => rfl) g2 M2.1 rfl rfl, rfl⟩
      have hk1 := (i3.th (hn0 x' rfl)).1
      rw [hk1] at i3
      have RY := RX3.store (m' := m + 1) (d' := 0) (rr := rr) i3 hrr hv14
      have h73 : (mI s' 51 (Int32.ofNat (rStk ((m, 0, vs, I') :: G)).length)).1 73 = Int32.ofNat (G.length + 1) := RX3.2.1.2.2.2.2.2.1
      have hst := r_store (N := N) (s := mI s' 51 (Int32.ofNat (rStk ((m, 0, vs, I') :: G)).length)) (G := G) (r := rr) (k := Int32.ofNat 1) (v := s'.2.2.1 50 (rStk ((m, 0, vs, I') :: G)).length) h73 hG (by omega)
      have hnb : (rStk ((m, 0, vs, I') :: G)).length ≤ 8700 := by
        rw [eR, List.length_append] at b1
        omega
      have eR0 : R0 = some (stM (mI s' 51 (Int32.ofNat (rStk ((m, 0, vs, I') :: G)).length)) rr G.length (Int32.ofNat 1) (s'.2.2.1 50 (rStk ((m, 0, vs, I') :: G)).length), none) := by
        rw [e2]
        clear RY RX3 M2 M1 RB3 RK i3 eR b1 hk1 e2 i2
        generalize (rStk ((m, 0, vs, I') :: G)).length = nb at *
        unfold mf_318_497 mf_318_510
        simp (disch := omega) only [ev_S, ev_P, ↓reduceIte, Nat.reduceEqDiff, Nat.reduceLeDiff, Nat.reduceAdd, Nat.reduceMul, Nat.reduceSub, reduceCtorEq, l32_0, l32_1, l32_2, l32_3, l32_4, l32_5, l32_6, l32_7, l32_8, l32_9, l32_10, l32_11, l32_12, l32_13, l32_14, l32_15, l32_16, l32_17, l32_18, l32_19, l32_20, l32_21, l32_22, l32_23, l32_24, l32_25, l32_26, l32_27, l32_28, l32_29, l32_33, l32_40, l32_41, l32_44, l32_45, l32_59, l32_61, l32_91, l32_93, l32_123, l32_125, hst]
      have hpot : ∀ y ∈ J, y.1 = 0 ∨ y.1 = 1 := fun y hy => Or.inl (hJ y hy)
      refine goOn (k := 3) (j := 1) (by omega) (fun Q => ?_) (fun Q x2 => y11 _ (hR0 _ eR0) RY.1.2.2.1.1 Q x2) CY ?_ ?_ RY ⟨by omega, ?_⟩ ?_ (K.to P (by omega) q3 q4 q5 stV_len ?_ (sh_stS K.2.2.2.2.1 ⟨o3, o4⟩) ⟨hT.1, hT.2.1, c, hT.2.2.2.1, ?_⟩ ?_ ?_)
      · rw [show Q + 3 = Q + 1 + 2 by omega, hround t3 v1 (Q + 1), D2 Q]
        clear D1 D2
        generalize jI t3 49 17 (Int32.ofNat (posC code m + 2 + 1)) = t5 at *
        refine c_rdM (by decide) (by decide) (c_mv2.trans ?_)
        unfold cf_142_152 cf_142_157 cf_142_296
        simp (disch := omega) only [ev_S, ev_C, ↓reduceIte, Nat.reduceEqDiff, Nat.reduceLeDiff, Nat.reduceAdd, Nat.reduceMul, Nat.reduceSub, reduceCtorEq, l32_0, l32_1, l32_2, l32_3, l32_4, l32_5, l32_6, l32_7, l32_8, l32_9, l32_10, l32_11, l32_12, l32_13, l32_14, l32_15, l32_16, l32_17, l32_18, l32_19, l32_20, l32_21, l32_22, l32_23, l32_24, l32_25, l32_26, l32_27, l32_28, l32_29, l32_33, l32_40, l32_41, l32_44, l32_45, l32_59, l32_61, l32_91, l32_93, l32_123, l32_125, a1']
      · show u' ≤ 100000 + 20 * (T.2.1 + ctV (vw x'))
        rw [Nat.mul_add, ← Nat.add_assoc]
        exact Nat.le_trans o2 (Nat.add_le_add_right C2 _)
      · rw [a3]
        show Int32.ofNat (posC code m + 2 + 1) = Int32.ofNat (posC code (m + 1) + 0)
        rw [posC_s hm, show clen (inA code m) = 3 by unfold clen; rw [ho]; rfl]
      · show f' ≤ 154250 + (T.2.1 + ctV (vw x'))
        rw [← Nat.add_assoc]
        exact Nat.le_trans i1 (Nat.add_le_add_right R2.2 _)
      · rw [(stM_i (s := mI s' 51 (Int32.ofNat (rStk ((m, 0, vs, I') :: G)).length)) (r := rr) (n := G.length) (k := Int32.ofNat 1) (v := s'.2.2.1 50 (rStk ((m, 0, vs, I') :: G)).length)).1]
        show s'.1 69 = _
        rw [g3.1.1 69 (by unfold vfI; omega), h69]
        rfl
      · refine gdS_stV (m := m) (d := 0) ?_ ⟨o3, o4⟩
        refine gd_suf (m := m) (d := 0) (J := J ++ [y5]) ?_
        rw [show (J ++ [y5]) ++ I' = J ++ y5 :: I' by simp]
        exact K.2.2.2.1
      · show 300 * T.2.2.2 ≤ T.2.1 + ctV (vw x')
        have := hT.2.2.2.2
        omega
      · rw [pv_app hpot, crL_app, crL_c, pv5 (Or.inr (Or.inl q2)), cr5 q2]
        show 3 + crL I' + 20 * T.1 + 60 * T.2.1 + (J.length + 0) ≤ crL J + (8 + crL I') + 20 * T.1 + 60 * (T.2.1 + ctV (vw x')) + pvI I'
        omega
      · rw [n5I_app, n5I_c]
        show out.length + 9100 * n5I I' + 9100 * T.1 ≤ out.length + 9100 * (n5I J + (_ + n5I I')) + 9100 * T.1
        omega
    · rw [if_neg c] at i5 e2
      have RK := hB.vf g3 R2.1 i4
      rw [i5.1, i5.2, h70] at RK
      have RK2 : RBk s0 (mI s' 51 (Int32.ofNat (rStk ((m, 0, vs, I') :: G)).length)) h code Fs fu (T.1, T.2.1 + ctV (vw x'), T.2.2) out (Int32.ofNat 11) pl := by
        obtain ⟨z1, z2, z3, z4, z5⟩ := RK
        exact ⟨z1.keep (fun _ _ _ => rfl), z2, z3, z4.ch rfl rfl, z5.tr (fRn.I (Or.inr (Or.inl rfl)))⟩
      refine end11 (k0 := 2) ((CO.md (c := T.2.1 + ctV (vw x'))).cy) RK2 (by omega) (fun t3 ht => hround t3 ?_) (y12 _ 11 (hR0 _ e2) i5.1 (by omega)) (by omega) hol
      exact c_giveM CO.2.2.1 o1 o3 CO.1.2.1.2.2.1 hT.2.2.1 c ht
end PUA
end
