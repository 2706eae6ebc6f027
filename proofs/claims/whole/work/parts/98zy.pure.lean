/-! ===== PURE: run (128): a fold ends ===== -/
section FEN
variable {N : Nat} {X : Nat → Option zz_C} {t0 t t1 t2 : cS} {s0 s s1 s2 : mS} {u w f p h fu m m' d d' n k b j : Nat} {code : List Ins} {Fs : List Fn} {T T1 : Ty} {out : List Int32} {G F : List Fm} {sh S0 : Nat → Option Nod} {vs : List (Option Nod)} {I J I' Iq : List It} {q z pl fz : Int32} {x y c : Nod} {g : Fn} {L : List Nat}
theorem CX.foldE (C : CX t0 t p code Fs fu S0 u w ((m, d, vs, (8, [y], k) :: I) :: G) sh T out) (hl : (cStk ((m, d, vs, (8, [y], k) :: I) :: G)).length ≤ 17500) (hi : szN y = k / 2) (hb : szN y ≤ 64) : ∃ t4, CX t0 t4 p code Fs fu S0 u w ((m', d', vs, I) :: G) sh T out ∧ kI t4 49 17 = kI t 49 17 ∧ cf_163 N X fz pl t = some (jI t4 49 17 (kI t4 49 17 + 1), .inl none) := by
  have e8 : cStk ((m, d, vs, (8, [y], k) :: I) :: G) = some (nZ (Int32.ofNat (k / 2))) :: some y :: cStk ((m, d, vs, I) :: G) := by
    rw [cStk_8 (m' := m) (d' := d)]
    rfl
  obtain ⟨va, a1, a2⟩ := C.top1 (N := N) (X := X) e8
  obtain ⟨vb, b1, b2⟩ := C.top2 (N := N) (X := X) e8
  have a2 : cN (cel t) u va (nZ (Int32.ofNat (k / 2))) := a2
  have b2 : cN (cel t) u vb y := b2
  have ea := a2.z rfl
  have lo := c_lowOf (N := N) (X := X) (t := t) (k := 0) (a := ivN (nZ (Int32.ofNat (k / 2))))
  rw [← ea] at lo
  have lo : cf_256 N X va t = some (t, .inl (some (.int (Int32.ofNat (k / 2))))) := lo
  have sz := c_sizeN (N := N) (X := X) C.2.2.1 b2
  have hl2 : (cStk ((m, d, vs, I) :: G)).length + 1 + 1 ≤ 17500 := by
    rw [e8] at hl
    exact hl
  have CV : CX t0 t p code Fs fu S0 u w ((m, d, vs, (0, [nZ (Int32.ofNat (k / 2))], 0) :: (0, [y], 0) :: I) :: G) sh T out := C.re (by rw [e8, cStk_00 (m' := m) (d' := d)]) (by rw [tStk_0 (m' := m) (d' := d), tStk_0 (m' := m) (d' := d), tStk_678 (m' := m) (d' := d) (Or.inr (Or.inr rfl))])
  obtain ⟨t2, v2, p1, -, p3, p4, p5⟩ := CV.pop (N := N) (X := X) (m' := m) (d' := d) (o := some (nZ (Int32.ofNat (k / 2)))) (by rw [cStk_00 (m' := m) (d' := d), List.length_cons, List.length_cons]; omega) (by show ¬ (0 : Nat) = 3; decide) rfl
  obtain ⟨t3, v3, q1, -, q3, q4, q5⟩ := p3.pop (N := N) (X := X) (m' := m') (d' := d') (o := some y) (by rw [cStk_0 (m' := m) (d' := d), List.length_cons]; omega) (by show ¬ (0 : Nat) = 3; decide) rfl
  refine ⟨t3, q3, q4.trans p4, ?_⟩
  rw [hi] at sz hb
  clear C CV p3 q3 e8 a2 b2 ea
  generalize k / 2 = kh at *
  unfold cf_163 cf_163_0 cf_163_5 cf_163_8 cf_163_14 cf_163_26 cf_163_68 cf_163_72 cf_163_77
  simp (disch := omega) only [ev_S, ev_C, ↓reduceIte, Nat.reduceEqDiff, Nat.reduceLeDiff, Nat.reduceAdd, Nat.reduceMul, Nat.reduceSub, reduceCtorEq, l32_0, l32_1, l32_2, l32_3, l32_4, l32_5, l32_6, l32_7, l32_8, l32_9, l32_10, l32_11, l32_12, l32_13, l32_14, l32_15, l32_16, l32_17, l32_18, l32_19, l32_20, l32_21, l32_22, l32_23, l32_24, l32_25, l32_26, l32_27, l32_28, l32_29, l32_33, l32_40, l32_41, l32_44, l32_45, l32_59, l32_61, l32_91, l32_93, l32_123, l32_125, a1, lo, b1, sz, p1, q1]
theorem n_foldE (hN : 170000 ≤ N) (C : CS t0 t p code Fs fu S0 ((m, 1, vs, (8, [y], k) :: (0, [c], j) :: Iq) :: G) sh T out) (R : RSm s0 s h code Fs fu ((m, 1, vs, (8, [y], k) :: (0, [c], j) :: Iq) :: G) sh T out) (K : CK code Fs fu ((m, 1, vs, (8, [y], k) :: (0, [c], j) :: Iq) :: G) sh T out n) (ho : (inA code m).1 = 10) (hr : (inA code m).2.2.1 = 2) (hL : lyo (code.take m) = some L) (hk1 : pop0 2 L = some (kd Iq)) (hk2 : k % 2 = 0) (hpl : plI Iq) (hi : ¬ k / 2 < szN y) : GO N X t0 s0 p h code Fs fu S0 t s n := by
  obtain ⟨u, w, f, g, C1, C2, C4, R1, R2, R4, P, hm, hcx, hrl, hG, ⟨b1, b2, b6⟩, hT, hol⟩ := open0 C R K
  obtain ⟨ec, er⟩ := cI_10 (code := code) (own := posC code m) (e := h) ho
  have hbd := K.bd
  have hpb := P.2.1
  have hnx := P.2.2.2.2.2.1 (by omega)
  obtain ⟨y', w1, w3, w4⟩ := P.2.2.2.1.1.2.2.2.2.2 rfl
  have w1 : [y] = [y'] := w1
  have eb : y = y' := by simpa using w1
  subst eb
  have w4 : (k + 1) / 2 ≤ szN y := w4
  have hgK := K.2.2.2.1
  have wy : wfN y ∧ y.1 ≤ 4 := by
    refine hgK y ?_
    rw [cStk_8 (m' := m) (d' := 1)]
    exact List.mem_cons_of_mem _ List.mem_cons_self
  have s64 := wf64 wy.1
  have n1 : ¬ (inA code m).2.2.1 = 1 := by omega
  rw [if_neg n1, if_neg n1] at ec
  obtain ⟨L2', x1, x2⟩ := nxF K.1.1 hm hL
  have x3 : L2' = 0 :: kd Iq := by
    generalize inA code m = cc at *
    obtain ⟨o', jj, r0, aa, pp, xx, yy⟩ := cc
    have z : o' = 10 := ho
    have z2 : r0 = 2 := hr
    subst z z2
    have x1 : (if 2 ≤ 2 then (pop0 2 L).map (0 :: ·) else none) = some L2' := x1
    rw [if_pos (Nat.le_refl _), hk1] at x1
    exact (Option.some.inj x1).symm
  generalize (inA code m).2.2.2.2.1 = pl at *
  obtain ⟨D1, D2⟩ := C1.fet (N := N) (X := X) (n := n) (l1 := [((25 : Int32), (0 : Int32), pl)]) (dd := 1) rfl C4 hm ec hcx (by omega)
  obtain ⟨s1, kx, y1, y2, y3, y4, y5, y6, ⟨y7, y8, y9, y10⟩, y11, y12⟩ := R1.fet (N := N) (l1 := [((10 : Int32), Int32.ofNat (27 + (inA code m).2.2.1), (0 : Int32), (0 : Int32), pl)]) (dd := 1) hG rfl R4 hm er hrl
  obtain ⟨F1, F2⟩ := D1.forget (N := N) (X := X)
  obtain ⟨va, i1, i2⟩ := F2.top1 (N := N) (X := X) (cStk_8 (m' := m) (d' := 1))
  obtain ⟨vb, i3⟩ := F2.peekA (N := N) (X := X) (by omega)
  obtain ⟨t4, e1, e2, e3⟩ := F2.foldE (N := N) (X := X) (fz := fa (inA code m).2.1) (pl := pl) (m' := m + 1) (d' := 0) b2 (by omega) s64
  have e2 : kI t4 49 17 = Int32.ofNat (posC code m + 1 + 1) := e2
  have pc1 : kI t4 49 17 + 1 = Int32.ofNat (posC code (m + 1) + 0) := by
    rw [e2, show (1 : Int32) = Int32.ofNat 1 from rfl, i32add, posC_s hm, show clen (inA code m) = 3 by unfold clen; rw [ho]; rfl]
  have RU := y4.unway (m' := m + 1) (d' := 0) (Or.inr (Or.inr (Or.inr rfl))) rfl
  have eW := wStk_w (m := m) (d := 1) (m' := m + 1) (d' := 0) (vs := vs) (I := (0, [c], j) :: Iq) (G := G) (it := (8, [y], k)) (Or.inr (Or.inr (Or.inr rfl)))
  have h79 := y4.2.1.2.2.2.2.2.2.1
  have hv := y4.2.1.2.2.1
  rw [eW] at hv
  obtain ⟨v1, v2, -, v4⟩ := hv.1.2.2 (Or.inr rfl)
  obtain ⟨a, -, -, v7⟩ := v4 [] y rfl
  have v1 : s1.2.2.1 80 (wStk ((m + 1, 0, vs, (0, [c], j) :: Iq) :: G)).length = Int32.ofNat 4 := v1
  have v8 : s1.2.2.1 82 (wStk ((m + 1, 0, vs, (0, [c], j) :: Iq) :: G)).length = Int32.ofNat ((k + 1) / 2) := v2
  have v7 : s1.2.2.1 83 (wStk ((m + 1, 0, vs, (0, [c], j) :: Iq) :: G)).length = Int32.ofNat (szN y) := v7
  have hwl := hbd.2.2.1
  rw [eW, List.length_cons] at h79 hwl
  have h317 : mf_317 N (Int32.ofNat kx) s1 = some (mI s1 79 (Int32.ofNat (wStk ((m + 1, 0, vs, (0, [c], j) :: Iq) :: G)).length), none) := by
    clear hv v4 v2 RU eW
    generalize (wStk ((m + 1, 0, vs, (0, [c], j) :: Iq) :: G)).length = nw at *
    have sb : Int32.ofNat (nw + 1) - Int32.ofNat 1 = Int32.ofNat nw := by rw [← Int32.ofNat_sub _ _ (by omega)]; rfl
    have hle : szN y ≤ (k + 1) / 2 := by omega
    generalize (k + 1) / 2 = kh at *
    generalize szN y = sy at *
    unfold mf_317 mf_317_0 mf_317_107 mf_317_127
    simp (disch := omega) only [ev_S, ev_P, ↓reduceIte, Nat.reduceEqDiff, Nat.reduceLeDiff, Nat.reduceAdd, Nat.reduceMul, Nat.reduceSub, reduceCtorEq, l32_0, l32_1, l32_2, l32_3, l32_4, l32_5, l32_6, l32_7, l32_8, l32_9, l32_10, l32_11, l32_12, l32_13, l32_14, l32_15, l32_16, l32_17, l32_18, l32_19, l32_20, l32_21, l32_22, l32_23, l32_24, l32_25, l32_26, l32_27, l32_28, l32_29, l32_33, l32_40, l32_41, l32_44, l32_45, l32_59, l32_61, l32_91, l32_93, l32_123, l32_125, h79, sb, v8, v7, hle, v1]
  refine goOn (k := 1) (j := 1) (by omega) (fun Q => ?_) (fun Q x2 => y11 _ ?_ RU.1.2.2.1.1 Q x2) (e1.pc (z := kI t4 49 17 + 1) (Or.inl rfl)) C2 pc1 RU R2 ?_ (K.nx hT ⟨0 :: kd Iq, by rw [← x3]; exact x2, Or.inl ⟨rfl, rfl, ?_⟩⟩ ⟨g, P.1, by show _ ≤ m + 1; omega, hnx, P.2.2.1.1, okV, P.2.2.2.1.2.2⟩ ?_ K.2.2.2.2.1 ?_ ?_)
  · rw [D2 Q]
    refine c_rdW (by decide) (by decide) (by decide) ((c_143o F1 i1 i3).trans (c_wk15.trans ?_))
    unfold cf_143_274 cf_143_280 cf_143_296
    rw [e3]
    rfl
  · rw [r_op11 y3 y7]
    unfold mf_313_202 mf_313_207
    rw [h317]
    rfl
  · show s1.1 69 = _
    rw [y5, y1, posR_s hm, show rlen (inA code m) = 2 by unfold rlen; rw [ho]; rfl]
    rfl
  · intro a ha
    rcases List.mem_cons.mp ha with q | q
    · rw [q]; exact Nat.zero_le 5
    · exact hpl a q
  · rw [cStk_8 (m' := m + 1) (d' := 0)] at hgK
    exact fun a ha => hgK a (List.mem_cons_of_mem _ (List.mem_cons_of_mem _ ha))
  · rw [crL_c (I := (0, [c], j) :: Iq)]
    have f1 : crI (8, [y], k) = 3 := rfl
    have f2 : pvI ((8, [y], k) :: (0, [c], j) :: Iq) = pvI ((0, [c], j) :: Iq) := rfl
    rw [f1, f2]
    omega
  · rw [n5I_c (I := (0, [c], j) :: Iq)]
    have f1 : (if (((8, [y], k) : It)).1 = 5 then 1 else 0) = 0 := rfl
    rw [f1]
    omega
end FEN
