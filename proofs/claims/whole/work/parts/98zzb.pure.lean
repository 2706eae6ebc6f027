/-! ===== PURE: run (131): too deep at a walk's next ===== -/
section NXD
variable {N : Nat} {X : Nat → Option zz_C} {t0 t t1 t2 t3 : cS} {s0 s s1 s2 : mS} {u w f p h fu m m' d d' n k b j e kx : Nat} {code : List Ins} {Fs : List Fn} {T T1 : Ty} {out : List Int32} {G F : List Fm} {sh S0 : Nat → Option Nod} {vs : List (Option Nod)} {I J I' Iq : List It} {q z pl fz : Int32} {x y c : Nod} {rs : List Nod} {g : Fn} {L : List Nat}
theorem CX.dropY (C : CX t0 t p code Fs fu S0 u w ((m, d, vs, J ++ I) :: G) sh T out) (hJ : ∀ y ∈ J, ¬ y.1 = 3) : CY t0 t p code Fs fu S0 u w ((m', d', vs, I) :: G) sh T out := by
  obtain ⟨h1, h2, h3, -⟩ := C
  have hs := h2.1
  rw [cStk_app (m' := m') (d' := d')] at hs
  refine ⟨h1, h2.stk (gf.rf2 (E := fun _ _ => False) (A := fun _ => False)) (fun f q => q.elim) (fun k q => q.elim) ⟨hs.1.app, ?_, hs.2.2⟩ ?_, h3⟩
  · have := hs.2.1
    rw [List.length_append] at this
    omega
  · show tIt _ _ I ++ _ = tIt _ _ (J ++ I) ++ _
    rw [tIt_app hJ]
theorem r_nextD (R : RXm s0 s h code Fs fu f ((m, d, vs, (e, rs ++ [y], k) :: I) :: G) sh T out) (hs : s = mI s1 60 z) (hstep : mf_302 N s1 = some (s, none)) (he : e = 6 ∨ e = 8) (hk : k % 2 = 0) (hw : (wStk ((m, d, vs, (e, rs ++ [y], k) :: I) :: G)).length ≤ 110) (hi : k / 2 < szN y) (hb : szN y ≤ 64) (hG : G.length = 9) (h70 : s.1 70 = pl) (ht : mf_301 N (Int32.ofNat 8) pl s = some (s2, none)) : mf_317 N (Int32.ofNat kx) s1 = some (s2, none) := by
  have hw6 : e = 2 ∨ e = 3 ∨ e = 6 ∨ e = 8 := by omega
  have eW := wStk_w (m := m) (d := d) (m' := m) (d' := d) (vs := vs) (I := I) (G := G) (it := (e, rs ++ [y], k)) hw6
  have h66 : s.1 66 = Int32.ofNat 0 := R.1.2.2.1.1
  have h79 := R.2.1.2.2.2.2.2.2.1
  have h73 : s.1 73 = Int32.ofNat 10 := by
    have : s.1 73 = Int32.ofNat (G.length + 1) := R.2.1.2.2.2.2.2.1
    rw [hG] at this
    exact this
  have hv := R.2.1.2.2.1
  rw [eW, List.length_cons] at h79 hw
  rw [eW] at hv
  obtain ⟨v1, v2, v3, v4⟩ := hv.1.2.2 he
  obtain ⟨a, v5, v6, v7⟩ := v4 rs y rfl
  have v8 : s.2.2.1 82 (wStk ((m, d, vs, I) :: G)).length = Int32.ofNat ((k + 1) / 2) := v2
  have v9 : s.2.2.1 83 (wStk ((m, d, vs, I) :: G)).length = Int32.ofNat (szN y) := v7
  have u79 : s1.1 79 = Int32.ofNat ((wStk ((m, d, vs, I) :: G)).length + 1) := by rw [← h79, hs]; rfl
  have u82 : s1.2.2.1 82 (wStk ((m, d, vs, I) :: G)).length = Int32.ofNat ((k + 1) / 2) := by rw [← v8, hs]; rfl
  have u83 : s1.2.2.1 83 (wStk ((m, d, vs, I) :: G)).length = Int32.ofNat (szN y) := by rw [← v9, hs]; rfl
  have hn : ¬ szN y ≤ (k + 1) / 2 := by omega
  clear hv v1 v2 v3 v4 v5 v6 v7 v8 v9 h79 eW R hs
  generalize (wStk ((m, d, vs, I) :: G)).length = nw at *
  have sb : Int32.ofNat (nw + 1) - Int32.ofNat 1 = Int32.ofNat nw := by rw [← Int32.ofNat_sub _ _ (by omega)]; rfl
  have hkb : (k + 1) / 2 ≤ 64 := by omega
  generalize (k + 1) / 2 = kh at *
  generalize szN y = sy at *
  unfold mf_317 mf_317_0 mf_317_22 mf_317_26 mf_317_34 mf_317_43 mf_317_53
  simp (disch := omega) only [ev_S, ev_P, ↓reduceIte, Nat.reduceEqDiff, Nat.reduceLeDiff, Nat.reduceAdd, Nat.reduceMul, Nat.reduceSub, reduceCtorEq, l32_0, l32_1, l32_2, l32_3, l32_4, l32_5, l32_6, l32_7, l32_8, l32_9, l32_10, l32_11, l32_12, l32_13, l32_14, l32_15, l32_16, l32_17, l32_18, l32_19, l32_20, l32_21, l32_22, l32_23, l32_24, l32_25, l32_26, l32_27, l32_28, l32_29, l32_33, l32_40, l32_41, l32_44, l32_45, l32_59, l32_61, l32_91, l32_93, l32_123, l32_125, u79, sb, u82, u83, hn, hstep, h66, h73, h70, ht]
theorem c_deep (h11 : kI t 49 11 = Int32.ofNat 10) (ht : cf_156 N X (Int32.ofNat 8) pl (Int32.ofNat 0) t = some (t3, .inl none)) : cf_157 N X fz z pl t = some (t3, .inl none) := by
  unfold cf_157 cf_157_0 cf_157_9 cf_157_17
  simp (disch := omega) only [ev_S, ev_C, ↓reduceIte, Nat.reduceEqDiff, Nat.reduceLeDiff, Nat.reduceAdd, Nat.reduceMul, Nat.reduceSub, reduceCtorEq, l32_0, l32_1, l32_2, l32_3, l32_4, l32_5, l32_6, l32_7, l32_8, l32_9, l32_10, l32_11, l32_12, l32_13, l32_14, l32_15, l32_16, l32_17, l32_18, l32_19, l32_20, l32_21, l32_22, l32_23, l32_24, l32_25, l32_26, l32_27, l32_28, l32_29, l32_33, l32_40, l32_41, l32_44, l32_45, l32_59, l32_61, l32_91, l32_93, l32_123, l32_125, h11, ht]
theorem n_eachD (hN : 170000 ≤ N) (C : CS t0 t p code Fs fu S0 ((m, 1, vs, (6, rs ++ [y], k) :: Iq) :: G) sh T out) (R : RSm s0 s h code Fs fu ((m, 1, vs, (6, rs ++ [y], k) :: Iq) :: G) sh T out) (K : CK code Fs fu ((m, 1, vs, (6, rs ++ [y], k) :: Iq) :: G) sh T out n) (ho : (inA code m).1 = 10) (hr : (inA code m).2.2.1 = 1) (hk2 : k % 2 = 0) (hi : k / 2 < szN y) (hs : T.1 < fu) (hG9 : G.length = 9) : GO N X t0 s0 p h code Fs fu S0 t s n := by
  obtain ⟨u, w, f, g, C1, C2, C4, R1, R2, R4, P, hm, hcx, hrl, hG, ⟨b1, b2, b6⟩, hT, hol⟩ := open0 C R K
  obtain ⟨ec, er⟩ := cI_10 (code := code) (own := posC code m) (e := h) ho
  have hbd := K.bd
  obtain ⟨rs', y', w1, w2, w3, w4⟩ := P.2.2.2.1.1.2.2.2.2.1 rfl
  have w1 : rs ++ [y] = rs' ++ [y'] := w1
  obtain ⟨ea, eb⟩ := List.append_inj' w1 rfl
  have eb : y = y' := by simpa using eb
  subst ea eb
  have w2 : rs.length = k / 2 := w2
  have wy : wfN y ∧ y.1 ≤ 4 := by
    refine K.2.2.2.1 y ?_
    rw [cStk_6 (m' := m) (d' := 0)]
    exact List.mem_cons_of_mem _ (List.mem_append_left _ (List.mem_map.mpr ⟨y, List.mem_append_right _ List.mem_cons_self, rfl⟩))
  have s64 := wf64 wy.1
  rw [if_pos hr, if_pos hr] at ec
  generalize (inA code m).2.2.2.2.1 = pl at *
  obtain ⟨D1, D2⟩ := C1.fet (N := N) (X := X) (n := n) (l1 := [((25 : Int32), (0 : Int32), pl)]) (dd := 1) rfl C4 hm ec hcx (by omega)
  obtain ⟨s1, kx, y1, y2, y3, y4, y5, y6, ⟨y7, y8, y9, y10⟩, y11, y12⟩ := R1.fet (N := N) (l1 := [((10 : Int32), Int32.ofNat (27 + (inA code m).2.2.1), (0 : Int32), (0 : Int32), pl)]) (dd := 1) hG rfl R4 hm er hrl
  obtain ⟨F1, F2⟩ := D1.forget (N := N) (X := X)
  obtain ⟨va, i1, i2⟩ := F2.top1 (N := N) (X := X) (cStk_6 (m' := m) (d' := 0))
  obtain ⟨vb, i3⟩ := F2.peekA (N := N) (X := X) (by omega)
  obtain ⟨t4, e1, e2, e3⟩ := F2.eachA (N := N) (X := X) (fz := fa (inA code m).2.1) (pl := pl) b2 w2 w3 hi s64 hT.1 hs
  have hT1 : okTy fu (T.1 + 1, T.2) := ⟨hT.1, hs, hT.2.2⟩
  have hstep := r_step (N := N) y4 hT.1 hs
  obtain ⟨x1, x2, x3⟩ := (y4.st).trb (N := N) (k := 8) (q := pl)
  have h317 := r_nextD (N := N) (kx := kx) (y4.st) rfl hstep (Or.inl rfl) hk2 hbd.2.2.1 hi s64 hG9 y6 x1
  have CYd := CX.dropY (J := [(0, [elN y (k / 2)], 0)]) (m' := m) (d' := 1) e1 (fun a ha => by rw [List.mem_singleton.mp ha]; show ¬ (0 : Nat) = 3; decide)
  have h11 : kI t4 49 11 = Int32.ofNat 10 := by
    have : kI t4 49 11 = Int32.ofNat (G.length + 1) := e1.2.1.2.2.2.2.2.2.1
    rw [hG9] at this
    exact this
  refine trob (k := 8) (k0 := 1) (r := Int32.ofNat 0) (by omega) (by omega) (by omega) (j0 := 0) (by omega) CYd (Nat.le_trans C2 (Nat.le_add_right _ _)) x2 x3 ⟨R2.1, Nat.le_trans R2.2 (Nat.le_add_right _ _)⟩ (by intro q; cases q) rfl (K.kt (J := []) rfl hT1 ⟨by show T.1 ≤ T.1 + 1; omega, Nat.le_refl _⟩ (by omega)) (fun t3 ht Q => ?_) (y12 _ 8 ?_ rfl (by omega)) (by omega)
  · rw [D2 Q]
    refine c_rdW (by decide) (by decide) (by decide) ((c_143o F1 i1 i3).trans (c_wk13.trans ?_))
    have e4 := e3 t3 (c_deep h11 ht)
    unfold cf_143_265 cf_143_271 cf_143_296
    rw [e4]
    rfl
  · rw [r_op11 y3 y7]
    unfold mf_313_202 mf_313_207
    rw [h317]
    rfl
theorem n_foldD (hN : 170000 ≤ N) (C : CS t0 t p code Fs fu S0 ((m, 1, vs, (8, [y], k) :: (0, [c], j) :: Iq) :: G) sh T out) (R : RSm s0 s h code Fs fu ((m, 1, vs, (8, [y], k) :: (0, [c], j) :: Iq) :: G) sh T out) (K : CK code Fs fu ((m, 1, vs, (8, [y], k) :: (0, [c], j) :: Iq) :: G) sh T out n) (ho : (inA code m).1 = 10) (hr : (inA code m).2.2.1 = 2) (hk2 : k % 2 = 0) (hi : k / 2 < szN y) (hs : T.1 < fu) (hG9 : G.length = 9) : GO N X t0 s0 p h code Fs fu S0 t s n := by
  obtain ⟨u, w, f, g, C1, C2, C4, R1, R2, R4, P, hm, hcx, hrl, hG, ⟨b1, b2, b6⟩, hT, hol⟩ := open0 C R K
  obtain ⟨ec, er⟩ := cI_10 (code := code) (own := posC code m) (e := h) ho
  have hbd := K.bd
  obtain ⟨y', w1, w3, w4⟩ := P.2.2.2.1.1.2.2.2.2.2 rfl
  have w1 : [y] = [y'] := w1
  have eb : y = y' := by simpa using w1
  subst eb
  have wy : wfN y ∧ y.1 ≤ 4 := by
    refine K.2.2.2.1 y ?_
    rw [cStk_8 (m' := m) (d' := 0)]
    exact List.mem_cons_of_mem _ List.mem_cons_self
  have s64 := wf64 wy.1
  have n1 : ¬ (inA code m).2.2.1 = 1 := by omega
  rw [if_neg n1, if_neg n1] at ec
  generalize (inA code m).2.2.2.2.1 = pl at *
  obtain ⟨D1, D2⟩ := C1.fet (N := N) (X := X) (n := n) (l1 := [((25 : Int32), (0 : Int32), pl)]) (dd := 1) rfl C4 hm ec hcx (by omega)
  obtain ⟨s1, kx, y1, y2, y3, y4, y5, y6, ⟨y7, y8, y9, y10⟩, y11, y12⟩ := R1.fet (N := N) (l1 := [((10 : Int32), Int32.ofNat (27 + (inA code m).2.2.1), (0 : Int32), (0 : Int32), pl)]) (dd := 1) hG rfl R4 hm er hrl
  obtain ⟨F1, F2⟩ := D1.forget (N := N) (X := X)
  obtain ⟨va, i1, i2⟩ := F2.top1 (N := N) (X := X) (cStk_8 (m' := m) (d' := 0))
  obtain ⟨vb, i3⟩ := F2.peekA (N := N) (X := X) (by omega)
  obtain ⟨t4, e1, e2, e3⟩ := F2.foldA (N := N) (X := X) (fz := fa (inA code m).2.1) (pl := pl) b2 w3 hi s64 hT.1 hs
  have hT1 : okTy fu (T.1 + 1, T.2) := ⟨hT.1, hs, hT.2.2⟩
  have hstep := r_step (N := N) y4 hT.1 hs
  obtain ⟨x1, x2, x3⟩ := (y4.st).trb (N := N) (k := 8) (q := pl)
  have h317 := r_nextD (N := N) (kx := kx) (rs := []) (y4.st) rfl hstep (Or.inr rfl) hk2 hbd.2.2.1 hi s64 hG9 y6 x1
  have CYd := CX.dropY (J := [(0, [elN y (k / 2)], 0), (0, [c], 0)]) (m' := m) (d' := 1) e1 (fun a ha => by
    rcases List.mem_cons.mp ha with q | q
    · rw [q]; show ¬ (0 : Nat) = 3; decide
    · rw [List.mem_singleton.mp q]; show ¬ (0 : Nat) = 3; decide)
  have h11 : kI t4 49 11 = Int32.ofNat 10 := by
    have : kI t4 49 11 = Int32.ofNat (G.length + 1) := e1.2.1.2.2.2.2.2.2.1
    rw [hG9] at this
    exact this
  refine trob (k := 8) (k0 := 1) (r := Int32.ofNat 0) (by omega) (by omega) (by omega) (j0 := 0) (by omega) CYd (Nat.le_trans C2 (Nat.le_add_right _ _)) x2 x3 ⟨R2.1, Nat.le_trans R2.2 (Nat.le_add_right _ _)⟩ (by intro q; cases q) rfl (K.kt (J := []) rfl hT1 ⟨by show T.1 ≤ T.1 + 1; omega, Nat.le_refl _⟩ (by omega)) (fun t3 ht Q => ?_) (y12 _ 8 ?_ rfl (by omega)) (by omega)
  · rw [D2 Q]
    refine c_rdW (by decide) (by decide) (by decide) ((c_143o F1 i1 i3).trans (c_wk15.trans ?_))
    have e4 := e3 t3 (c_deep h11 ht)
    unfold cf_143_274 cf_143_280 cf_143_296
    rw [e4]
    rfl
  · rw [r_op11 y3 y7]
    unfold mf_313_202 mf_313_207
    rw [h317]
    rfl
end NXD
