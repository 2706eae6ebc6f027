/-! ===== PURE: run (100): instructions: a try begins, a try ends ===== -/
section IN4
variable {N : Nat} {X : Nat → Option zz_C} {t0 t t1 t2 : cS} {s0 s s' s1 s2 : mS} {u w f f' p h fu m m' d d' n k b z : Nat} {code : List Ins} {Fs : List Fn} {T T' : Ty} {out out' : List Int32} {F G : List Fm} {sh sh' S0 : Nat → Option Nod} {vs vs' : List (Option Nod)} {I I' J : List It} {q r pl kk v : Int32} {it : It} {x : Nod} {l : List Nod} {c : Ins} {L L' : List Nat} {g : Fn} {a a' : Fm}
/-- a way is laid down: its numbers are v -/
abbrev wyS (s : mS) (n : Nat) (v : Int32 × Int32 × Int32 × Int32 × Int32 × Int32) : mS := mI (mA (mA (mA (mA (mA (mA s 80 (upd (s.2.2.1 80) n v.1)) 81 (upd (s.2.2.1 81) n v.2.1)) 82 (upd (s.2.2.1 82) n v.2.2.1)) 83 (upd (s.2.2.1 83) n v.2.2.2.1)) 84 (upd (s.2.2.1 84) n v.2.2.2.2.1)) 85 (upd (s.2.2.1 85) n v.2.2.2.2.2)) 79 (Int32.ofNat (n + 1))
theorem r_way {x1 x2 x3 x4 : Int32} (h79 : s.1 79 = Int32.ofNat n) (hn : n < 400) : mf_311 N x1 x2 x3 x4 s = some (wyS s n (x1, x2, Int32.ofNat 0, x3, x4, s.1 73), none) := by
  unfold mf_311 mf_311_0
  simp (disch := omega) only [ev_S, ev_P, ↓reduceIte, Nat.reduceEqDiff, Nat.reduceLeDiff, Nat.reduceAdd, Nat.reduceMul, Nat.reduceSub, reduceCtorEq, l32_0, l32_1, l32_2, l32_3, l32_4, l32_5, l32_6, l32_7, l32_8, l32_9, l32_10, l32_11, l32_12, l32_13, l32_14, l32_15, l32_16, l32_17, l32_18, l32_19, l32_20, l32_21, l32_22, l32_23, l32_24, l32_25, l32_26, l32_27, l32_28, l32_29, l32_33, l32_40, l32_41, l32_44, l32_45, l32_59, l32_61, l32_91, l32_93, l32_123, l32_125, h79]
theorem wStk_w (hw : it.1 = 2 ∨ it.1 = 3 ∨ it.1 = 6 ∨ it.1 = 8) : wStk ((m, d, vs, it :: I) :: G) = (it, (rStk ((m', d', vs, I) :: G)).length, G.length + 1) :: wStk ((m', d', vs, I) :: G) := by
  show wIt (rStk G).length (G.length + 1) (it :: I) ++ wStk G = _
  rw [show wIt (rStk G).length (G.length + 1) (it :: I) = (it, (rIt I).length + (rStk G).length, G.length + 1) :: wIt (rStk G).length (G.length + 1) I from if_pos hw]
  show (it, (rIt I).length + (rStk G).length, G.length + 1) :: (wIt _ _ I ++ wStk G) = _
  congr 3
  show _ = (rIt I ++ rStk G).length
  rw [List.length_append]
theorem RXm.way {v : Int32 × Int32 × Int32 × Int32 × Int32 × Int32} (R : RXm s0 s h code Fs fu f ((m, d, vs, I) :: G) sh T out) (hw : it.1 = 2 ∨ it.1 = 3 ∨ it.1 = 6 ∨ it.1 = 8) (hi : iR it = []) (hv : wayP (s.2.2.1 47) f h code v (it, (rStk ((m, d, vs, I) :: G)).length, G.length + 1)) : RXm s0 (wyS s (wStk ((m, d, vs, I) :: G)).length v) h code Fs fu f ((m', d', vs, it :: I) :: G) sh T out := by
  obtain ⟨r1, ⟨b1, b2, b3, b4, b5, b6, b7, b8⟩, r3⟩ := R
  have eW := wStk_w (m := m') (d := d') (m' := m) (d' := d) (vs := vs) (I := I) (G := G) hw
  have eR : rStk ((m', d', vs, it :: I) :: G) = rStk ((m, d, vs, I) :: G) := by rw [rStk_cons (m' := m) (d' := d), hi]; rfl
  refine ⟨r1.keep ⟨⟨fun q r => ?_, fun _ _ => rfl, fun q r => ?_, fun _ _ => rfl⟩, fun _ _ => rfl⟩ (fun q r => ?_) rfl, ⟨by rw [eR]; exact b1, rFr.loc (s := s) (fun q q1 q2 y hy => ?_) (fun y hy => ⟨rfl, rfl⟩) (Nat.le_refl _) (fun _ _ => rfl) (F := (m', d', vs, it :: I) :: G) (rFr.hd (a := (m, d, vs, I)) rfl b2), ?_, b4, b5, b6, ?_, b8⟩, by rw [eR]; exact r3⟩
  · unfold iRn at r
    exact if_neg (by omega)
  · unfold aRn at r
    show (if q = 85 then _ else if q = 84 then _ else if q = 83 then _ else if q = 82 then _ else if q = 81 then _ else if q = 80 then _ else s.2.2.1 q) = _
    rw [if_neg (by omega), if_neg (by omega), if_neg (by omega), if_neg (by omega), if_neg (by omega), if_neg (by omega)]
  · exact if_neg (by omega)
  · show (if q = 85 then _ else if q = 84 then _ else if q = 83 then _ else if q = 82 then _ else if q = 81 then _ else if q = 80 then _ else s.2.2.1 q) y = _
    rw [if_neg (by omega), if_neg (by omega), if_neg (by omega), if_neg (by omega), if_neg (by omega), if_neg (by omega)]
  · rw [eW]
    refine ⟨?_, b3.mono (fun _ _ _ z => z) (fun i hi => ?_)⟩
    · show wayP (s.2.2.1 47) f h code ((if _ = _ then v.1 else _), (if _ = _ then v.2.1 else _), (if _ = _ then v.2.2.1 else _), (if _ = _ then v.2.2.2.1 else _), (if _ = _ then v.2.2.2.2.1 else _), (if _ = _ then v.2.2.2.2.2 else _)) _
      rw [if_pos rfl, if_pos rfl, if_pos rfl, if_pos rfl, if_pos rfl, if_pos rfl]
      exact hv
    · show ((if i = _ then _ else _), (if i = _ then _ else _), (if i = _ then _ else _), (if i = _ then _ else _), (if i = _ then _ else _), (if i = _ then _ else _)) = _
      rw [if_neg (by omega), if_neg (by omega), if_neg (by omega), if_neg (by omega), if_neg (by omega), if_neg (by omega)]
  · rw [eW]
    rfl
theorem RXm.unway (R : RXm s0 s h code Fs fu f ((m, d, vs, it :: I) :: G) sh T out) (hw : it.1 = 2 ∨ it.1 = 3 ∨ it.1 = 6 ∨ it.1 = 8) (hi : iR it = []) : RXm s0 (mI s 79 (Int32.ofNat (wStk ((m', d', vs, I) :: G)).length)) h code Fs fu f ((m', d', vs, I) :: G) sh T out := by
  obtain ⟨r1, ⟨b1, b2, b3, b4, b5, b6, b7, b8⟩, r3⟩ := R
  have eW := wStk_w (m := m) (d := d) (m' := m') (d' := d') (vs := vs) (I := I) (G := G) hw
  have eR : rStk ((m, d, vs, it :: I) :: G) = rStk ((m', d', vs, I) :: G) := by rw [rStk_cons (m' := m') (d' := d'), hi]; rfl
  rw [eW] at b3
  rw [eR] at b1 r3
  exact ⟨r1.I (by omega), ⟨b1, rFr.loc (s := s) (fun _ _ _ _ _ => rfl) (fun _ _ => ⟨rfl, rfl⟩) (Nat.le_refl _) (fun _ _ => rfl) (F := (m', d', vs, I) :: G) (rFr.hd (a := (m, d, vs, it :: I)) rfl b2), b3.2, b4, b5, b6, rfl, b8⟩, r3⟩
/-- a try ends: 24 -/
theorem i_24 (C : CS t0 t p code Fs fu S0 ((m, 0, vs, I) :: G) sh T out) (R : RSm s0 s h code Fs fu ((m, 0, vs, I) :: G) sh T out) (K : CK code Fs fu ((m, 0, vs, I) :: G) sh T out n) (ho : (inA code m).1 = 24) : GO N X t0 s0 p h code Fs fu S0 t s n := by
  obtain ⟨u, w, f, g, C1, C2, C4, R1, R2, R4, P, hm, hcx, hrl, hG, ⟨b1, b2, b6⟩, hT, hol⟩ := open0 C R K
  obtain ⟨ec, er⟩ := cI_24 (code := code) (own := posC code m) (e := h) ho
  obtain ⟨hl, hp⟩ := K.ly0
  obtain ⟨hjb, L', hL', hjl⟩ := P.jmp hl (by unfold noJ; omega)
  have hlen := code_len K.1.1.2.2.1 hcx
  have hzl := (K.1.1.1 g P.1).2.1
  have hbd := K.bd
  rw [tgC_e (by omega)] at ec
  rw [tgR_e (by omega)] at er
  have hI : ∃ a I', I = a :: I' ∧ a.1 = 3 ∧ kd I' = L' := by
    rcases hjl with z | z | z | z | z
    · omega
    · omega
    · omega
    · omega
    · obtain ⟨a, I', q1, q2, q3⟩ := kdC z.2
      exact ⟨a, I', q1, q2, q3⟩
  obtain ⟨D1, D2⟩ := C1.fet (N := N) (X := X) (n := n) (l1 := []) rfl C4 hm ec hcx (by omega)
  obtain ⟨s1, kx, y1, y2, y3, y4, y5, y6, ⟨y7, y8, y9, y10⟩, y11, y12⟩ := R1.fet (N := N) (l1 := []) hG rfl R4 hm er hrl
  obtain ⟨a, I', q1, q2, q3⟩ := hI
  have hgd := gd_suf (m' := (inA code m).2.1) (d' := 0) (J := [a]) (I := I') (by have := K.2.2.2.1; rw [q1] at this; exact this)
  subst q1
  generalize hj : (inA code m).2.1 = j at *
  have hCi : iC a = [] := by
    unfold iC
    rw [if_neg (by omega), if_neg (by omega), if_neg (by omega)]
  have hRi : iR a = [] := by
    unfold iR
    rw [if_neg (by omega), if_neg (by omega)]
  have eC : cStk ((m, 0, vs, a :: I') :: G) = [] ++ cStk ((j, 0, vs, I') :: G) := by rw [cStk_cons (m' := j) (d' := 0), hCi]
  have eT : tStk ((m, 0, vs, a :: I') :: G) = (a.2.2, (cIt I').length + (vs.length + (cStk G).length), G.length + 1) :: tStk ((j, 0, vs, I') :: G) := by
    show tIt _ _ (a :: I') ++ _ = _
    rw [show tIt (vs.length + (cStk G).length) (G.length + 1) (a :: I') = (a.2.2, (cIt I').length + (vs.length + (cStk G).length), G.length + 1) :: tIt (vs.length + (cStk G).length) (G.length + 1) I' from if_pos q2]
    rfl
  have hD1 := D1
  obtain ⟨⟨x1, x2, x3, x4, x5, x6⟩, ⟨z1, z2, z3, z4, z5, z6, z7, z8⟩, x7, x8⟩ := hD1
  rw [eT] at z3 z8
  generalize ht1 : jI t 49 17 (Int32.ofNat (posC code m + 0 + 1)) = t1 at *
  have CY : CX t0 (jI (jI t1 49 15 (Int32.ofNat (tStk ((j, 0, vs, I') :: G)).length)) 49 17 (Int32.ofNat (posC code j))) p code Fs fu S0 u w ((j, 0, vs, I') :: G) sh T out := D1.cy.tk (T' := T) ((g89 (Or.inr rfl)).tr2 (g89 (Or.inr rfl))) x2 x3 x5 eC z2 z3.2 (by rw [eT, List.length_cons]; omega) (by rw [eC] at x8; exact x8) z7 rfl
  have RY := (y4.unway (m' := j) (d' := 0) (Or.inr (Or.inl q2)) hRi).pc (z := Int32.ofNat (ob0 h + posR code j))
  refine goOn (k := 1) (j := 1) (by omega) (fun Q => ?_) (fun Q x2 => y11 _ ?_ RY.1.2.2.1.1 Q x2) CY C2 rfl RY R2 rfl (K.to P hjb (by rw [q3]; exact hL') hp.tl P.2.2.2.1.2 rfl hgd K.2.2.2.2.1 hT ?_ ?_)
  · rw [D2 Q]
    refine c_rdM (by decide) (by decide) (c_mv11.trans ?_)
    have z8 : kI t1 49 15 = Int32.ofNat ((tStk ((j, 0, vs, I') :: G)).length + 1) := z8
    have hlt : (tStk ((j, 0, vs, I') :: G)).length + 1 ≤ 110 := by
      have := hbd.2.2.2.1
      rw [eT, List.length_cons] at this
      exact this
    clear CY z3 eT
    generalize (tStk ((j, 0, vs, I') :: G)).length = nt at *
    have sb : Int32.ofNat (nt + 1) - Int32.ofNat 1 = Int32.ofNat nt := by rw [← Int32.ofNat_sub _ _ (by omega)]; rfl
    have ng : ¬ nt < 0 := by omega
    unfold cf_142_251 cf_142_296
    simp (disch := omega) only [ev_S, ev_C, ↓reduceIte, Nat.reduceEqDiff, Nat.reduceLeDiff, Nat.reduceAdd, Nat.reduceMul, Nat.reduceSub, reduceCtorEq, l32_0, l32_1, l32_2, l32_3, l32_4, l32_5, l32_6, l32_7, l32_8, l32_9, l32_10, l32_11, l32_12, l32_13, l32_14, l32_15, l32_16, l32_17, l32_18, l32_19, l32_20, l32_21, l32_22, l32_23, l32_24, l32_25, l32_26, l32_27, l32_28, l32_29, l32_33, l32_40, l32_41, l32_44, l32_45, l32_59, l32_61, l32_91, l32_93, l32_123, l32_125, z8, sb, ng]
  · rw [r_op24 y3 y7]
    have h79 := y4.2.1.2.2.2.2.2.2.1
    have eW := wStk_w (m := m) (d := 0) (m' := j) (d' := 0) (vs := vs) (I := I') (G := G) (it := a) (Or.inr (Or.inl q2))
    have hlt : (wStk ((j, 0, vs, I') :: G)).length + 1 ≤ 110 := by
      have := hbd.2.2.1
      rw [eW, List.length_cons] at this
      exact this
    rw [eW, List.length_cons] at h79
    clear RY eW
    generalize (wStk ((j, 0, vs, I') :: G)).length = nt at *
    have sb : Int32.ofNat (nt + 1) - Int32.ofNat 1 = Int32.ofNat nt := by rw [← Int32.ofNat_sub _ _ (by omega)]; rfl
    unfold mf_313_318
    simp (disch := omega) only [ev_S, ev_P, ↓reduceIte, Nat.reduceEqDiff, Nat.reduceLeDiff, Nat.reduceAdd, Nat.reduceMul, Nat.reduceSub, reduceCtorEq, l32_0, l32_1, l32_2, l32_3, l32_4, l32_5, l32_6, l32_7, l32_8, l32_9, l32_10, l32_11, l32_12, l32_13, l32_14, l32_15, l32_16, l32_17, l32_18, l32_19, l32_20, l32_21, l32_22, l32_23, l32_24, l32_25, l32_26, l32_27, l32_28, l32_29, l32_33, l32_40, l32_41, l32_44, l32_45, l32_59, l32_61, l32_91, l32_93, l32_123, l32_125, h79, sb, y8, l32_8000]
  · have e1 : crI a = 2 := by
      unfold crI
      rw [if_neg (by omega), if_pos (Or.inl q2)]
    have e3 : pvI (a :: I') = 0 := by
      show (if _ then _ else if _ then _ else if _ then _ else _) = _
      rw [if_neg (by omega), if_neg (by omega), if_neg (by omega)]
    rw [crL_c, e3]
    omega
  · rw [n5I_c]
    omega
/-- a try begins: 23 -/
theorem i_23 (C : CS t0 t p code Fs fu S0 ((m, 0, vs, I) :: G) sh T out) (R : RSm s0 s h code Fs fu ((m, 0, vs, I) :: G) sh T out) (K : CK code Fs fu ((m, 0, vs, I) :: G) sh T out n) (ho : (inA code m).1 = 23) : GO N X t0 s0 p h code Fs fu S0 t s n := by
  obtain ⟨u, w, f, g, C1, C2, C4, R1, R2, R4, P, hm, hcx, hrl, hG, ⟨b1, b2, b6⟩, hT, hol⟩ := open0 C R K
  obtain ⟨ec, er⟩ := cI_23 (code := code) (own := posC code m) (e := h) ho
  obtain ⟨hl, hp⟩ := K.ly0
  obtain ⟨hjb, L', hL', hjl⟩ := P.jmp hl (by unfold noJ; omega)
  have h25 : (inA code (inA code m).2.1).1 = 25 ∧ (inA code (inA code m).2.1).2.2.1 = (inA code m).2.2.1 ∧ (inA code (inA code m).2.1).2.2.2.2.1 = (inA code m).2.2.2.2.1 := by
    rcases P.2.2.2.2.2.2 m P.2.1.1 P.2.1.2.1 with z | z
    · exact absurd z (by unfold noJ; show ¬ ¬ ((inA code m).1 = 13 ∨ (inA code m).1 = 14 ∨ (inA code m).1 = 18 ∨ (inA code m).1 = 23 ∨ (inA code m).1 = 24); omega)
    · exact z.2.2.1 ho
  have hlen := code_len K.1.1.2.2.1 hcx
  have hzl := (K.1.1.1 g P.1).2.1
  have hbd := K.bd
  have hnx := P.2.2.2.2.2.1 (by omega)
  have hpb := P.2.1
  rw [tgC_e (by omega)] at ec
  rw [tgR_e (by omega)] at er
  obtain ⟨M, hM1, hM2⟩ : ∃ M, kd I = 5 :: M ∧ L' = 9 :: M := by
    rcases hjl with z | z | z | ⟨-, z⟩ | z
    · omega
    · omega
    · omega
    · exact z
    · omega
  obtain ⟨a, I', q1, q2, q3⟩ := kdC hM1
  obtain ⟨L2, e3, e4⟩ := K.nxt
  have e5 : L2 = 3 :: kd I' := by
    generalize inA code m = c at *
    obtain ⟨o', jj, rr, aa, pp, xx, yy⟩ := c
    have z : o' = 23 := ho
    subst z
    rw [hM1] at e3
    have e3 : (if nF M < 10 then some (3 :: M) else none) = some L2 := e3
    split at e3
    · rw [q3]; exact (Option.some.inj e3).symm
    · cases e3
  obtain ⟨D1, D2⟩ := C1.fet (N := N) (X := X) (n := n) (l1 := []) rfl C4 hm ec hcx (by omega)
  obtain ⟨s1, kx, y1, y2, y3, y4, y5, y6, ⟨y7, y8, y9, y10⟩, y11, y12⟩ := R1.fet (N := N) (l1 := []) hG rfl R4 hm er hrl
  have hgd := gd_suf (m' := m + 1) (d' := 0) (J := [a]) (I := I') (by have := K.2.2.2.1; rw [q1] at this; exact this)
  subst q1
  have D1n := D1.no (m' := m) (d' := 0) (Or.inr q2)
  have y4n := y4.no (m' := m) (d' := 0) (Or.inr q2)
  have htl : (tStk ((m, 0, vs, I') :: G)).length ≤ 110 := by
    have := hbd.2.2.2.1
    rw [tStk_cons (m' := m) (d' := 0) (by omega)] at this
    exact this
  have hwl : (wStk ((m, 0, vs, I') :: G)).length ≤ 110 := by
    have := hbd.2.2.1
    rw [wStk_cons (m' := m) (d' := 0) (by omega)] at this
    exact this
  have hcl : (cStk ((m, 0, vs, I') :: G)).length ≤ 17500 := by
    rw [cStk_cons (m' := m) (d' := 0), List.length_append] at b2
    omega
  obtain ⟨t2, a1, a2, a3⟩ := D1n.tryB (N := N) (X := X) (m' := m + 1) (d' := 0) (m0 := m) htl hcl hG
  have h73 : s1.1 73 = Int32.ofNat (G.length + 1) := y4.2.1.2.2.2.2.2.1
  have RY := y4n.way (m' := m + 1) (d' := 0) (it := (3, [], m)) (v := (Int32.ofNat 2, Int32.ofNat (ob0 h + posR code (inA code m).2.1), Int32.ofNat (inA code m).2.2.1, (inA code m).2.2.2.2.1, Int32.ofNat (rStk ((m, 0, vs, I') :: G)).length, Int32.ofNat (G.length + 1))) (Or.inr (Or.inl rfl)) rfl ⟨fun q => (by cases q), fun _ => rfl, fun q => (by rcases q with q | q <;> cases q)⟩
  refine goOn (k := 1) (j := 1) (by omega) (fun Q => ?_) (fun Q x2 => y11 _ ?_ RY.1.2.2.1.1 Q x2) a2 C2 ?_ RY R2 ?_ (K.to P (by omega) (by rw [e4, e5]; rfl) ?_ ?_ rfl ?_ K.2.2.2.2.1 hT ?_ ?_)
  · rw [D2 Q]
    clear D1 D2
    generalize jI t 49 17 (Int32.ofNat (posC code m + 0 + 1)) = t1 at *
    refine c_rdM (by decide) (by decide) (c_mv10.trans ?_)
    unfold cf_142_243 cf_142_248 cf_142_296
    simp (disch := omega) only [ev_S, ev_C, ↓reduceIte, Nat.reduceEqDiff, Nat.reduceLeDiff, Nat.reduceAdd, Nat.reduceMul, Nat.reduceSub, reduceCtorEq, l32_0, l32_1, l32_2, l32_3, l32_4, l32_5, l32_6, l32_7, l32_8, l32_9, l32_10, l32_11, l32_12, l32_13, l32_14, l32_15, l32_16, l32_17, l32_18, l32_19, l32_20, l32_21, l32_22, l32_23, l32_24, l32_25, l32_26, l32_27, l32_28, l32_29, l32_33, l32_40, l32_41, l32_44, l32_45, l32_59, l32_61, l32_91, l32_93, l32_123, l32_125, a1]
  · rw [r_op23 y3 y7]
    have h79 := y4n.2.1.2.2.2.2.2.2.1
    have h51 := y4n.2.2
    clear RY a2 a1
    generalize (wStk ((m, 0, vs, I') :: G)).length = nw at *
    generalize (rStk ((m, 0, vs, I') :: G)).length = nr at *
    have hw := r_way (N := N) (x1 := Int32.ofNat 2) (x2 := Int32.ofNat (ob0 h + posR code (inA code m).2.1)) (x3 := (inA code m).2.2.2.2.1) (x4 := Int32.ofNat nr) h79 (by omega)
    rw [h73] at hw
    have sb : Int32.ofNat (nw + 1) - Int32.ofNat 1 = Int32.ofNat nw := by rw [← Int32.ofNat_sub _ _ (by omega)]; rfl
    generalize ob0 h + posR code (inA code m).2.1 = tgt at *
    generalize (inA code m).2.2.1 = vr at *
    generalize (inA code m).2.2.2.2.1 = pl at *
    have E : mf_313_281 N (Int32.ofNat kx) s1 = mf_313_300 N (Int32.ofNat kx) (wyS s1 nw (Int32.ofNat 2, Int32.ofNat tgt, Int32.ofNat 0, pl, Int32.ofNat nr, Int32.ofNat (G.length + 1))) := by
      unfold mf_313_281
      simp (disch := omega) only [ev_S, ev_P, ↓reduceIte, Nat.reduceEqDiff, Nat.reduceLeDiff, Nat.reduceAdd, Nat.reduceMul, Nat.reduceSub, reduceCtorEq, l32_0, l32_1, l32_2, l32_3, l32_4, l32_5, l32_6, l32_7, l32_8, l32_9, l32_10, l32_11, l32_12, l32_13, l32_14, l32_15, l32_16, l32_17, l32_18, l32_19, l32_20, l32_21, l32_22, l32_23, l32_24, l32_25, l32_26, l32_27, l32_28, l32_29, l32_33, l32_40, l32_41, l32_44, l32_45, l32_59, l32_61, l32_91, l32_93, l32_123, l32_125, y8, y6, h51, hw, l32_8000]
    rw [E]
    have f25 : (wyS s1 nw (Int32.ofNat 2, Int32.ofNat tgt, Int32.ofNat 0, pl, Int32.ofNat nr, Int32.ofNat (G.length + 1))).2.2.1 25 kx = Int32.ofNat vr := y9
    have f79 : (wyS s1 nw (Int32.ofNat 2, Int32.ofNat tgt, Int32.ofNat 0, pl, Int32.ofNat nr, Int32.ofNat (G.length + 1))).1 79 = Int32.ofNat (nw + 1) := rfl
    have E2 : mf_313_300 N (Int32.ofNat kx) (wyS s1 nw (Int32.ofNat 2, Int32.ofNat tgt, Int32.ofNat 0, pl, Int32.ofNat nr, Int32.ofNat (G.length + 1))) = some (mA (wyS s1 nw (Int32.ofNat 2, Int32.ofNat tgt, Int32.ofNat 0, pl, Int32.ofNat nr, Int32.ofNat (G.length + 1))) 82 (upd ((wyS s1 nw (Int32.ofNat 2, Int32.ofNat tgt, Int32.ofNat 0, pl, Int32.ofNat nr, Int32.ofNat (G.length + 1))).2.2.1 82) nw (Int32.ofNat vr)), none) := by
      unfold mf_313_300
      simp (disch := omega) only [ev_S, ev_P, ↓reduceIte, Nat.reduceEqDiff, Nat.reduceLeDiff, Nat.reduceAdd, Nat.reduceMul, Nat.reduceSub, reduceCtorEq, l32_0, l32_1, l32_2, l32_3, l32_4, l32_5, l32_6, l32_7, l32_8, l32_9, l32_10, l32_11, l32_12, l32_13, l32_14, l32_15, l32_16, l32_17, l32_18, l32_19, l32_20, l32_21, l32_22, l32_23, l32_24, l32_25, l32_26, l32_27, l32_28, l32_29, l32_33, l32_40, l32_41, l32_44, l32_45, l32_59, l32_61, l32_91, l32_93, l32_123, l32_125, f25, f79, sb, l32_8000]
    rw [E2]
    congr 2
    refine Prod.ext rfl (Prod.ext rfl (Prod.ext ?_ rfl))
    funext q y
    show (if q = 82 then upd (upd (s1.2.2.1 82) nw (Int32.ofNat 0)) nw (Int32.ofNat vr) else if q = 85 then _ else if q = 84 then _ else if q = 83 then _ else if q = 82 then _ else if q = 81 then _ else if q = 80 then _ else s1.2.2.1 q) y = (if q = 85 then _ else if q = 84 then _ else if q = 83 then _ else if q = 82 then _ else if q = 81 then _ else if q = 80 then _ else s1.2.2.1 q) y
    by_cases c : q = 82
    · rw [if_pos c, if_neg (by omega), if_neg (by omega), if_neg (by omega), if_pos c]
      show (if y = nw then _ else if y = nw then _ else _) = (if y = nw then _ else _)
      by_cases e : y = nw
      · rw [if_pos e, if_pos e]
      · rw [if_neg e, if_neg e, if_neg e]
    · rw [if_neg c, if_neg c, if_neg c]
  · rw [a3]
    show Int32.ofNat (posC code m + 0 + 1) = Int32.ofNat (posC code (m + 1) + 0)
    rw [posC_s hm, show clen (inA code m) = 1 by unfold clen; rw [ho]; rfl]
  · show s1.1 69 = _
    rw [y5, y1]
    show Int32.ofNat (ob0 h + posR code m + 0 + 1) = Int32.ofNat (ob0 h + posR code (m + 1) + 0)
    rw [posR_s hm, show rlen (inA code m) = 1 by unfold rlen; rw [ho]; rfl]
    rfl
  · intro y hy
    rcases List.mem_cons.mp hy with q | q
    · rw [q]; show (3 : Nat) ≤ 5; omega
    · exact hp.tl y q
  · refine ⟨⟨by show (3 : Nat) ≤ 8; omega, fun q => ?_, fun q => ?_, fun _ => ⟨hm, ho, hjb.1, hjb.2, h25.1, h25.2.1, h25.2.2, ?_⟩, fun q => ?_, fun q => ?_⟩, P.2.2.2.1.2⟩
    · rcases q with q | q <;> cases q
    · cases q
    · show lyo (code.take (inA code m).2.1) = some (9 :: kd I')
      rw [hL', hM2, q3]
    · cases q
    · cases q
  · rw [cStk_cons (m' := m + 1) (d' := 0)]
    exact hgd
  · have e1 : crI a = 8 := if_pos q2
    have e2 : crI (3, [], m) = 2 := rfl
    have e3 : pvI (a :: I') = 0 := by
      show (if _ then _ else if _ then _ else if _ then _ else _) = _
      rw [if_neg (by omega), if_neg (by omega), if_neg (by omega)]
    rw [crL_c, crL_c, e1, e2, e3]
    omega
  · rw [n5I_c, n5I_c, if_pos q2]
    show out.length + 9100 * (0 + n5I I') + 9100 * T.1 ≤ out.length + 9100 * (1 + n5I I') + 9100 * T.1
    omega
end IN4
