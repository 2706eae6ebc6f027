/-! ===== PURE: run (98): instructions: a minus begins, what is dropped, jumps ===== -/
section IN3
variable {N : Nat} {X : Nat → Option zz_C} {t0 t t1 t2 : cS} {s0 s s' s1 s2 : mS} {u w f f' p h fu m m' d d' n k b z : Nat} {code : List Ins} {Fs : List Fn} {T T' : Ty} {out out' : List Int32} {F G : List Fm} {sh sh' S0 : Nat → Option Nod} {vs vs' : List (Option Nod)} {I I' J : List It} {q r pl kk v : Int32} {it : It} {x : Nod} {l : List Nod} {c : Ins} {L L' : List Nat} {g : Fn} {a a' : Fm}
theorem i_2 (C : CS t0 t p code Fs fu S0 ((m, 0, vs, I) :: G) sh T out) (R : RSm s0 s h code Fs fu ((m, 0, vs, I) :: G) sh T out) (K : CK code Fs fu ((m, 0, vs, I) :: G) sh T out n) (ho : (inA code m).1 = 2) : GO N X t0 s0 p h code Fs fu S0 t s n := by
  obtain ⟨u, w, f, g, C1, C2, C4, R1, R2, R4, P, hm, hcx, hrl, hG, ⟨b1, b2, b6⟩, hT, hol⟩ := open0 C R K
  obtain ⟨ec, er⟩ := cI_2 (code := code) (own := posC code m) (e := h) ho
  obtain ⟨D1, D2⟩ := C1.fet (N := N) (X := X) (n := n) (l1 := []) rfl C4 hm ec hcx (by omega)
  obtain ⟨t2, a1, a2, a3, a4⟩ := D1.push (N := N) (X := X) (m' := m + 1) (d' := 0) (it := (1, [], 0)) (o := some (nZ 0)) (v := tg 0 0) (by omega) cN_Z (by show ¬ (1 : Nat) = 3; decide) rfl
  have ef : eff (inA code m) (kd I) = some (1 :: kd I) := by
    generalize inA code m = c at *
    obtain ⟨o, jj, rr, aa, pp, xx, yy⟩ := c
    have ho : o = 2 := ho
    subst ho
    rfl
  refine goOn (k := 1) (j := 0) (s2 := s) (by omega) (fun Q => ?_) (fun Q x2 => rfl) a2 C2 ?_ (R1.re (a' := (m + 1, 0, vs, (1, [], 0) :: I)) rfl rfl rfl) R2 ?_ (more1 (it := (1, [], 0)) hcx K ef (Or.inr rfl) (fun b z => okZ) rfl gd_Z (by omega))
  · rw [D2 Q]
    clear D1 D2
    generalize jI t 49 17 (Int32.ofNat (posC code m + 0 + 1)) = t1 at *
    refine c_rdM (by decide) (by decide) (c_mv0.trans ?_)
    have eth := c_thing (N := N) (X := X) (t := t1) (k := Int32.ofNat 0) (a := Int32.ofNat 0)
    have a1 : cf_165 N X (tg (Int32.ofNat 0) (Int32.ofNat 0)) t1 = _ := a1
    unfold cf_142_131 cf_142_137 cf_142_140 cf_142_296
    simp (disch := omega) only [ev_S, ev_C, ↓reduceIte, Nat.reduceEqDiff, Nat.reduceLeDiff, Nat.reduceAdd, Nat.reduceMul, Nat.reduceSub, reduceCtorEq, l32_0, l32_1, l32_2, l32_3, l32_4, l32_5, l32_6, l32_7, l32_8, l32_9, l32_10, l32_11, l32_12, l32_13, l32_14, l32_15, l32_16, l32_17, l32_18, l32_19, l32_20, l32_21, l32_22, l32_23, l32_24, l32_25, l32_26, l32_27, l32_28, l32_29, l32_33, l32_40, l32_41, l32_44, l32_45, l32_59, l32_61, l32_91, l32_93, l32_123, l32_125, eth, a1]
  · rw [a3]
    show Int32.ofNat (posC code m + 0 + 1) = Int32.ofNat (posC code (m + 1) + 0)
    rw [posC_s hm, show clen (inA code m) = 1 by unfold clen; rw [ho]; rfl]
  · rw [R4]
    rw [posR_s hm, show rlen (inA code m) = 0 by unfold rlen; rw [ho]; rfl]
    rfl
/-- a statement's last, that takes a value and the step paid -/
theorem payI (K : CK code Fs fu ((m, 0, vs, I) :: G) sh T out n) (P : PL code Fs m vs I g) (h : (inA code m).1 = 11 ∨ (inA code m).1 = 19 ∨ (inA code m).1 = 21 ∨ (inA code m).1 = 22) : ∃ x j y I', I = (0, [x], j) :: y :: I' ∧ y.1 = 5 ∧ lyo (code.take (m + 1)) = some (kd I') ∧ plI I' ∧ okIs code g.2.2.2.2.1 g.2.2.2.2.2 I' ∧ (wfN x ∧ x.1 ≤ 4) := by
  obtain ⟨hl, hp⟩ := K.ly0
  obtain ⟨L', e3, e4⟩ := K.nxt
  have e5 : pay (kd I) = some L' := by
    generalize inA code m = c at *
    obtain ⟨o', jj, rr, aa, pp, xx, yy⟩ := c
    rcases h with z | z | z | z
    · have z : o' = 11 := z
      subst z; exact e3
    · have z : o' = 19 := z
      subst z; exact e3
    · have z : o' = 21 := z
      subst z; exact e3
    · have z : o' = 22 := z
      subst z; exact e3
  obtain ⟨x, j, I1, q1, q2, q3⟩ := kdV0 (pay_eq e5) P.2.2.2.1
  obtain ⟨y, I', r1, r2, r3⟩ := kdC q2
  subst r1
  refine ⟨x, j, y, I', q1, r2, by rw [r3]; exact e4, ?_, q3.2, ?_⟩
  · rw [q1] at hp
    exact hp.tl.tl
  · refine K.2.2.2.1 x ?_
    rw [q1, cStk_cons (m' := m) (d' := 0)]
    exact List.mem_append_left _ List.mem_cons_self
theorem i_22 (C : CS t0 t p code Fs fu S0 ((m, 0, vs, I) :: G) sh T out) (R : RSm s0 s h code Fs fu ((m, 0, vs, I) :: G) sh T out) (K : CK code Fs fu ((m, 0, vs, I) :: G) sh T out n) (ho : (inA code m).1 = 22) : GO N X t0 s0 p h code Fs fu S0 t s n := by
  obtain ⟨u, w, f, g, C1, C2, C4, R1, R2, R4, P, hm, hcx, hrl, hG, ⟨b1, b2, b6⟩, hT, hol⟩ := open0 C R K
  obtain ⟨ec, er⟩ := cI_22 (code := code) (own := posC code m) (e := h) ho
  obtain ⟨D1, D2⟩ := C1.fet (N := N) (X := X) (n := n) (l1 := []) rfl C4 hm ec hcx (by omega)
  obtain ⟨s1, kx, y1, y2, y3, y4, y5, y6, ⟨y7, y8, y9, y10⟩, y11, y12⟩ := R1.fet (N := N) (l1 := []) hG rfl R4 hm er hrl
  obtain ⟨x, j, y, I', q1, q2, q3, q4, q5, q6⟩ := payI K P (by omega)
  have hgd := gd_suf (m' := m + 1) (d' := 0) (J := [((0, [x], j) : It), y]) (I := I') (by have := K.2.2.2.1; rw [q1] at this; exact this)
  have hcr := P.2.2.2.2.2.1 (by omega)
  have hb := P.2.1
  subst q1
  obtain ⟨t2, v, a1, a2, a3, a4, a5⟩ := D1.pop (N := N) (X := X) (m' := m) (d' := 0) (o := some x) (by omega) (by show ¬ (0 : Nat) = 3; decide) rfl
  have CY := a3.no (m' := m + 1) (d' := 0) (Or.inr q2)
  have erl : (rStk ((m, 0, vs, (0, [x], j) :: y :: I') :: G)).length = (rStk ((m, 0, vs, y :: I') :: G)).length + 1 := by
    rw [rStk_cons (m' := m) (d' := 0), List.length_append]
    show 1 + _ = _
    omega
  have RL := y4.lower (b := (m, 0, vs, y :: I')) (l := [x]) (rStk_cons (m' := m) (d' := 0)) rfl (wStk_cons (by show ¬ ((0 : Nat) = 2 ∨ (0 : Nat) = 3 ∨ (0 : Nat) = 6 ∨ (0 : Nat) = 8); decide)).symm
  have RY := RL.no (m' := m + 1) (d' := 0) (Or.inr q2)
  have h51 := y4.2.2
  rw [erl] at h51
  refine goOn (k := 1) (j := 1) (by omega) (fun Q => ?_) (fun Q x2 => y11 _ ?_ RY.1.2.2.1.1 Q x2) CY C2 ?_ RY R2 ?_ (K.to P (by omega) q3 q4 q5 rfl hgd K.2.2.2.2.1 hT ?_ ?_)
  · rw [D2 Q]
    clear D1 D2
    generalize jI t 49 17 (Int32.ofNat (posC code m + 0 + 1)) = t1 at *
    refine c_rdM (by decide) (by decide) (c_mv3.trans ?_)
    unfold cf_142_160 cf_142_164 cf_142_296
    simp (disch := omega) only [ev_S, ev_C, ↓reduceIte, Nat.reduceEqDiff, Nat.reduceLeDiff, Nat.reduceAdd, Nat.reduceMul, Nat.reduceSub, reduceCtorEq, l32_0, l32_1, l32_2, l32_3, l32_4, l32_5, l32_6, l32_7, l32_8, l32_9, l32_10, l32_11, l32_12, l32_13, l32_14, l32_15, l32_16, l32_17, l32_18, l32_19, l32_20, l32_21, l32_22, l32_23, l32_24, l32_25, l32_26, l32_27, l32_28, l32_29, l32_33, l32_40, l32_41, l32_44, l32_45, l32_59, l32_61, l32_91, l32_93, l32_123, l32_125, a1]
  · rw [r_op22 y3 y7]
    generalize (rStk ((m, 0, vs, y :: I') :: G)).length = nr at *
    have sb : Int32.ofNat (nr + 1) - Int32.ofNat 1 = Int32.ofNat nr := by rw [← Int32.ofNat_sub _ _ (by omega)]; rfl
    unfold mf_313_270
    simp (disch := omega) only [ev_S, ev_P, ↓reduceIte, Nat.reduceEqDiff, Nat.reduceLeDiff, Nat.reduceAdd, Nat.reduceMul, Nat.reduceSub, reduceCtorEq, l32_0, l32_1, l32_2, l32_3, l32_4, l32_5, l32_6, l32_7, l32_8, l32_9, l32_10, l32_11, l32_12, l32_13, l32_14, l32_15, l32_16, l32_17, l32_18, l32_19, l32_20, l32_21, l32_22, l32_23, l32_24, l32_25, l32_26, l32_27, l32_28, l32_29, l32_33, l32_40, l32_41, l32_44, l32_45, l32_59, l32_61, l32_91, l32_93, l32_123, l32_125, h51, sb]
  · rw [a4]
    show Int32.ofNat (posC code m + 0 + 1) = Int32.ofNat (posC code (m + 1) + 0)
    rw [posC_s hm, show clen (inA code m) = 1 by unfold clen; rw [ho]; rfl]
  · show s1.1 69 = _
    rw [y5, y1]
    show Int32.ofNat (ob0 h + posR code m + 0 + 1) = Int32.ofNat (ob0 h + posR code (m + 1) + 0)
    rw [posR_s hm, show rlen (inA code m) = 1 by unfold rlen; rw [ho]; rfl]
    rfl
  · have e1 : crI y = 8 := if_pos q2
    have e2 : pvI ((0, [x], j) :: y :: I') = 1 + pvI (y :: I') := rfl
    have e3 : pvI (y :: I') = 0 := by
      show (if _ then _ else if _ then _ else if _ then _ else _) = _
      rw [if_neg (by omega), if_neg (by omega), if_neg (by omega)]
    rw [crL_c, crL_c, e1, e2, e3]
    show 1 + crL I' + 20 * T.1 + 60 * T.2.1 + (1 + 0) ≤ 0 + (8 + crL I') + 20 * T.1 + 60 * T.2.1 + pvI I'
    omega
  · rw [n5I_c, n5I_c, if_pos q2]
    show out.length + 9100 * n5I I' + 9100 * T.1 ≤ out.length + 9100 * (0 + (1 + n5I I')) + 9100 * T.1
    omega
/-- a jump: 14 -/
theorem i_14 (C : CS t0 t p code Fs fu S0 ((m, 0, vs, I) :: G) sh T out) (R : RSm s0 s h code Fs fu ((m, 0, vs, I) :: G) sh T out) (K : CK code Fs fu ((m, 0, vs, I) :: G) sh T out n) (ho : (inA code m).1 = 14) : GO N X t0 s0 p h code Fs fu S0 t s n := by
  obtain ⟨u, w, f, g, C1, C2, C4, R1, R2, R4, P, hm, hcx, hrl, hG, ⟨b1, b2, b6⟩, hT, hol⟩ := open0 C R K
  obtain ⟨ec, er⟩ := cI_14 (code := code) (own := posC code m) (e := h) ho
  obtain ⟨hl, hp⟩ := K.ly0
  obtain ⟨hjb, L', hL', hjl⟩ := P.jmp hl (by unfold noJ; omega)
  have hlen := code_len K.1.1.2.2.1 hcx
  have hzl := (K.1.1.1 g P.1).2.1
  rw [tgC_e (by omega)] at ec
  rw [tgR_e (by omega)] at er
  have hI : ∃ a I', I = a :: I' ∧ (a.1 = 4 ∨ a.1 = 5) ∧ kd I' = L' := by
    rcases hjl with z | ⟨-, z | z⟩ | z | z | z
    · omega
    · obtain ⟨a, I', q1, q2, q3⟩ := kdC z.2
      exact ⟨a, I', q1, Or.inr q2, q3⟩
    · obtain ⟨a, I', q1, q2, q3⟩ := kdC z.2
      exact ⟨a, I', q1, Or.inl q2, q3⟩
    · omega
    · omega
    · omega
  obtain ⟨D1, D2⟩ := C1.fet (N := N) (X := X) (n := n) (l1 := []) rfl C4 hm ec hcx (by omega)
  obtain ⟨s1, kx, y1, y2, y3, y4, y5, y6, ⟨y7, y8, y9, y10⟩, y11, y12⟩ := R1.fet (N := N) (l1 := []) hG rfl R4 hm er hrl
  obtain ⟨a, I', q1, q2, q3⟩ := hI
  have hgd := gd_suf (m' := (inA code m).2.1) (d' := 0) (J := [a]) (I := I') (by have := K.2.2.2.1; rw [q1] at this; exact this)
  subst q1
  generalize hj : (inA code m).2.1 = j at *
  have CY := (D1.pc (z := Int32.ofNat (posC code j)) (Or.inl rfl)).no (m' := j) (d' := 0) q2
  have RY := (y4.pc (z := Int32.ofNat (ob0 h + posR code j))).no (m' := j) (d' := 0) q2
  refine goOn (k := 1) (j := 1) (by omega) (fun Q => ?_) (fun Q x2 => y11 _ ?_ RY.1.2.2.1.1 Q x2) CY C2 rfl RY R2 rfl (K.to P hjb (by rw [q3]; exact hL') hp.tl P.2.2.2.1.2 rfl hgd K.2.2.2.2.1 hT ?_ ?_)
  · rw [D2 Q]
    exact c_rdM (by decide) (by decide) (c_mv4.trans rfl)
  · rw [r_op15 y3 y7]
    unfold mf_313_253
    simp (disch := omega) only [ev_S, ev_P, ↓reduceIte, Nat.reduceEqDiff, Nat.reduceLeDiff, Nat.reduceAdd, Nat.reduceMul, Nat.reduceSub, reduceCtorEq, l32_0, l32_1, l32_2, l32_3, l32_4, l32_5, l32_6, l32_7, l32_8, l32_9, l32_10, l32_11, l32_12, l32_13, l32_14, l32_15, l32_16, l32_17, l32_18, l32_19, l32_20, l32_21, l32_22, l32_23, l32_24, l32_25, l32_26, l32_27, l32_28, l32_29, l32_33, l32_40, l32_41, l32_44, l32_45, l32_59, l32_61, l32_91, l32_93, l32_123, l32_125, y8, l32_8000]
  · have e1 : 1 ≤ crI a := by
      unfold crI
      rcases q2 with z | z
      · rw [if_neg (by omega), if_pos (Or.inr z)]; omega
      · rw [if_pos z]; omega
    have e3 : pvI (a :: I') = 0 := by
      show (if _ then _ else if _ then _ else if _ then _ else _) = _
      rw [if_neg (by omega), if_neg (by omega), if_neg (by omega)]
    rw [crL_c, e3]
    omega
  · rw [n5I_c]
    omega
end IN3
