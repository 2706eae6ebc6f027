/-! ===== PURE: run (116): instructions: a for's next ===== -/
section FOT
variable {N : Nat} {X : Nat → Option zz_C} {t0 t t1 t2 : cS} {s0 s s' s1 s2 : mS} {u w f f' p h fu m m' d d' n k b z j : Nat} {code : List Ins} {Fs : List Fn} {T T' : Ty} {out out' : List Int32} {F G : List Fm} {sh sh' S0 : Nat → Option Nod} {vs vs' : List (Option Nod)} {I I' J : List It} {q r pl kk v : Int32} {x : Nod} {L L' : List Nat} {g : Fn}
theorem i_18 (hN : 170000 ≤ N) (C : CS t0 t p code Fs fu S0 ((m, 0, vs, I) :: G) sh T out) (R : RSm s0 s h code Fs fu ((m, 0, vs, I) :: G) sh T out) (K : CK code Fs fu ((m, 0, vs, I) :: G) sh T out n) (ho : (inA code m).1 = 18) : GO N X t0 s0 p h code Fs fu S0 t s n := by
  obtain ⟨u, w, f, g, C1, C2, C4, R1, R2, R4, P, hm, hcx, hrl, hG, ⟨b1, b2, b6⟩, hT, hol⟩ := open0 C R K
  obtain ⟨ec, er⟩ := cI_18 (code := code) (own := posC code m) (e := h) ho
  obtain ⟨hl, hp⟩ := K.ly0
  obtain ⟨hjb, L', hL', hjl⟩ := P.jmp hl (by unfold noJ; omega)
  obtain ⟨L2, z3, z4⟩ := K.nxt
  have hlen := code_len K.1.1.2.2.1 hcx
  have hzl := (K.1.1.1 g P.1).2.1
  have hbd := K.bd
  have hnx := P.2.2.2.2.2.1 (by omega)
  have hpb := P.2.1
  have hrr : (inA code m).2.2.1 < 8 + vs.length := P.2.2.2.2.1.1 (by omega)
  have hv14 := P.2.2.1.2
  rw [tgC_e (by omega)] at ec
  rw [tgR_e (by omega)] at er
  obtain ⟨hI, z5⟩ : kd I = 2 :: L' ∧ L2 = 5 :: 2 :: L' := by
    have h2 : kd I = 2 :: L' := by
      rcases hjl with z | z | z | z | z
      · omega
      · omega
      · exact z.2
      · omega
      · omega
    refine ⟨h2, ?_⟩
    generalize inA code m = c at *
    obtain ⟨o', jj, r0, aa, pp, xx, yy⟩ := c
    have z : o' = 18 := ho
    subst z
    have z3 : (match (generalizing := false) kd I with | 2 :: M => some (5 :: 2 :: M) | _ => none) = some L2 := z3
    rw [h2] at z3
    exact (Option.some.inj z3).symm
  obtain ⟨a, I', q1, q2, q3⟩ := kdC hI
  subst q1
  obtain ⟨x, hx1, hx2, hx3⟩ := P.2.2.2.1.1.2.2.1 q2
  obtain ⟨a1, a2, i⟩ := a
  have q2 : a1 = 2 := q2
  have hx1 : a2 = [x] := hx1
  subst q2 hx1
  have hn : kn x = 0 → ¬ ivN x < 0 := fun c => (hx2 c).1
  have hil : i ≤ lim x := by
    unfold lim
    split
    · rename_i c
      exact (hx2 c).2
    · rename_i c
      exact hx3 c
  have hx : wfN x ∧ x.1 ≤ 4 := by
    refine K.2.2.2.1 x ?_
    rw [cStk_2 (m' := m) (d' := 0)]
    exact List.mem_cons_of_mem _ List.mem_cons_self
  have hgd := gd_suf (m' := m) (d' := 0) (J := [((2, [x], i) : It)]) (I := I') K.2.2.2.1
  generalize (inA code m).2.2.2.2.1 = pl at *
  generalize hrr0 : (inA code m).2.2.1 = rr at *
  generalize hj : (inA code m).2.1 = j at *
  obtain ⟨D1, D2⟩ := C1.fet (N := N) (X := X) (n := n) (l1 := []) rfl C4 hm ec hcx (by omega)
  obtain ⟨s1, kx, y1, y2, y3, y4, y5, y6, ⟨y7, y8, y9, y10⟩, y11, y12⟩ := R1.fet (N := N) (l1 := []) hG rfl R4 hm er hrl
  have hop : mf_313 N (Int32.ofNat kx) s1 = mf_313_264 N (Int32.ofNat kx) s1 := r_op18 y3 y7
  have hop2 : ∀ s3, mf_315 N (Int32.ofNat kx) s1 = some (s3, none) → mf_313 N (Int32.ofNat kx) s1 = some (s3, none) := fun s3 e => by
    rw [hop]
    unfold mf_313_264 mf_313_269
    rw [e]
    rfl
  by_cases hs : T.1 < fu
  · have hst := c_step (N := N) (X := X) (t := jI t 49 17 (Int32.ofNat (posC code m + 0 + 1))) (q := pl) D1.1.2.1.1 D1.1.2.1.2.1 hT.1 hs
    have hT1 : okTy fu (T.1 + 1, T.2) := ⟨hT.1, hs, hT.2.2⟩
    have h30 := hT.2.2.1
    have hstep := r_step (N := N) y4 hT.1 hs
    obtain ⟨c1, c2⟩ := (D1.st).forG (N := N) (X := X) (gt := Int32.ofNat (posC code j)) (m' := j) (d' := 0) b2 hx.1 hn
    obtain ⟨r1, r2⟩ := (y4.st).forG (N := N) (m' := m) (d' := 0) hstep y3 y8 y9 b1 hbd.2.2.1 hx.1 hn hil (by omega) hG (by omega)
    obtain ⟨-, r2'⟩ := (y4.st).forG (N := N) (m' := j) (d' := 0) hstep y3 y8 y9 b1 hbd.2.2.1 hx.1 hn hil (by omega) hG (by omega)
    have hfirst : ∀ t3, cf_152 N X (Int32.ofNat (posC code j)) (jI (jI t 49 17 (Int32.ofNat (posC code m + 0 + 1))) 48 2 (Int32.ofNat (T.1 + 1))) = some (t3, .inl none) → ∀ Q, cf_141_L4 N X (Q + 1) 0 (Int32.ofNat n) t = cf_141_L4 N X Q 0 (Int32.ofNat (n + 1)) t3 := fun t3 ht Q => by
      rw [D2 Q]
      refine c_rdSM (by decide) (by decide) (by decide) hst (c_mv27.trans ?_)
      unfold cf_142_193 cf_142_198
      rw [ht]
      rfl
    by_cases hi : i < lim x
    · -- it goes on
      obtain ⟨t4, e1, e2, e3⟩ := c1 hi
      obtain ⟨s3, k3, v3, f1, f2, f3, f4⟩ := r1 hi
      have hel := elN_ok hx hi
      have p17 : kI t4 49 17 = Int32.ofNat (posC code m + 1) := e3
      obtain ⟨E1, E2⟩ := e2.fet (N := N) (X := X) (n := n + 1) (l1 := [((27 : Int32), Int32.ofNat (posC code j), pl)]) (dd := 1) rfl p17 hm ec hcx (by omega)
      obtain ⟨t5, g1, g2, g3, -⟩ := E1.store (N := N) (X := X) (m' := m) (d' := 0) (r := rr) (by rw [cStk_cons (m' := m) (d' := 0), cStk_2 (m' := m) (d' := 0)]; rw [cStk_2 (m' := m) (d' := 0)] at b2; show (cStk ((m, 0, vs, I') :: G)).length + 1 + 1 + 1 ≤ _; have b2 : (cStk ((m, 0, vs, I') :: G)).length + 1 + 1 ≤ 17500 := b2; omega) hG hrr hv14
      have CY := g2.yes (m' := m + 1) (d' := 0) (it := (5, [], 0)) (Or.inr rfl)
      have RY := (f2.store (m' := m) (d' := 0) f3 hrr hv14).yes (m' := m + 1) (d' := 0) (it := (5, [], 0)) (Or.inr rfl)
      refine goOn (k := 2) (j := 1) (by omega) (fun Q => ?_) (fun Q x2 => y11 _ (hop2 _ f1) RY.1.2.2.1.1 Q x2) CY C2 ?_ RY R2 ?_ (K.to P (by omega) (I' := (5, [], 0) :: (2, [x], i + 1) :: I') (by rw [z4, z5, ← q3]; rfl) ?_ ⟨ok5, ?_, P.2.2.2.1.2⟩ stV_len ?_ (sh_stS K.2.2.2.2.1 hel) hT1 ?_ ?_)
      · rw [show Q + 2 = Q + 1 + 1 from rfl, hfirst _ e1 (Q + 1), E2 Q]
        refine c_rdM (by decide) (by decide) (c_mv2.trans ?_)
        clear E1 E2 D1 D2 CY RY g2
        generalize jI t4 49 17 (Int32.ofNat (posC code m + 1 + 1)) = t1 at *
        unfold cf_142_152 cf_142_157 cf_142_296
        simp (disch := omega) only [ev_S, ev_C, ↓reduceIte, Nat.reduceEqDiff, Nat.reduceLeDiff, Nat.reduceAdd, Nat.reduceMul, Nat.reduceSub, reduceCtorEq, l32_0, l32_1, l32_2, l32_3, l32_4, l32_5, l32_6, l32_7, l32_8, l32_9, l32_10, l32_11, l32_12, l32_13, l32_14, l32_15, l32_16, l32_17, l32_18, l32_19, l32_20, l32_21, l32_22, l32_23, l32_24, l32_25, l32_26, l32_27, l32_28, l32_29, l32_33, l32_40, l32_41, l32_44, l32_45, l32_59, l32_61, l32_91, l32_93, l32_123, l32_125, g1]
      · rw [g3]
        show Int32.ofNat (posC code m + 1 + 1) = Int32.ofNat (posC code (m + 1) + 0)
        rw [posC_s hm, show clen (inA code m) = 2 by unfold clen; rw [ho]; rfl]
      · rw [(stM_i (s := s3) (r := rr) (n := G.length) (k := k3) (v := v3)).1, f4]
        show s1.1 69 = _
        rw [y5, y1]
        show Int32.ofNat (ob0 h + posR code m + 0 + 1) = Int32.ofNat (ob0 h + posR code (m + 1) + 0)
        rw [posR_s hm, show rlen (inA code m) = 1 by unfold rlen; rw [ho]; rfl]
        rfl
      · intro y hy
        rcases List.mem_cons.mp hy with e | e
        · rw [e]; exact Nat.le_refl 5
        · rcases List.mem_cons.mp e with e | e
          · rw [e]; show (2 : Nat) ≤ 5; omega
          · exact hp.tl y e
      · refine ⟨by show (2 : Nat) ≤ 8; omega, fun q => (by rcases q with q | q <;> cases q), fun _ => ⟨x, rfl, fun c0 => ⟨hn c0, ?_⟩, fun c0 => ?_⟩, fun q => (by cases q), fun q => (by cases q), fun q => (by cases q)⟩
        · unfold lim at hi
          rw [if_pos c0] at hi
          exact hi
        · unfold lim at hi
          rw [if_neg c0] at hi
          exact hi
      · refine gdS_stV (m := m) (d := 0) ?_ hel
        rw [cStk_cons (m' := m) (d' := 0), (iC_no (it := (5, [], 0)) (Or.inr rfl)).1, cStk_2 (m' := m) (d' := 0)]
        exact gd_c gd_Z (gd_c (fun y hy => by cases hy; exact hx) hgd)
      · have f5 : crI (2, [x], i + 1) = 0 := rfl
        have f6 : crI (2, [x], i) = 0 := rfl
        rw [crL_c, crL_c, crL_c, cr5 (y := (5, [], 0)) rfl, f5, f6, pv5 (y := (2, [x], i)) (Or.inr (Or.inr (Or.inl rfl)))]
        show 2 + (8 + (0 + crL I')) + 20 * T.1 + 60 * T.2.1 + 0 ≤ 0 + crL I' + 20 * (T.1 + 1) + 60 * T.2.1 + _
        omega
      · rw [n5I_c, n5I_c, n5I_c]
        show out.length + 9100 * (1 + (0 + n5I I')) + 9100 * T.1 ≤ out.length + 9100 * (0 + n5I I') + 9100 * (T.1 + 1)
        omega
    · -- it ends
      have hi : i = lim x := by omega
      obtain ⟨t4, e1, e2⟩ := c2 hi
      obtain ⟨s3, f1, f2⟩ := r2' hi
      refine goOn (k := 1) (j := 1) (by omega) (hfirst _ e1) (fun Q x2 => y11 _ (hop2 _ f1) f2.1.2.2.1.1 Q x2) (e2.pc (Or.inl rfl)) C2 rfl f2.pc R2 rfl (K.to P hjb (I' := I') (by rw [q3]; exact hL') hp.tl P.2.2.2.1.2 rfl hgd K.2.2.2.2.1 hT1 ?_ ?_)
      · have f6 : crI (2, [x], i) = 0 := rfl
        rw [crL_c, f6, pv5 (y := (2, [x], i)) (Or.inr (Or.inr (Or.inl rfl)))]
        show 1 + crL I' + 20 * T.1 + 60 * T.2.1 + 0 ≤ 0 + crL I' + 20 * (T.1 + 1) + 60 * T.2.1 + _
        omega
      · rw [n5I_c]
        show out.length + 9100 * n5I I' + 9100 * T.1 ≤ out.length + 9100 * (0 + n5I I') + 9100 * (T.1 + 1)
        omega
  · obtain ⟨e1', e2', e3'⟩ := r_nost (N := N) y4 hT.1 hs hT.2.1
    rw [y6] at e1' e2' e3'
    refine nofuel (l1 := 0) (j0 := 0) C1 D2 (by decide) hT hs e2' e3' (y12 _ 10 (hop2 _ ?_) rfl (by omega)) hol hG
    have h66 : (trb s1 (Int32.ofNat 10) pl).1 66 = Int32.ofNat 10 := rfl
    clear e2' e3'
    generalize trb s1 (Int32.ofNat 10) pl = sT at *
    unfold mf_315 mf_315_0 mf_315_4 mf_315_11
    simp (disch := omega) only [ev_S, ev_P, ↓reduceIte, Nat.reduceEqDiff, Nat.reduceLeDiff, Nat.reduceAdd, Nat.reduceMul, Nat.reduceSub, reduceCtorEq, l32_0, l32_1, l32_2, l32_3, l32_4, l32_5, l32_6, l32_7, l32_8, l32_9, l32_10, l32_11, l32_12, l32_13, l32_14, l32_15, l32_16, l32_17, l32_18, l32_19, l32_20, l32_21, l32_22, l32_23, l32_24, l32_25, l32_26, l32_27, l32_28, l32_29, l32_33, l32_40, l32_41, l32_44, l32_45, l32_59, l32_61, l32_91, l32_93, l32_123, l32_125, e1', h66]
end FOT
