/-! ===== PURE: run (137): something is put at a place of a variable's THING ===== -/
section PUA
variable {N : Nat} {X : Nat → Option zz_C} {t0 t t1 t2 : cS} {s0 s s' s1 s2 : mS} {u w f f' p h fu m m' d d' n k b z j jn k0 nb rr kx : Nat} {code : List Ins} {Fs : List Fn} {T T' T1 : Ty} {out out' : List Int32} {F G : List Fm} {sh sh' S0 : Nat → Option Nod} {vs vs' : List (Option Nod)} {I I' J : List It} {q r pl kk : Int32} {v : Int64} {it y5 : It} {x : Nod} {l : List Nod} {c : Ins} {L L' : List Nat} {g : Fn} {a a' : Fm} {ans : Ans} {xs : List Nod} {R0 : mO} {a1 a2 : C3}
theorem mk_n0 (e : ansM k xs = .inr x) : ¬ kn x = 0 := by
  unfold ansM mk at e
  split at e
  · rename_i y hy
    cases e
    split at hy
    · split at hy
      · cases hy; intro q; cases q
      · cases hy
    · split at hy
      · split at hy
        · cases hy; intro q; cases q
        · cases hy
      · split at hy
        · cases hy; intro q; cases q
        · cases hy
  · cases e
theorem vopP (hN : 170000 ≤ N) (K : CK code Fs fu ((m, 0, vs, J ++ y5 :: I') :: G) sh T out n) (P : PL code Fs m vs (J ++ y5 :: I') g) (ho : (inA code m).1 = 12) (hJ : ∀ y ∈ J, y.1 = 0) (hJr : (cIt J).length = J.length) (hJl : J.length ≤ 3) (q2 : y5.1 = 5) (q3 : lyo (code.take (m + 1)) = some (kd I')) (q4 : plI I') (q5 : okIs code g.2.2.2.2.1 g.2.2.2.2.2 I') (hrr : rr < 8 + vs.length) (ec : cI code (posC code m) (inA code m) = [a1, a2] ++ (2, cv rr, q) :: []) (hm : m < code.length) (hcx : cx code < 6500)
    (C1 : CX t0 t1 p code Fs fu S0 u w ((m, 0, vs, (0, [x], 0) :: (J ++ y5 :: I')) :: G) sh T out) (C2 : u ≤ 100000 + 20 * T.2.1) (hF : cF t1 t2 u v ans) (hpc : kI t1 49 17 = Int32.ofNat (posC code m + 2))
    (hround : ∀ t3, cf_144 N X v (Int32.ofNat (J.length + 1)) pl t2 = some (t3, .inl none) → ∀ Q, cf_141_L4 N X (Q + 2) 0 (Int32.ofNat n) t = cf_141_L4 N X Q 0 (Int32.ofNat (n + 2)) t3)
    (R : RXm s0 s1 h code Fs fu f ((m, 0, vs, J ++ y5 :: I') :: G) sh T out) (R2 : 154242 ≤ f ∧ f ≤ 154250 + T.2.1) (h70 : s1.1 70 = pl) (h69 : s1.1 69 = Int32.ofNat (ob0 h + posR code (m + 1)))
    (hE : rPt N s1 (rStk ((m, 0, vs, I') :: G)).length f T.2.1 (Int32.ofNat rr) ans R0) (hR0 : ∀ s2, R0 = some (s2, none) → mf_313 N (Int32.ofNat kx) s1 = some (s2, none)) (hans : okAn ans) (hn0 : ∀ x, ans = .inr x → ¬ kn x = 0)
    (y11 : ∀ s2, mf_313 N (Int32.ofNat kx) s1 = some (s2, none) → s2.1 66 = Int32.ofNat 0 → ∀ Q x2, mf_68_L10 N (Q + 1) 0 x2 s = mf_68_L10 N Q 0 x2 s2) (y12 : ∀ s2 kq, mf_313 N (Int32.ofNat kx) s1 = some (s2, none) → s2.1 66 = Int32.ofNat kq → 0 < kq ∧ kq < 100 → ∀ Q x2, mf_68_L10 N (Q + (0 + 1)) 0 x2 s = mo_bi (mf_312 N s2) (fun s3 y => mf_68_L10 N Q 0 x2 s3))
    (hG : G.length ≤ 9) (hol : out.length ≤ 200000000) : GO N X t0 s0 p h code Fs fu S0 t s n := by
  obtain ⟨b1, b2, b3, b4, b5, b6⟩ := K.bd
  have hT := K.1.2
  have hv14 := P.2.2.1.2
  have hpb := P.2.1
  have hnx := P.2.2.2.2.2.1 (by omega)
  obtain ⟨u', w', CO, co17, co1, co2, co3⟩ := C1.op hF
  have hB := R.1
  have h66s : s1.1 66 = Int32.ofNat 0 := hB.2.2.1.1
  have h67s : s1.1 67 = -Int32.ofNat 1 := hB.2.2.1.2
  have hno := iC_no (it := y5) (Or.inr q2)
  have eR : rStk ((m, 0, vs, J ++ y5 :: I') :: G) = rIt J ++ rStk ((m, 0, vs, I') :: G) := by
    rw [rStk_app (m' := m) (d' := 0), rStk_cons (m' := m) (d' := 0), hno.2]
    rfl
  have eW : wStk ((m, 0, vs, I') :: G) = wStk ((m, 0, vs, J ++ y5 :: I') :: G) := by
    rw [wStk_v (m' := m) (d' := 0) hJ, wStk_cons (m' := m) (d' := 0) (by omega)]
  have M1 : RM0 s1 f h code ((m, 0, vs, I') :: G) sh := by
    refine RM0.mv R.2.1 (fun _ _ => rfl) rfl rfl (Nat.le_refl _) (fun _ _ => rfl) R.2.1.2.2.2.2.2.2.2 ?_ rfl eW
    have := R.2.1.1
    rw [eR] at this
    exact this.app
  rcases hE with ⟨kq, s', e1, e2, e3⟩ | ⟨x', s', e1, e3, e2⟩
  · subst e1
    obtain ⟨hk1, hk2⟩ := hans kq rfl
    obtain ⟨f', g1, g2, g3, g4⟩ := e3
    obtain ⟨i1, i2, i3, i4⟩ := g4
    obtain ⟨o1, o2⟩ := co3
    have RK := hB.vf g3 R2.1 i2
    rw [i3, i4, h70] at RK
    have hT1' : (T.1, T.2.1, T.2.2) = T := rfl
    rw [hT1'] at RK
    have M2 := M1.vf (m' := m) (d' := 0) g3 rfl g1 g2
    have eL : ((0, [x], 0) :: (J ++ [y5])) ++ I' = ((0, [x], 0) : It) :: (J ++ y5 :: I') := by simp
    have CO' : CY t0 t2 p code Fs fu S0 u' w' ((m, 0, vs, ((0, [x], 0) :: (J ++ [y5])) ++ I') :: G) sh T out := by
      rw [eL]
      exact CO.cy
    refine trob (k := kq) (k0 := 2) (j0 := 0) (r := Int32.ofNat 0) (by omega) (by omega) (by omega) (by omega) (CO'.low (m' := m) (d' := 0) ?_) (by omega) RK M2 ⟨by omega, by omega⟩ (by intro q; cases q) ?_ (K.kt (J := J ++ [y5]) (I' := I') (by simp) hT ⟨Nat.le_refl _, Nat.le_refl _⟩ (by omega)) (fun t3 ht => hround t3 ?_) (y12 s' kq (hR0 s' e2) i3 (by omega)) (by omega)
    · intro y hy
      rcases List.mem_cons.mp hy with e | e
      · rw [e]; show ¬ (0 : Nat) = 3; decide
      · rcases List.mem_append.mp e with e | e
        · rw [hJ y e]; decide
        · rw [List.mem_singleton.mp e, q2]; decide
    · rw [if_neg (by omega)]
      rfl
    · rw [o1]
      exact c_giveT (by omega) ht
  · subst e1
    obtain ⟨f', g1, g2, g3, g4⟩ := e3
    obtain ⟨i1, i2, i3, i4, i5⟩ := g4
    obtain ⟨o1, o2, o3, o4⟩ := co3
    by_cases c : T.2.1 + ctV (vw x') ≤ 3000
    · rw [if_pos c] at i5 e2
      have CO2 : CX t0 t2 p code Fs fu S0 u' w' ((m, 0, vs, ((0, [x], 0) :: J) ++ y5 :: I') :: G) sh T out := CO
      have hl : (cStk ((m, 0, vs, ((0, [x], 0) :: J) ++ y5 :: I') :: G)).length ≤ 17501 := by
        show (cStk ((m, 0, vs, (0, [x], 0) :: (J ++ y5 :: I')) :: G)).length ≤ _
        rw [cStk_0 (m' := m) (d' := 0), List.length_cons]
        omega
      obtain ⟨t3, v1, v2, v3⟩ := CO2.give (N := N) (X := X) (m' := m) (d' := 0) (q := pl) (j := J.length + 1) (by omega) (fun y hy => by
        rcases List.mem_cons.mp hy with e | e
        · rw [e]; show ¬ (0 : Nat) = 3; decide
        · rw [hJ y e]; decide) (by show (some x :: cIt J).length = _; rw [List.length_cons, hJr]) o1 o3 c
      have hpc3 : kI t3 49 17 = Int32.ofNat (posC code m + 2) := by rw [v3, co17, hpc]
      obtain ⟨D1, D2⟩ := v2.fet (N := N) (X := X) (n := n + 2) (l1 := [a1, a2]) (dd := 2) rfl hpc3 hm ec hcx (by omega)
      have hl3 : (cStk ((m, 0, vs, (0, [x'], 0) :: y5 :: I') :: G)).length ≤ 17501 := by
        rw [cStk_0 (m' := m) (d' := 0), List.length_cons]
        rw [cStk_app (m' := m) (d' := 0), List.length_append] at b2
        omega
      obtain ⟨t4, a1', a2', a3, a4⟩ := D1.store (N := N) (X := X) (m' := m + 1) (d' := 0) (r := rr) (by omega) hG hrr hv14
      have CY := a2'.no (m' := m + 1) (d' := 0) (Or.inr q2)
      have RK := hB.vf g3 R2.1 i4
      rw [i5.1, i5.2, h66s, h67s] at RK
      have M2 := M1.vf (m' := m) (d' := 0) g3 rfl g1 g2
      have RB3 : RB s0 s' h code Fs fu (T.1, T.2.1 + ctV (vw x'), T.2.2) out := RK
      have RX3 : RXm s0 (mI s' 51 (Int32.ofNat (rStk ((m, 0, vs, I') :: G)).length)) h code Fs fu f' ((m, 0, vs, I') :: G) sh (T.1, T.2.1 + ctV (vw x'), T.2.2) out := ⟨RB3.I (by omega), RM0.mv M2 (fun _ _ => rfl) rfl rfl (Nat.le_refl _) (fun _ _ => rfl) g2 M2.1 rfl rfl, rfl⟩
      have hk1 := (i3.th (hn0 x' rfl)).1
      rw [hk1] at i3
      have RY := RX3.store (m' := m + 1) (d' := 0) (rr := rr) i3 hrr hv14
      have h73 : (mI s' 51 (Int32.ofNat (rStk ((m, 0, vs, I') :: G)).length)).1 73 = Int32.ofNat (G.length + 1) := RX3.2.1.2.2.2.2.2.1
      have hst := r_store (N := N) (s := mI s' 51 (Int32.ofNat (rStk ((m, 0, vs, I') :: G)).length)) (G := G) (r := rr) (k := Int32.ofNat 1) (v := s'.2.2.1 50 (rStk ((m, 0, vs, I') :: G)).length) h73 hG (by omega)
      have hnb : (rStk ((m, 0, vs, I') :: G)).length ≤ 8700 := by
        rw [eR, List.length_append] at b1
        omega
      have eR0 : R0 = some (stM (mI s' 51 (Int32.ofNat (rStk ((m, 0, vs, I') :: G)).length)) rr G.length (Int32.ofNat 1) (s'.2.2.1 50 (rStk ((m, 0, vs, I') :: G)).length), none) := by
        rw [e2]
        clear RY RX3 M2 M1 RB3 RK i3 eR b1 hk1 e2 i2
        generalize (rStk ((m, 0, vs, I') :: G)).length = nb at *
        unfold mf_318_497 mf_318_510
        simp (disch := omega) only [ev_S, ev_P, ↓reduceIte, Nat.reduceEqDiff, Nat.reduceLeDiff, Nat.reduceAdd, Nat.reduceMul, Nat.reduceSub, reduceCtorEq, l32_0, l32_1, l32_2, l32_3, l32_4, l32_5, l32_6, l32_7, l32_8, l32_9, l32_10, l32_11, l32_12, l32_13, l32_14, l32_15, l32_16, l32_17, l32_18, l32_19, l32_20, l32_21, l32_22, l32_23, l32_24, l32_25, l32_26, l32_27, l32_28, l32_29, l32_33, l32_40, l32_41, l32_44, l32_45, l32_59, l32_61, l32_91, l32_93, l32_123, l32_125, hst]
      have hpot : ∀ y ∈ J, y.1 = 0 ∨ y.1 = 1 := fun y hy => Or.inl (hJ y hy)
      refine goOn (k := 3) (j := 1) (by omega) (fun Q => ?_) (fun Q x2 => y11 _ (hR0 _ eR0) RY.1.2.2.1.1 Q x2) CY ?_ ?_ RY ⟨by omega, ?_⟩ ?_ (K.to P (by omega) q3 q4 q5 stV_len ?_ (sh_stS K.2.2.2.2.1 ⟨o3, o4⟩) ⟨hT.1, hT.2.1, c, hT.2.2.2.1, ?_⟩ ?_ ?_)
      · rw [show Q + 3 = Q + 1 + 2 by omega, hround t3 v1 (Q + 1), D2 Q]
        clear D1 D2
        generalize jI t3 49 17 (Int32.ofNat (posC code m + 2 + 1)) = t5 at *
        refine c_rdM (by decide) (by decide) (c_mv2.trans ?_)
        unfold cf_142_152 cf_142_157 cf_142_296
        simp (disch := omega) only [ev_S, ev_C, ↓reduceIte, Nat.reduceEqDiff, Nat.reduceLeDiff, Nat.reduceAdd, Nat.reduceMul, Nat.reduceSub, reduceCtorEq, l32_0, l32_1, l32_2, l32_3, l32_4, l32_5, l32_6, l32_7, l32_8, l32_9, l32_10, l32_11, l32_12, l32_13, l32_14, l32_15, l32_16, l32_17, l32_18, l32_19, l32_20, l32_21, l32_22, l32_23, l32_24, l32_25, l32_26, l32_27, l32_28, l32_29, l32_33, l32_40, l32_41, l32_44, l32_45, l32_59, l32_61, l32_91, l32_93, l32_123, l32_125, a1']
      · show u' ≤ 100000 + 20 * (T.2.1 + ctV (vw x'))
        rw [Nat.mul_add, ← Nat.add_assoc]
        exact Nat.le_trans o2 (Nat.add_le_add_right C2 _)
      · rw [a3]
        show Int32.ofNat (posC code m + 2 + 1) = Int32.ofNat (posC code (m + 1) + 0)
        rw [posC_s hm, show clen (inA code m) = 3 by unfold clen; rw [ho]; rfl]
      · show f' ≤ 154250 + (T.2.1 + ctV (vw x'))
        rw [← Nat.add_assoc]
        exact Nat.le_trans i1 (Nat.add_le_add_right R2.2 _)
      · rw [(stM_i (s := mI s' 51 (Int32.ofNat (rStk ((m, 0, vs, I') :: G)).length)) (r := rr) (n := G.length) (k := Int32.ofNat 1) (v := s'.2.2.1 50 (rStk ((m, 0, vs, I') :: G)).length)).1]
        show s'.1 69 = _
        rw [g3.1.1 69 (by unfold vfI; omega), h69]
        rfl
      · refine gdS_stV (m := m) (d := 0) ?_ ⟨o3, o4⟩
        refine gd_suf (m := m) (d := 0) (J := J ++ [y5]) ?_
        rw [show (J ++ [y5]) ++ I' = J ++ y5 :: I' by simp]
        exact K.2.2.2.1
      · show 300 * T.2.2.2 ≤ T.2.1 + ctV (vw x')
        have := hT.2.2.2.2
        omega
      · rw [pv_app hpot, crL_app, crL_c, pv5 (Or.inr (Or.inl q2)), cr5 q2]
        show 3 + crL I' + 20 * T.1 + 60 * T.2.1 + (J.length + 0) ≤ crL J + (8 + crL I') + 20 * T.1 + 60 * (T.2.1 + ctV (vw x')) + pvI I'
        omega
      · rw [n5I_app, n5I_c]
        show out.length + 9100 * n5I I' + 9100 * T.1 ≤ out.length + 9100 * (n5I J + (_ + n5I I')) + 9100 * T.1
        omega
    · rw [if_neg c] at i5 e2
      have RK := hB.vf g3 R2.1 i4
      rw [i5.1, i5.2, h70] at RK
      have RK2 : RBk s0 (mI s' 51 (Int32.ofNat (rStk ((m, 0, vs, I') :: G)).length)) h code Fs fu (T.1, T.2.1 + ctV (vw x'), T.2.2) out (Int32.ofNat 11) pl := by
        obtain ⟨z1, z2, z3, z4, z5⟩ := RK
        exact ⟨z1.keep (fun _ _ _ => rfl), z2, z3, z4.ch rfl rfl, z5.tr (fRn.I (Or.inr (Or.inl rfl)))⟩
      refine end11 (k0 := 2) ((CO.md (c := T.2.1 + ctV (vw x'))).cy) RK2 (by omega) (fun t3 ht => hround t3 ?_) (y12 _ 11 (hR0 _ e2) i5.1 (by omega)) (by omega) hol
      exact c_giveM CO.2.2.1 o1 o3 CO.1.2.1.2.2.1 hT.2.2.1 c ht
end PUA
