/-! ===== PURE: run (139): instructions: put at a place ===== -/
section IPU
variable {N : Nat} {X : Nat → Option zz_C} {t0 t t1 t2 : cS} {s0 s s' s1 s2 : mS} {u u' w w' f f' p h fu m m' d d' n k b z j jn k0 nb rr kx kq : Nat} {code : List Ins} {Fs : List Fn} {T T' T1 : Ty} {out out' : List Int32} {F G : List Fm} {sh sh' S0 : Nat → Option Nod} {vs vs' : List (Option Nod)} {I I' J : List It} {q r pl kk : Int32} {v : Int64} {it y5 : It} {x : Nod} {l : List Nod} {c : Ins} {L L' M : List Nat} {g : Fn} {a a' : Fm} {ans : Ans} {xs : List Nod}
theorem pop0_s : ∀ {k : Nat} {L : List Nat}, pop0 k L = some (0 :: M) → pop0 (k + 1) L = some M
  | 0, L, h => by
    have h : L = 0 :: M := Option.some.inj h
    rw [h]
    rfl
  | k + 1, [], h => by cases h
  | k + 1, 0 :: L, h => pop0_s (k := k) (L := L) h
  | k + 1, (_ + 1) :: L, h => by cases h
theorem eff12 {c : Ins} (ho : c.1 = 12) (e : eff c L = some L') : pop0 (c.2.1 + 1) L = some (5 :: L') := by
  obtain ⟨o', jj, r0, aa, pp, xx, yy⟩ := c
  have ho : o' = 12 := ho
  subst ho
  have e : (pop0 jj L).bind pay = some L' := e
  show pop0 (jj + 1) L = _
  cases hM : pop0 jj L with
  | none => rw [hM] at e; cases e
  | some M =>
    rw [hM] at e
    have e : pay M = some L' := e
    rw [pay_eq e] at hM
    exact pop0_s hM
theorem trobP (hN : 170000 ≤ N) (K : CK code Fs fu ((m, 0, vs, J ++ y5 :: I') :: G) sh T out n) (hJ : ∀ y ∈ J, y.1 = 0) (q2 : y5.1 = 5) (CO : CX t0 t2 p code Fs fu S0 u' w' ((m, 0, vs, (0, [x], 0) :: (J ++ y5 :: I')) :: G) sh T out) (hu : u' ≤ 100000 + 20 * T.2.1 + 2100) (RK : RBk s0 s2 h code Fs fu T out (Int32.ofNat kq) pl) (M2 : RM0 s2 f' h code ((m, 0, vs, I') :: G) sh) (hf : 154242 ≤ f' ∧ f' ≤ 154250 + T.2.1 + 300) (hkq : 1 ≤ kq ∧ kq < 9) (hc : ∀ t3, cf_156 N X (Int32.ofNat kq) pl (Int32.ofNat 0) t2 = some (t3, .inl none) → ∀ Q, cf_141_L4 N X (Q + 2) 0 (Int32.ofNat n) t = cf_141_L4 N X Q 0 (Int32.ofNat (n + 2)) t3) (hs : ∀ Q x2, mf_68_L10 N (Q + (0 + 1)) 0 x2 s = mo_bi (mf_312 N s2) (fun s3 y => mf_68_L10 N Q 0 x2 s3)) : GO N X t0 s0 p h code Fs fu S0 t s n := by
  have b6 := K.bd.2.2.2.2.2
  have eL : ((0, [x], 0) :: (J ++ [y5])) ++ I' = ((0, [x], 0) : It) :: (J ++ y5 :: I') := by simp
  have CO' : CY t0 t2 p code Fs fu S0 u' w' ((m, 0, vs, ((0, [x], 0) :: (J ++ [y5])) ++ I') :: G) sh T out := by
    rw [eL]
    exact CO.cy
  refine trob (k := kq) (k0 := 2) (j0 := 0) (r := Int32.ofNat 0) (by omega) (by omega) (by omega) (by omega) (CO'.low (m' := m) (d' := 0) ?_) hu RK M2 hf (by intro q; cases q) ?_ (K.kt (J := J ++ [y5]) (I' := I') (by simp) K.1.2 ⟨Nat.le_refl _, Nat.le_refl _⟩ (by omega)) hc hs (by omega)
  · intro y hy
    rcases List.mem_cons.mp hy with e | e
    · rw [e]; show ¬ (0 : Nat) = 3; decide
    · rcases List.mem_append.mp e with e | e
      · rw [hJ y e]; decide
      · rw [List.mem_singleton.mp e, q2]; decide
  · rw [if_neg (by omega)]
    rfl
theorem three_xs (h : xs.length = 3) : ∃ x y z, xs = [x, y, z] := by
  match xs, h with
  | [x, y, z], _ => exact ⟨x, y, z, rfl⟩
theorem i_12 (hN : 170000 ≤ N) (C : CS t0 t p code Fs fu S0 ((m, 0, vs, I) :: G) sh T out) (R : RSm s0 s h code Fs fu ((m, 0, vs, I) :: G) sh T out) (K : CK code Fs fu ((m, 0, vs, I) :: G) sh T out n) (ho : (inA code m).1 = 12) : GO N X t0 s0 p h code Fs fu S0 t s n := by
  obtain ⟨u, w, f, g, C1, C2, C4, R1, R2, R4, P, hm, hcx, hrl, hG, ⟨b1, b2, b6⟩, hT, hol⟩ := open0 C R K
  obtain ⟨ec, er⟩ := cI_12 (code := code) (own := posC code m) (e := h) ho
  have hrr : (inA code m).2.2.1 < 8 + vs.length := P.2.2.2.2.1.1 (by omega)
  have hv14 := P.2.2.1.2
  obtain ⟨hjj, hyy⟩ := P.2.2.2.2.1.2.2.2.2.1 ho
  obtain ⟨L', z3, z4⟩ := K.nxt
  have eM := eff12 ho z3
  have hpl := K.ly0.2
  obtain ⟨xs, J, I1, e1, e2, e3, e4, e5, e6, e7, e8⟩ := topV K P eM
  obtain ⟨y5, I', r1, q2, r3⟩ := kdC e7
  subst r1
  subst e1
  have q3 : lyo (code.take (m + 1)) = some (kd I') := by rw [r3]; exact z4
  have q4 : plI I' := fun y hy => hpl y (List.mem_append_right _ (List.mem_cons_of_mem _ hy))
  have q5 : okIs code g.2.2.2.2.1 g.2.2.2.2.2 I' := (okIs.suf P.2.2.2.1).2
  have h69e : ob0 h + posR code m + 0 + 1 = ob0 h + posR code (m + 1) := by
    rw [posR_s hm, show rlen (inA code m) = 1 by unfold rlen; rw [ho]; rfl]
    omega
  generalize (inA code m).2.2.2.2.2.2 = py at *
  generalize (inA code m).2.2.2.2.2.1 = pv at *
  generalize (inA code m).2.2.2.2.1 = pl at *
  generalize (inA code m).2.2.1 = rr at *
  generalize (inA code m).2.1 = jj at *
  obtain ⟨D1, D2⟩ := C1.fet (N := N) (X := X) (n := n) (l1 := []) rfl C4 hm ec hcx (by omega)
  obtain ⟨s1, kx, y1, y2, y3, y4, y5', y6, ⟨y7, y8, y9, y10⟩, y11, y12⟩ := R1.fet (N := N) (l1 := []) hG rfl R4 hm er hrl
  have h69 : s1.1 69 = Int32.ofNat (ob0 h + posR code (m + 1)) := by rw [y5', y1]; exact congrArg Int32.ofNat h69e
  obtain ⟨v, d1, d2⟩ := D1.var (N := N) (X := X) (q := pv) (by omega) hG hrr hv14
  have hno := iC_no (it := y5) (Or.inr q2)
  have eN : rStk ((m, 0, vs, y5 :: I') :: G) = rStk ((m, 0, vs, I') :: G) := by
    rw [rStk_cons (m' := m) (d' := 0), hno.2]
    rfl
  have eW : wStk ((m, 0, vs, I') :: G) = wStk ((m, 0, vs, J ++ y5 :: I') :: G) := by
    rw [wStk_v (m' := m) (d' := 0) e5, wStk_cons (m' := m) (d' := 0) (by omega)]
  have eR : rStk ((m, 0, vs, J ++ y5 :: I') :: G) = rIt J ++ rStk ((m, 0, vs, I') :: G) := by
    rw [rStk_app (m' := m) (d' := 0), eN]
  obtain ⟨A, h51⟩ := RXm.rA (m' := m) (d' := 0) (J := J) (I' := y5 :: I') (xs := xs) y4 e3 hT R2 b1 e8
  rw [eN] at A h51
  have RL := y4.lower (b := (m, 0, vs, I')) eR rfl eW
  obtain ⟨k0, v0, g1, g2, g3⟩ := r_get (N := N) RL hG hrr hv14
  have hnb : (rStk ((m, 0, vs, I') :: G)).length ≤ 8700 := by
    rw [eR, List.length_append] at b1
    omega
  have h313 : ∀ s2, mf_318 N (Int32.ofNat kx) s1 = some (s2, none) → mf_313 N (Int32.ofNat kx) s1 = some (s2, none) := fun s2 h2 => by
    rw [r_op13 y3 y7]
    unfold mf_313_247 mf_313_252
    rw [h2]
    rfl
  have E1 : mf_318 N (Int32.ofNat kx) s1 = mf_318_63 N (Int32.ofNat kx) (if jj = 1 then Int32.ofNat 0 else Int32.ofNat 1) (Int32.ofNat rr) (Int32.ofNat ((rStk ((m, 0, vs, I') :: G)).length + jj)) (Int32.ofNat (rStk ((m, 0, vs, I') :: G)).length) k0 (mI s1 51 (Int32.ofNat (rStk ((m, 0, vs, I') :: G)).length)) := by
    rw [e2] at h51
    clear A RL g3 eR eN eW b1
    generalize (rStk ((m, 0, vs, I') :: G)).length = nb at *
    rcases hjj with z | z
    · subst z
      rw [if_pos rfl] at y9
      have y9 : s1.2.2.1 25 kx = -Int32.ofNat 1 := y9
      have sb1 : Int32.ofNat (nb + (1 + 1)) - Int32.ofNat 1 = Int32.ofNat (nb + 1) := by rw [← Int32.ofNat_sub _ _ (by omega)]; rfl
      have sb2 : Int32.ofNat (nb + (1 + 1)) - Int32.ofNat 2 = Int32.ofNat nb := by rw [← Int32.ofNat_sub _ _ (by omega)]; rfl
      rw [if_pos rfl]
      unfold mf_318 mf_318_0 mf_318_14 mf_318_15 mf_318_44 mf_318_50
      simp (disch := omega) only [ev_S, ev_P, ↓reduceIte, Nat.reduceEqDiff, Nat.reduceLeDiff, Nat.reduceAdd, Nat.reduceMul, Nat.reduceSub, reduceCtorEq, l32_0, l32_1, l32_2, l32_3, l32_4, l32_5, l32_6, l32_7, l32_8, l32_9, l32_10, l32_11, l32_12, l32_13, l32_14, l32_15, l32_16, l32_17, l32_18, l32_19, l32_20, l32_21, l32_22, l32_23, l32_24, l32_25, l32_26, l32_27, l32_28, l32_29, l32_33, l32_40, l32_41, l32_44, l32_45, l32_59, l32_61, l32_91, l32_93, l32_123, l32_125, y9, y8, h51, sb1, sb2, g1, l32_8000]
    · subst z
      rw [if_neg (by decide)] at y9
      have hy := hyy rfl
      rw [← y9] at hy
      have sb1 : Int32.ofNat (nb + (2 + 1)) - Int32.ofNat 1 = Int32.ofNat (nb + 2) := by rw [← Int32.ofNat_sub _ _ (by omega)]; rfl
      have sb2 : Int32.ofNat (nb + (2 + 1)) - Int32.ofNat 3 = Int32.ofNat nb := by rw [← Int32.ofNat_sub _ _ (by omega)]; rfl
      rw [if_neg (by decide)]
      unfold mf_318 mf_318_0 mf_318_10 mf_318_15 mf_318_35 mf_318_50
      simp (disch := omega) only [ev_S, ev_P, ↓reduceIte, Nat.reduceEqDiff, Nat.reduceLeDiff, Nat.reduceAdd, Nat.reduceMul, Nat.reduceSub, reduceCtorEq, l32_0, l32_1, l32_2, l32_3, l32_4, l32_5, l32_6, l32_7, l32_8, l32_9, l32_10, l32_11, l32_12, l32_13, l32_14, l32_15, l32_16, l32_17, l32_18, l32_19, l32_20, l32_21, l32_22, l32_23, l32_24, l32_25, l32_26, l32_27, l32_28, l32_29, l32_33, l32_40, l32_41, l32_44, l32_45, l32_59, l32_61, l32_91, l32_93, l32_123, l32_125, hy, y8, h51, sb1, sb2, g1, l32_8000]
  cases hgv : gV rr vs sh with
  | none =>
    rw [hgv] at d1 g3
    have d1 : v = bare := d1
    have g3 : k0 = Int32.ofNat 2 := g3
    obtain ⟨x1, x2, x3⟩ := RL.trb (N := N) (k := 7) (q := pv)
    have MF : RM0 (trb (mI s1 51 (Int32.ofNat (rStk ((m, 0, vs, I') :: G)).length)) (Int32.ofNat 7) pv) f h code ((m, 0, vs, J ++ y5 :: I') :: G) sh := RM0.mv y4.2.1 (fun _ _ => rfl) rfl rfl (Nat.le_refl _) (fun _ _ => rfl) y4.2.1.2.2.2.2.2.2.2 y4.2.1.1 rfl rfl
    refine trob0 (kq := 7) (k0 := 1) (ra := Int32.ofNat 0) (by omega) (by omega) (by omega) K hT ⟨Nat.le_refl _, Nat.le_refl _⟩ D1 (Nat.le_trans C2 (Nat.le_add_right _ _)) x2 MF ⟨R2.1, Nat.le_trans R2.2 (Nat.le_add_right _ _)⟩ rfl (fun t3 ht Q => ?_) (y12 _ 7 (h313 _ ?_) rfl (by omega)) b6
    · rw [D2 Q]
      clear D1 D2
      generalize jI t 49 17 (Int32.ofNat (posC code m + 0 + 1)) = t1 at *
      refine c_rdM (by decide) (by decide) (c_mv1.trans ?_)
      have ek : cf_255 N X v t1 = some (t1, .inl (some (.int (-Int32.ofNat 1)))) := by rw [d1]; exact c_kindOf
      have e66 : cf_147_66 N X pv v t1 = some (t3, .inl none) := by
        unfold cf_147_66 cf_147_70 cf_147_74 cf_147_82 cf_147_90
        simp (disch := omega) only [ev_S, ev_C, ↓reduceIte, Nat.reduceEqDiff, Nat.reduceLeDiff, Nat.reduceAdd, Nat.reduceMul, Nat.reduceSub, reduceCtorEq, l32_0, l32_1, l32_2, l32_3, l32_4, l32_5, l32_6, l32_7, l32_8, l32_9, l32_10, l32_11, l32_12, l32_13, l32_14, l32_15, l32_16, l32_17, l32_18, l32_19, l32_20, l32_21, l32_22, l32_23, l32_24, l32_25, l32_26, l32_27, l32_28, l32_29, l32_33, l32_40, l32_41, l32_44, l32_45, l32_59, l32_61, l32_91, l32_93, l32_123, l32_125, ek, ht]
      rw [e66] at d2
      unfold cf_142_143 cf_142_149 cf_142_296
      simp (disch := omega) only [ev_S, ev_C, ↓reduceIte, Nat.reduceEqDiff, Nat.reduceLeDiff, Nat.reduceAdd, Nat.reduceMul, Nat.reduceSub, reduceCtorEq, l32_0, l32_1, l32_2, l32_3, l32_4, l32_5, l32_6, l32_7, l32_8, l32_9, l32_10, l32_11, l32_12, l32_13, l32_14, l32_15, l32_16, l32_17, l32_18, l32_19, l32_20, l32_21, l32_22, l32_23, l32_24, l32_25, l32_26, l32_27, l32_28, l32_29, l32_33, l32_40, l32_41, l32_44, l32_45, l32_59, l32_61, l32_91, l32_93, l32_123, l32_125, d2]
    · rw [E1, g3]
      have y10 : s1.2.2.1 26 kx = pv := y10
      unfold mf_318_63 mf_318_67 mf_318_79
      simp (disch := omega) only [ev_S, ev_P, ↓reduceIte, Nat.reduceEqDiff, Nat.reduceLeDiff, Nat.reduceAdd, Nat.reduceMul, Nat.reduceSub, reduceCtorEq, l32_0, l32_1, l32_2, l32_3, l32_4, l32_5, l32_6, l32_7, l32_8, l32_9, l32_10, l32_11, l32_12, l32_13, l32_14, l32_15, l32_16, l32_17, l32_18, l32_19, l32_20, l32_21, l32_22, l32_23, l32_24, l32_25, l32_26, l32_27, l32_28, l32_29, l32_33, l32_40, l32_41, l32_44, l32_45, l32_59, l32_61, l32_91, l32_93, l32_123, l32_125, y10, x1, l32_8000]
  | some x =>
    rw [hgv] at d1 g3
    have gx := gV_gd K hgv
    have g3 : rvl (s1.2.2.1 47) f k0 v0 x := g3
    obtain ⟨tp, a1, a2, a3, a4⟩ := D1.push (N := N) (X := X) (m' := m) (d' := 0) (it := (0, [x], 0)) (o := some x) (by omega) d1 (by show ¬ (0 : Nat) = 3; decide) rfl
    have hpc1 : kI tp 49 17 = Int32.ofNat (posC code m + 1) := by rw [a3]; rfl
    obtain ⟨H1, H2⟩ := a2.fet (N := N) (X := X) (n := n + 1) (l1 := [((1 : Int32), cv rr, pv)]) (dd := 1) rfl hpc1 hm ec hcx (by omega)
    obtain ⟨F1, F2⟩ := H1.forget (N := N) (X := X)
    have R1' : ∀ Q, cf_141_L4 N X (Q + 2) 0 (Int32.ofNat n) t = cf_141_L4 N X (Q + 1) 0 (Int32.ofNat (n + 1)) tp := fun Q => by
      rw [show Q + 2 = Q + 1 + 1 by omega, D2 (Q + 1)]
      clear D1 D2 H1 H2 F1 F2
      generalize jI t 49 17 (Int32.ofNat (posC code m + 0 + 1)) = t1 at *
      refine c_rdM (by decide) (by decide) (c_mv1.trans ?_)
      have ek := c_kn (N := N) (X := X) d1
      have lx := kn_le (x := x)
      have e66 : cf_147_66 N X pv v t1 = some (tp, .inl none) := by
        generalize kn x = kq at *
        unfold cf_147_66 cf_147_70 cf_147_85 cf_147_90
        simp (disch := omega) only [ev_S, ev_C, ↓reduceIte, Nat.reduceEqDiff, Nat.reduceLeDiff, Nat.reduceAdd, Nat.reduceMul, Nat.reduceSub, reduceCtorEq, l32_0, l32_1, l32_2, l32_3, l32_4, l32_5, l32_6, l32_7, l32_8, l32_9, l32_10, l32_11, l32_12, l32_13, l32_14, l32_15, l32_16, l32_17, l32_18, l32_19, l32_20, l32_21, l32_22, l32_23, l32_24, l32_25, l32_26, l32_27, l32_28, l32_29, l32_33, l32_40, l32_41, l32_44, l32_45, l32_59, l32_61, l32_91, l32_93, l32_123, l32_125, ek, a1]
      rw [e66] at d2
      unfold cf_142_143 cf_142_149 cf_142_296
      simp (disch := omega) only [ev_S, ev_C, ↓reduceIte, Nat.reduceEqDiff, Nat.reduceLeDiff, Nat.reduceAdd, Nat.reduceMul, Nat.reduceSub, reduceCtorEq, l32_0, l32_1, l32_2, l32_3, l32_4, l32_5, l32_6, l32_7, l32_8, l32_9, l32_10, l32_11, l32_12, l32_13, l32_14, l32_15, l32_16, l32_17, l32_18, l32_19, l32_20, l32_21, l32_22, l32_23, l32_24, l32_25, l32_26, l32_27, l32_28, l32_29, l32_33, l32_40, l32_41, l32_44, l32_45, l32_59, l32_61, l32_91, l32_93, l32_123, l32_125, d2]
    have hk3 : ¬ k0 = Int32.ofNat 2 := by
      rcases g3.kz with z | z <;> rw [z.1] <;> decide
    have E2 : mf_318 N (Int32.ofNat kx) s1 = mf_318_80 N (Int32.ofNat kx) (if jj = 1 then Int32.ofNat 0 else Int32.ofNat 1) (Int32.ofNat rr) (Int32.ofNat ((rStk ((m, 0, vs, I') :: G)).length + jj)) (Int32.ofNat (rStk ((m, 0, vs, I') :: G)).length) (mI s1 51 (Int32.ofNat (rStk ((m, 0, vs, I') :: G)).length)) := by
      rw [E1]
      unfold mf_318_63
      exact if_pos hk3
    have hcJ : (cIt J).length = J.length := by rw [e4, List.length_map, List.length_reverse, e2, e6]
    have eC : cStk ((m, 0, vs, (0, [x], 0) :: (J ++ y5 :: I')) :: G) = some x :: (xs.reverse.map some ++ cStk ((m, 0, vs, y5 :: I') :: G)) := by
      rw [cStk_0 (m' := m) (d' := 0), cStk_app (m' := m) (d' := 0), e4]
    have hpk : kI (jI (jI tp 49 17 (Int32.ofNat (posC code m + 1 + 1))) 42 3 (Int32.ofNat 0)) 49 17 = Int32.ofNat (posC code m + 2) := rfl
    have hM1 : RM0 (mI s1 51 (Int32.ofNat (rStk ((m, 0, vs, I') :: G)).length)) f h code ((m, 0, vs, I') :: G) sh := RL.2.1
    have hlen : (cStk ((m, 0, vs, (0, [x], 0) :: (J ++ y5 :: I')) :: G)).length ≤ 17501 := by
      rw [cStk_0 (m' := m) (d' := 0), List.length_cons]
      omega
    have hlx : xs.length + 1 ≤ (cStk ((m, 0, vs, (0, [x], 0) :: (J ++ y5 :: I')) :: G)).length := by
      rw [eC, List.length_cons, List.length_append, List.length_map, List.length_reverse]
      omega
    generalize htS : jI (jI tp 49 17 (Int32.ofNat (posC code m + 1 + 1))) 42 3 (Int32.ofNat 0) = tS at *
    have h30 := hT.2.2.1
    rcases hjj with z | z
    · subst z
      obtain ⟨yi, z, rfl⟩ := two_xs e2
      have eC : cStk ((m, 0, vs, (0, [x], 0) :: (J ++ y5 :: I')) :: G) = some x :: some z :: some yi :: cStk ((m, 0, vs, y5 :: I') :: G) := eC
      have hyi := e8 yi List.mem_cons_self
      have hz := e8 z (List.mem_cons_of_mem _ List.mem_cons_self)
      obtain ⟨va, p1, c1⟩ := F2.top1 (N := N) (X := X) eC
      obtain ⟨vb, p2, c2⟩ := F2.top2 (N := N) (X := X) eC
      have hlx : 3 ≤ (cStk ((m, 0, vs, (0, [x], 0) :: (J ++ y5 :: I')) :: G)).length := hlx
      obtain ⟨vc, p3, c3⟩ := F2.peek (N := N) (X := X) (k := 3) (by omega) hlx
      have e33 : (cStk ((m, 0, vs, (0, [x], 0) :: (J ++ y5 :: I')) :: G))[3 - 1]'(Nat.lt_of_lt_of_le (by decide) hlx) = some yi := by
        have : (cStk ((m, 0, vs, (0, [x], 0) :: (J ++ y5 :: I')) :: G))[3 - 1]? = some (some yi) := by rw [eC]; rfl
        rw [List.getElem?_eq_getElem (Nat.lt_of_lt_of_le (by decide) hlx)] at this
        exact Option.some.inj this
      rw [e33] at c3
      obtain ⟨t2, v2, k1, k2⟩ := c_ptp (N := N) (X := X) hN F2.2.2.1 c1 c3 c2 gx.1 hz.1 gx.2 hz.2 (by omega) (Nat.zero_le _)
      have rP := r_put1 (N := N) (k := kx) (tg := Int32.ofNat rr) hN A g3 gx.1 gx.2 g1 g2
      refine vopP (x := x) (ans := ansPut x yi z) (R0 := mf_318 N (Int32.ofNat kx) s1) (kx := kx) (rr := rr) (a1 := (1, cv rr, pv)) (a2 := (17, py, pl)) (pl := pl) hN K P ho e5 hcJ (by omega) q2 q3 q4 q5 hrr ec hm hcx F2 C2 k2.F hpk (fun t3 h3 Q => ?_) y4 R2 y6 h69 (by rw [E2]; exact rP) h313 ?_ ?_ y11 y12 hG hol
      · rw [R1' Q, H2 Q]
        refine c_rdW (by decide) (by decide) (by decide) ((c_143o F1 p1 p2).trans (c_wk17.trans ?_))
        have h3 : cf_144 N X v2 (Int32.ofNat 3) pl t2 = some (t3, .inl none) := by
          rw [e6] at h3
          exact h3
        unfold cf_143_223 cf_143_235 cf_143_240 cf_143_245 cf_143_296
        simp (disch := omega) only [ev_S, ev_C, ↓reduceIte, Nat.reduceEqDiff, Nat.reduceLeDiff, Nat.reduceAdd, Nat.reduceMul, Nat.reduceSub, reduceCtorEq, l32_0, l32_1, l32_2, l32_3, l32_4, l32_5, l32_6, l32_7, l32_8, l32_9, l32_10, l32_11, l32_12, l32_13, l32_14, l32_15, l32_16, l32_17, l32_18, l32_19, l32_20, l32_21, l32_22, l32_23, l32_24, l32_25, l32_26, l32_27, l32_28, l32_29, l32_33, l32_40, l32_41, l32_44, l32_45, l32_59, l32_61, l32_91, l32_93, l32_123, l32_125, p3, k1, h3]
      · unfold ansPut ansPt
        exact okAn_i (okAn_i (okAn_l (by omega)) okAn_M) (okAn_l (by omega))
      · intro x' hx'
        unfold ansPut ansPt at hx'
        split at hx'
        · split at hx'
          · cases hx'
          · exact mk_n0 hx'
        · cases hx'
    · subst z
      have n1 : ¬ (2 : Nat) = 1 := by decide
      rw [if_neg n1] at E2 ec
      rw [if_neg n1] at y9
      obtain ⟨yi, yj, z, rfl⟩ := three_xs e2
      have eC : cStk ((m, 0, vs, (0, [x], 0) :: (J ++ y5 :: I')) :: G) = some x :: some z :: some yj :: some yi :: cStk ((m, 0, vs, y5 :: I') :: G) := eC
      have hlx : 4 ≤ (cStk ((m, 0, vs, (0, [x], 0) :: (J ++ y5 :: I')) :: G)).length := hlx
      have hyi := e8 yi List.mem_cons_self
      have hz := e8 z (List.mem_cons_of_mem _ (List.mem_cons_of_mem _ List.mem_cons_self))
      obtain ⟨va, p1, c1⟩ := F2.top1 (N := N) (X := X) eC
      obtain ⟨vb, p2, c2⟩ := F2.top2 (N := N) (X := X) eC
      obtain ⟨vc, p3, c3⟩ := F2.peek (N := N) (X := X) (k := 3) (by omega) (by omega)
      obtain ⟨vd, p4, c4⟩ := F2.peek (N := N) (X := X) (k := 4) (by omega) hlx
      have e33 : (cStk ((m, 0, vs, (0, [x], 0) :: (J ++ y5 :: I')) :: G))[3 - 1]'(Nat.lt_of_lt_of_le (by decide) hlx) = some yj := by
        have : (cStk ((m, 0, vs, (0, [x], 0) :: (J ++ y5 :: I')) :: G))[3 - 1]? = some (some yj) := by rw [eC]; rfl
        rw [List.getElem?_eq_getElem (Nat.lt_of_lt_of_le (by decide) hlx)] at this
        exact Option.some.inj this
      have e44 : (cStk ((m, 0, vs, (0, [x], 0) :: (J ++ y5 :: I')) :: G))[4 - 1]'(Nat.lt_of_lt_of_le (by decide) hlx) = some yi := by
        have : (cStk ((m, 0, vs, (0, [x], 0) :: (J ++ y5 :: I')) :: G))[4 - 1]? = some (some yi) := by rw [eC]; rfl
        rw [List.getElem?_eq_getElem (Nat.lt_of_lt_of_le (by decide) hlx)] at this
        exact Option.some.inj this
      rw [e33] at c3
      rw [e44] at c4
      obtain ⟨Z1, Z2⟩ := c_putC (N := N) (X := X) (pl := pl) (py := py) (yi := yi) (yj := yj) (z := z) hN F2.2.2.1 c1 c4 c3 c2 gx.1 gx.2 (by omega) (Nat.zero_le _) p1 p2 p3 p4
      have rP := r_put2 (N := N) (k := kx) (tg := Int32.ofNat rr) hN y3 A g3 gx.1 gx.2 g1 g2
      rw [← E2] at rP
      have hrun : ∀ t3, cf_159 N X pl py tS = some (t3, .inl none) → ∀ Q, cf_141_L4 N X (Q + 2) 0 (Int32.ofNat n) t = cf_141_L4 N X Q 0 (Int32.ofNat (n + 2)) t3 := fun t3 h3 Q => by
        rw [R1' Q, H2 Q]
        refine c_rdW (by decide) (by decide) (by decide) ((c_143o F1 p1 p2).trans (c_wk18.trans ?_))
        unfold cf_143_248 cf_143_254 cf_143_296
        simp (disch := omega) only [ev_S, ev_C, ↓reduceIte, Nat.reduceEqDiff, Nat.reduceLeDiff, Nat.reduceAdd, Nat.reduceMul, Nat.reduceSub, reduceCtorEq, l32_0, l32_1, l32_2, l32_3, l32_4, l32_5, l32_6, l32_7, l32_8, l32_9, l32_10, l32_11, l32_12, l32_13, l32_14, l32_15, l32_16, l32_17, l32_18, l32_19, l32_20, l32_21, l32_22, l32_23, l32_24, l32_25, l32_26, l32_27, l32_28, l32_29, l32_33, l32_40, l32_41, l32_44, l32_45, l32_59, l32_61, l32_91, l32_93, l32_123, l32_125, h3]
      unfold rPc at rP
      by_cases h0 : celT x yi yj z = 0
      · rw [if_pos h0] at rP
        obtain ⟨Z3, Z4⟩ := Z2 h0
        by_cases hb : ivN yj < 0 ∨ ¬ ivN yj < Int32.ofNat ((tvN x).getD (ivN yi).toNatClampNeg []).length
        · rw [if_pos hb, y9] at rP
          obtain ⟨-, x2, x3⟩ := RL.trb (N := N) (k := 5) (q := py)
          exact trobP (kq := 5) hN K e5 q2 F2 (by omega) x2 x3 ⟨R2.1, by omega⟩ (by omega) (fun t3 ht => hrun t3 (Z3 hb t3 ht)) (y12 _ 5 (h313 _ rP) rfl (by omega))
        · rw [if_neg hb] at rP
          obtain ⟨t2, v2, k1, k2⟩ := Z4 hb
          refine vopP (x := x) (ans := ansM 2 (setC x (ivN yi).toNatClampNeg (ivN yj).toNatClampNeg (ivN z))) (R0 := mf_318 N (Int32.ofNat kx) s1) (kx := kx) (rr := rr) (a1 := (1, cv rr, pv)) (a2 := (18, py, pl)) (pl := pl) hN K P ho e5 hcJ (by omega) q2 q3 q4 q5 hrr ec hm hcx F2 C2 k1 hpk (fun t3 h3 => hrun t3 (k2 t3 ?_)) y4 R2 y6 h69 rP h313 okAn_M (fun x' hx' => mk_n0 hx') y11 y12 hG hol
          rw [e6] at h3
          exact h3
      · rw [if_neg h0] at rP
        have h5 := celT_5 (x := x) (yi := yi) (yj := yj) (z := z)
        rcases rP with ⟨kq, s2, e1, e2', e3'⟩ | ⟨x', s2, e1, -, -⟩
        · have e1 : celT x yi yj z = kq := Sum.inl.inj e1
          subst e1
          obtain ⟨f', j1, j2, j3, j4⟩ := e3'
          obtain ⟨i1, i2, i3, i4⟩ := j4
          have RK := y4.1.vf j3 R2.1 i2
          rw [i3, i4, y6] at RK
          have M1 : RM0 s1 f h code ((m, 0, vs, I') :: G) sh := RM0.mv hM1 (fun _ _ => rfl) rfl rfl (Nat.le_refl _) (fun _ _ => rfl) hM1.2.2.2.2.2.2.2 hM1.1 rfl rfl
          have M2 := M1.vf (m' := m) (d' := 0) j3 rfl j1 j2
          exact trobP (kq := celT x yi yj z) hN K e5 q2 F2 (by omega) RK M2 ⟨by omega, by omega⟩ (by
            have : celT x yi yj z = 3 ∨ celT x yi yj z = 5 ∨ celT x yi yj z = 0 := by
              unfold celT
              split
              · split
                · exact Or.inr (Or.inl rfl)
                · exact Or.inr (Or.inr rfl)
              · exact Or.inl rfl
            omega) (fun t3 ht => hrun t3 (Z1 h0 t3 ht)) (y12 _ _ (h313 _ e2') i3 (by omega))
        · cases e1
end IPU
