-- ### 98zzi.pure.lean.txt
section
/-! ===== PURE: run (138): a number in a row of a table: the machine's act (the class) ===== -/
section PUC
variable {N : Nat} {X : Nat → Option zz_C} {t t2 t3 : cS} {u w : Nat} {pl py : Int32} {vx vi vj vz : Int64} {x yi yj z : Nod}
theorem celT_5 : celT x yi yj z ≤ 5 := by
  unfold celT
  split
  · split <;> omega
  · omega
theorem celT_0 (h : celT x yi yj z = 0) : (kn x = 2 ∧ kn yi = 0 ∧ kn yj = 0 ∧ kn z = 0) ∧ ¬ ivN yi < 0 ∧ ivN yi < Int32.ofNat (szN x) := by
  unfold celT at h
  split at h
  · rename_i c
    split at h
    · cases h
    · rename_i c2
      exact ⟨c, fun q => c2 (Or.inl q), Classical.not_not.mp (fun q => c2 (Or.inr q))⟩
  · cases h
theorem pts2 (h : kn x = 2) : pts x = (tvN x).map nR := by
  unfold pts
  rw [kn2' h]
  rfl
theorem c_putC (hN : 170000 ≤ N) (hh : cHp t u w) (hx : cN (cel t) u vx x) (hi : cN (cel t) u vi yi) (hj : cN (cel t) u vj yj) (hz : cN (cel t) u vz z) (wx : wfN x) (dx : x.1 ≤ 4) (hu : u ≤ 162000 - 100) (hw : w ≤ 900)
    (p1 : cf_167 N X (Int32.ofNat 1) t = some (t, .inl (some (.long vx)))) (p2 : cf_167 N X (Int32.ofNat 2) t = some (t, .inl (some (.long vz)))) (p3 : cf_167 N X (Int32.ofNat 3) t = some (t, .inl (some (.long vj)))) (p4 : cf_167 N X (Int32.ofNat 4) t = some (t, .inl (some (.long vi)))) :
    (¬ celT x yi yj z = 0 → ∀ t3, cf_156 N X (Int32.ofNat (celT x yi yj z)) pl (Int32.ofNat 0) t = some (t3, .inl none) → cf_159 N X pl py t = some (t3, .inl none)) ∧
    (celT x yi yj z = 0 → (ivN yj < 0 ∨ ¬ ivN yj < Int32.ofNat ((tvN x).getD (ivN yi).toNatClampNeg []).length → ∀ t3, cf_156 N X (Int32.ofNat 5) py (Int32.ofNat 0) t = some (t3, .inl none) → cf_159 N X pl py t = some (t3, .inl none)) ∧
    (¬ (ivN yj < 0 ∨ ¬ ivN yj < Int32.ofNat ((tvN x).getD (ivN yi).toNatClampNeg []).length) → ∃ t2 v, cF t t2 u v (ansM 2 (setC x (ivN yi).toNatClampNeg (ivN yj).toNatClampNeg (ivN z))) ∧ ∀ t3, cf_144 N X v (Int32.ofNat 4) pl t2 = some (t3, .inl none) → cf_159 N X pl py t = some (t3, .inl none))) := by
  have T := c_celT (N := N) (X := X) hh hx hi hj hz
  refine ⟨fun h0 t3 ht => ?_, fun h0 => ?_⟩
  · have h5 := celT_5 (x := x) (yi := yi) (yj := yj) (z := z)
    generalize celT x yi yj z = ct at *
    unfold cf_159 cf_159_0 cf_159_5 cf_159_11 cf_159_18 cf_159_25 cf_159_41 cf_159_48 cf_159_56
    simp (disch := omega) only [ev_S, ev_C, ↓reduceIte, Nat.reduceEqDiff, Nat.reduceLeDiff, Nat.reduceAdd, Nat.reduceMul, Nat.reduceSub, reduceCtorEq, l32_0, l32_1, l32_2, l32_3, l32_4, l32_5, l32_6, l32_7, l32_8, l32_9, l32_10, l32_11, l32_12, l32_13, l32_14, l32_15, l32_16, l32_17, l32_18, l32_19, l32_20, l32_21, l32_22, l32_23, l32_24, l32_25, l32_26, l32_27, l32_28, l32_29, l32_33, l32_40, l32_41, l32_44, l32_45, l32_59, l32_61, l32_91, l32_93, l32_123, l32_125, p1, p2, p3, p4, T, h0, ht]
  · obtain ⟨⟨c1, c2, c3, c4⟩, cn, cl⟩ := celT_0 h0
    rw [h0] at T
    have lo := c_lowOf (N := N) (X := X) (t := t) (k := 0) (a := ivN yi)
    rw [← hi.z c2] at lo
    obtain ⟨i, hi', e⟩ := i32nn cn
    have s64 := wf64 wx
    rw [e] at lo cl ⊢
    rw [ev_lt (by omega) (by omega)] at cl
    have tni : (Int32.ofNat i).toNatClampNeg = i := clamp_of rfl (by omega)
    rw [tni]
    have hil : i < (pts x).length := by rw [pts_len]; exact cl
    obtain ⟨vr, r1, r2⟩ := c_part (N := N) (X := X) hh hx hil
    have htl : (tvN x).length = szN x := (kn2_sz c1).symm
    have eP : (pts x)[i]'hil = nR ((tvN x).getD i []) := by
      have h1 : (pts x)[i]? = some (nR ((tvN x).getD i [])) := by
        rw [pts2 c1, List.getElem?_map, List.getElem?_eq_getElem (by omega), List.getD_eq_getElem?_getD, List.getElem?_eq_getElem (by omega)]
        rfl
      rw [List.getElem?_eq_getElem hil] at h1
      exact Option.some.inj h1
    rw [eP] at r2
    have hr64 : ((tvN x).getD i []).length ≤ 64 := by
      rw [List.getD_eq_getElem?_getD, List.getElem?_eq_getElem (by omega)]
      exact (tv_wf c1 wx).2.2 _ (List.getElem_mem _)
    unfold setC
    generalize (tvN x).getD i [] = r at *
    refine ⟨fun hb t3 ht => ?_, fun hb => ?_⟩
    · have q5 := c_pt5 (N := N) (X := X) r2 hj hz hh c3 c4 hr64 hb
      have k5 : cf_255 N X (rf (Int32.ofNat 5)) t = some (t, .inl (some (.int (Int32.ofNat 4)))) := by
        rw [rf_tg (by omega)]
        exact c_kindOf
      have l5 : cf_256 N X (rf (Int32.ofNat 5)) t = some (t, .inl (some (.int (Int32.ofNat 5)))) := by
        rw [rf_tg (by omega)]
        exact c_lowOf
      clear e hb
      unfold cf_159 cf_159_0 cf_159_5 cf_159_11 cf_159_18 cf_159_25 cf_159_41 cf_159_57 cf_159_71 cf_159_74 cf_159_81 cf_159_88 cf_159_92 cf_159_98 cf_159_103 cf_159_124
      simp (disch := omega) only [ev_S, ev_C, ↓reduceIte, Nat.reduceEqDiff, Nat.reduceLeDiff, Nat.reduceAdd, Nat.reduceMul, Nat.reduceSub, reduceCtorEq, l32_0, l32_1, l32_2, l32_3, l32_4, l32_5, l32_6, l32_7, l32_8, l32_9, l32_10, l32_11, l32_12, l32_13, l32_14, l32_15, l32_16, l32_17, l32_18, l32_19, l32_20, l32_21, l32_22, l32_23, l32_24, l32_25, l32_26, l32_27, l32_28, l32_29, l32_33, l32_40, l32_41, l32_44, l32_45, l32_59, l32_61, l32_91, l32_93, l32_123, l32_125, p1, p2, p3, p4, T, lo, r1, q5, k5, l5, ht]
    · have jn : ¬ ivN yj < 0 := fun q => hb (Or.inl q)
      have jl : ivN yj < Int32.ofNat r.length := Classical.not_not.mp (fun q => hb (Or.inr q))
      obtain ⟨j, hj', e'⟩ := i32nn jn
      rw [e', ev_lt (by omega) (by omega)] at jl
      have tnj : (ivN yj).toNatClampNeg = j := by
        rw [e']
        exact clamp_of rfl (by omega)
      rw [tnj]
      obtain ⟨t2, v2, g1, g2, g3⟩ := c_ptr (N := N) (X := X) hN r2 hj hz hh c3 c4 hr64 e' jl (by omega) (by omega)
      have hls : (r.set j (ivN z)).length = r.length := List.length_set
      have wr : wfN (nR (r.set j (ivN z))) := by
        show (r.set j (ivN z)).length ≤ 64
        omega
      obtain ⟨t3, v3, k1, k2⟩ := c_ptp (N := N) (X := X) (z := nR (r.set j (ivN z))) hN g2.1 (g2.up hx) (g2.up hi) g3 wx wr dx (Nat.zero_le _) (by omega) (by show w + 0 ≤ 1000; omega)
      have eA : ansPut x yi (nR (r.set j (ivN z))) = ansM 2 (setP x i (nR (r.set j (ivN z)))) := by
        unfold ansPut
        rw [if_pos ⟨Or.inr ⟨by omega, by rw [c1]; rfl⟩, c2⟩]
        unfold ansPt
        rw [e, if_neg (by
          intro q
          rcases q with q | q
          · rw [e] at cn; exact cn q
          · refine q ?_
            rw [ev_lt (by omega) (by omega)]
            exact cl), tni, c1]
      rw [eA] at k2
      have kk := c_kn (N := N) (X := X) g3
      have kk : cf_255 N X v2 t2 = some (t2, .inl (some (.int (Int32.ofNat 1)))) := kk
      refine ⟨t3, v3, cG.F g2 k2 (by omega) (fun a ha => mk_n0 ha), fun t4 h4 => ?_⟩
      clear e hb eA k2 g2 g3 e'
      unfold cf_159 cf_159_0 cf_159_5 cf_159_11 cf_159_18 cf_159_25 cf_159_41 cf_159_57 cf_159_71 cf_159_74 cf_159_81 cf_159_88 cf_159_106 cf_159_119 cf_159_124
      simp (disch := omega) only [ev_S, ev_C, ↓reduceIte, Nat.reduceEqDiff, Nat.reduceLeDiff, Nat.reduceAdd, Nat.reduceMul, Nat.reduceSub, reduceCtorEq, l32_0, l32_1, l32_2, l32_3, l32_4, l32_5, l32_6, l32_7, l32_8, l32_9, l32_10, l32_11, l32_12, l32_13, l32_14, l32_15, l32_16, l32_17, l32_18, l32_19, l32_20, l32_21, l32_22, l32_23, l32_24, l32_25, l32_26, l32_27, l32_28, l32_29, l32_33, l32_40, l32_41, l32_44, l32_45, l32_59, l32_61, l32_91, l32_93, l32_123, l32_125, p1, p2, p3, p4, T, lo, r1, g1, kk, k1, h4]
end PUC
end
-- ### 98zzj.pure.lean.txt
section
/-! ===== PURE: run (139): instructions: put at a place ===== -/
section IPU
variable {N : Nat} {X : Nat → Option zz_C} {t0 t t1 t2 : cS} {s0 s s' s1 s2 : mS} {u u' w w' f f' p h fu m m' d d' n k b z j jn k0 nb rr kx kq : Nat} {code : List Ins} {Fs : List Fn} {T T' T1 : Ty} {out out' : List Int32} {F G : List Fm} {sh sh' S0 : Nat → Option Nod} {vs vs' : List (Option Nod)} {I I' J : List It} {q r pl kk : Int32} {v : Int64} {it y5 : It} {x : Nod} {l : List Nod} {c : Ins} {L L' M : List Nat} {g : Fn} {a a' : Fm} {ans : Ans} {xs : List Nod}
theorem pop0_s : ∀ {k : Nat} {L : List Nat}, pop0 k L = some (0 :: M) → pop0 (k + 1) L = some M
  | 0, L, h => by
    have h : L = 0 :: M := Option.some.inj h
    rw [h]
    rfl
  | k + 1, [], h => by cases h
  | k + 1, 0 :: L, h => pop0_s (k := k) (L := L) h
  | k + 1, (_ + 1) :: L, h => by cases h
theorem eff12 {c : Ins} (ho : c.1 = 12) (e : eff c L = some L') : pop0 (c.2.1 + 1) L = some (5 :: L') := by
  obtain ⟨o', jj, r0, aa, pp, xx, yy⟩ := c
  have ho : o' = 12 := ho
  subst ho
  have e : (pop0 jj L).bind pay = some L' := e
  show pop0 (jj + 1) L = _
  cases hM : pop0 jj L with
  | none => rw [hM] at e; cases e
  | some M =>
    rw [hM] at e
    have e : pay M = some L' := e
    rw [pay_eq e] at hM
    exact pop0_s hM
theorem trobP (hN : 170000 ≤ N) (K : CK code Fs fu ((m, 0, vs, J ++ y5 :: I') :: G) sh T out n) (hJ : ∀ y ∈ J, y.1 = 0) (q2 : y5.1 = 5) (CO : CX t0 t2 p code Fs fu S0 u' w' ((m, 0, vs, (0, [x], 0) :: (J ++ y5 :: I')) :: G) sh T out) (hu : u' ≤ 100000 + 20 * T.2.1 + 2100) (RK : RBk s0 s2 h code Fs fu T out (Int32.ofNat kq) pl) (M2 : RM0 s2 f' h code ((m, 0, vs, I') :: G) sh) (hf : 154242 ≤ f' ∧ f' ≤ 154250 + T.2.1 + 300) (hkq : 1 ≤ kq ∧ kq < 9) (hc : ∀ t3, cf_156 N X (Int32.ofNat kq) pl (Int32.ofNat 0) t2 = some (t3, .inl none) → ∀ Q, cf_141_L4 N X (Q + 2) 0 (Int32.ofNat n) t = cf_141_L4 N X Q 0 (Int32.ofNat (n + 2)) t3) (hs : ∀ Q x2, mf_68_L10 N (Q + (0 + 1)) 0 x2 s = mo_bi (mf_312 N s2) (fun s3 y => mf_68_L10 N Q 0 x2 s3)) : GO N X t0 s0 p h code Fs fu S0 t s n := by
  have b6 := K.bd.2.2.2.2.2
  have eL : ((0, [x], 0) :: (J ++ [y5])) ++ I' = ((0, [x], 0) : It) :: (J ++ y5 :: I') := by simp
  have CO' : CY t0 t2 p code Fs fu S0 u' w' ((m, 0, vs, ((0, [x], 0) :: (J ++ [y5])) ++ I') :: G) sh T out := by
    rw [eL]
    exact CO.cy
  refine trob (k := kq) (k0 := 2) (j0 := 0) (r := Int32.ofNat 0) (by omega) (by omega) (by omega) (by omega) (CO'.low (m' := m) (d' := 0) ?_) hu RK M2 hf (by intro q; cases q) ?_ (K.kt (J := J ++ [y5]) (I' := I') (by simp) K.1.2 ⟨Nat.le_refl _, Nat.le_refl _⟩ (by omega)) hc hs (by omega)
  · intro y hy
    rcases List.mem_cons.mp hy with e | e
    · rw [e]; show ¬ (0 : Nat) = 3; decide
    · rcases List.mem_append.mp e with e | e
      · rw [hJ y e]; decide
      · rw [List.mem_singleton.mp e, q2]; decide
  · rw [if_neg (by omega)]
    rfl
theorem three_xs (h : xs.length = 3) : ∃ x y z, xs = [x, y, z] := by
  match xs, h with
  | [x, y, z], _ => exact ⟨x, y, z, rfl⟩
theorem i_12 (hN : 170000 ≤ N) (C : CS t0 t p code Fs fu S0 ((m, 0, vs, I) :: G) sh T out) (R : RSm s0 s h code Fs fu ((m, 0, vs, I) :: G) sh T out) (K : CK code Fs fu ((m, 0, vs, I) :: G) sh T out n) (ho : (inA code m).1 = 12) : GO N X t0 s0 p h code Fs fu S0 t s n := by
  obtain ⟨u, w, f, g, C1, C2, C4, R1, R2, R4, P, hm, hcx, hrl, hG, ⟨b1, b2, b6⟩, hT, hol⟩ := open0 C R K
  obtain ⟨ec, er⟩ := cI_12 (code := code) (own := posC code m) (e := h) ho
  have hrr : (inA code m).2.2.1 < 8 + vs.length := P.2.2.2.2.1.1 (by omega)
  have hv14 := P.2.2.1.2
  obtain ⟨hjj, hyy⟩ := P.2.2.2.2.1.2.2.2.2.1 ho
  obtain ⟨L', z3, z4⟩ := K.nxt
  have eM := eff12 ho z3
  have hpl := K.ly0.2
  obtain ⟨xs, J, I1, e1, e2, e3, e4, e5, e6, e7, e8⟩ := topV K P eM
  obtain ⟨y5, I', r1, q2, r3⟩ := kdC e7
  subst r1
  subst e1
  have q3 : lyo (code.take (m + 1)) = some (kd I') := by rw [r3]; exact z4
  have q4 : plI I' := fun y hy => hpl y (List.mem_append_right _ (List.mem_cons_of_mem _ hy))
  have q5 : okIs code g.2.2.2.2.1 g.2.2.2.2.2 I' := (okIs.suf P.2.2.2.1).2
  have h69e : ob0 h + posR code m + 0 + 1 = ob0 h + posR code (m + 1) := by
    rw [posR_s hm, show rlen (inA code m) = 1 by unfold rlen; rw [ho]; rfl]
    omega
  generalize (inA code m).2.2.2.2.2.2 = py at *
  generalize (inA code m).2.2.2.2.2.1 = pv at *
  generalize (inA code m).2.2.2.2.1 = pl at *
  generalize (inA code m).2.2.1 = rr at *
  generalize (inA code m).2.1 = jj at *
  obtain ⟨D1, D2⟩ := C1.fet (N := N) (X := X) (n := n) (l1 := []) rfl C4 hm ec hcx (by omega)
  obtain ⟨s1, kx, y1, y2, y3, y4, y5', y6, ⟨y7, y8, y9, y10⟩, y11, y12⟩ := R1.fet (N := N) (l1 := []) hG rfl R4 hm er hrl
  have h69 : s1.1 69 = Int32.ofNat (ob0 h + posR code (m + 1)) := by rw [y5', y1]; exact congrArg Int32.ofNat h69e
  obtain ⟨v, d1, d2⟩ := D1.var (N := N) (X := X) (q := pv) (by omega) hG hrr hv14
  have hno := iC_no (it := y5) (Or.inr q2)
  have eN : rStk ((m, 0, vs, y5 :: I') :: G) = rStk ((m, 0, vs, I') :: G) := by
    rw [rStk_cons (m' := m) (d' := 0), hno.2]
    rfl
  have eW : wStk ((m, 0, vs, I') :: G) = wStk ((m, 0, vs, J ++ y5 :: I') :: G) := by
    rw [wStk_v (m' := m) (d' := 0) e5, wStk_cons (m' := m) (d' := 0) (by omega)]
  have eR : rStk ((m, 0, vs, J ++ y5 :: I') :: G) = rIt J ++ rStk ((m, 0, vs, I') :: G) := by
    rw [rStk_app (m' := m) (d' := 0), eN]
  obtain ⟨A, h51⟩ := RXm.rA (m' := m) (d' := 0) (J := J) (I' := y5 :: I') (xs := xs) y4 e3 hT R2 b1 e8
  rw [eN] at A h51
  have RL := y4.lower (b := (m, 0, vs, I')) eR rfl eW
  obtain ⟨k0, v0, g1, g2, g3⟩ := r_get (N := N) RL hG hrr hv14
  have hnb : (rStk ((m, 0, vs, I') :: G)).length ≤ 8700 := by
    rw [eR, List.length_append] at b1
    omega
  have h313 : ∀ s2, mf_318 N (Int32.ofNat kx) s1 = some (s2, none) → mf_313 N (Int32.ofNat kx) s1 = some (s2, none) := fun s2 h2 => by
    rw [r_op13 y3 y7]
    unfold mf_313_247 mf_313_252
    rw [h2]
    rfl
  have E1 : mf_318 N (Int32.ofNat kx) s1 = mf_318_63 N (Int32.ofNat kx) (if jj = 1 then Int32.ofNat 0 else Int32.ofNat 1) (Int32.ofNat rr) (Int32.ofNat ((rStk ((m, 0, vs, I') :: G)).length + jj)) (Int32.ofNat (rStk ((m, 0, vs, I') :: G)).length) k0 (mI s1 51 (Int32.ofNat (rStk ((m, 0, vs, I') :: G)).length)) := by
    rw [e2] at h51
    clear A RL g3 eR eN eW b1
    generalize (rStk ((m, 0, vs, I') :: G)).length = nb at *
    rcases hjj with z | z
    · subst z
      rw [if_pos rfl] at y9
      have y9 : s1.2.2.1 25 kx = -Int32.ofNat 1 := y9
      have sb1 : Int32.ofNat (nb + (1 + 1)) - Int32.ofNat 1 = Int32.ofNat (nb + 1) := by rw [← Int32.ofNat_sub _ _ (by omega)]; rfl
      have sb2 : Int32.ofNat (nb + (1 + 1)) - Int32.ofNat 2 = Int32.ofNat nb := by rw [← Int32.ofNat_sub _ _ (by omega)]; rfl
      rw [if_pos rfl]
      unfold mf_318 mf_318_0 mf_318_14 mf_318_15 mf_318_44 mf_318_50
      simp (disch := omega) only [ev_S, ev_P, ↓reduceIte, Nat.reduceEqDiff, Nat.reduceLeDiff, Nat.reduceAdd, Nat.reduceMul, Nat.reduceSub, reduceCtorEq, l32_0, l32_1, l32_2, l32_3, l32_4, l32_5, l32_6, l32_7, l32_8, l32_9, l32_10, l32_11, l32_12, l32_13, l32_14, l32_15, l32_16, l32_17, l32_18, l32_19, l32_20, l32_21, l32_22, l32_23, l32_24, l32_25, l32_26, l32_27, l32_28, l32_29, l32_33, l32_40, l32_41, l32_44, l32_45, l32_59, l32_61, l32_91, l32_93, l32_123, l32_125, y9, y8, h51, sb1, sb2, g1, l32_8000]
    · subst z
      rw [if_neg (by decide)] at y9
      have hy := hyy rfl
      rw [← y9] at hy
      have sb1 : Int32.ofNat (nb + (2 + 1)) - Int32.ofNat 1 = Int32.ofNat (nb + 2) := by rw [← Int32.ofNat_sub _ _ (by omega)]; rfl
      have sb2 : Int32.ofNat (nb + (2 + 1)) - Int32.ofNat 3 = Int32.ofNat nb := by rw [← Int32.ofNat_sub _ _ (by omega)]; rfl
      rw [if_neg (by decide)]
      unfold mf_318 mf_318_0 mf_318_10 mf_318_15 mf_318_35 mf_318_50
      simp (disch := omega) only [ev_S, ev_P, ↓reduceIte, Nat.reduceEqDiff, Nat.reduceLeDiff, Nat.reduceAdd, Nat.reduceMul, Nat.reduceSub, reduceCtorEq, l32_0, l32_1, l32_2, l32_3, l32_4, l32_5, l32_6, l32_7, l32_8, l32_9, l32_10, l32_11, l32_12, l32_13, l32_14, l32_15, l32_16, l32_17, l32_18, l32_19, l32_20, l32_21, l32_22, l32_23, l32_24, l32_25, l32_26, l32_27, l32_28, l32_29, l32_33, l32_40, l32_41, l32_44, l32_45, l32_59, l32_61, l32_91, l32_93, l32_123, l32_125, hy, y8, h51, sb1, sb2, g1, l32_8000]
  cases hgv : gV rr vs sh with
  | none =>
    rw [hgv] at d1 g3
    have d1 : v = bare := d1
    have g3 : k0 = Int32.ofNat 2 := g3
    obtain ⟨x1, x2, x3⟩ := RL.trb (N := N) (k := 7) (q := pv)
    have MF : RM0 (trb (mI s1 51 (Int32.ofNat (rStk ((m, 0, vs, I') :: G)).length)) (Int32.ofNat 7) pv) f h code ((m, 0, vs, J ++ y5 :: I') :: G) sh := RM0.mv y4.2.1 (fun _ _ => rfl) rfl rfl (Nat.le_refl _) (fun _ _ => rfl) y4.2.1.2.2.2.2.2.2.2 y4.2.1.1 rfl rfl
    refine trob0 (kq := 7) (k0 := 1) (ra := Int32.ofNat 0) (by omega) (by omega) (by omega) K hT ⟨Nat.le_refl _, Nat.le_refl _⟩ D1 (Nat.le_trans C2 (Nat.le_add_right _ _)) x2 MF ⟨R2.1, Nat.le_trans R2.2 (Nat.le_add_right _ _)⟩ rfl (fun t3 ht Q => ?_) (y12 _ 7 (h313 _ ?_) rfl (by omega)) b6
    · rw [D2 Q]
      clear D1 D2
      generalize jI t 49 17 (Int32.ofNat (posC code m + 0 + 1)) = t1 at *
      refine c_rdM (by decide) (by decide) (c_mv1.trans ?_)
      have ek : cf_255 N X v t1 = some (t1, .inl (some (.int (-Int32.ofNat 1)))) := by rw [d1]; exact c_kindOf
      have e66 : cf_147_66 N X pv v t1 = some (t3, .inl none) := by
        unfold cf_147_66 cf_147_70 cf_147_74 cf_147_82 cf_147_90
        simp (disch := omega) only [ev_S, ev_C, ↓reduceIte, Nat.reduceEqDiff, Nat.reduceLeDiff, Nat.reduceAdd, Nat.reduceMul, Nat.reduceSub, reduceCtorEq, l32_0, l32_1, l32_2, l32_3, l32_4, l32_5, l32_6, l32_7, l32_8, l32_9, l32_10, l32_11, l32_12, l32_13, l32_14, l32_15, l32_16, l32_17, l32_18, l32_19, l32_20, l32_21, l32_22, l32_23, l32_24, l32_25, l32_26, l32_27, l32_28, l32_29, l32_33, l32_40, l32_41, l32_44, l32_45, l32_59, l32_61, l32_91, l32_93, l32_123, l32_125, ek, ht]
      rw [e66] at d2
      unfold cf_142_143 cf_142_149 cf_142_296
      simp (disch := omega) only [ev_S, ev_C, ↓reduceIte, Nat.reduceEqDiff, Nat.reduceLeDiff, Nat.reduceAdd, Nat.reduceMul, Nat.reduceSub, reduceCtorEq, l32_0, l32_1, l32_2, l32_3, l32_4, l32_5, l32_6, l32_7, l32_8, l32_9, l32_10, l32_11, l32_12, l32_13, l32_14, l32_15, l32_16, l32_17, l32_18, l32_19, l32_20, l32_21, l32_22, l32_23, l32_24, l32_25, l32_26, l32_27, l32_28, l32_29, l32_33, l32_40, l32_41, l32_44, l32_45, l32_59, l32_61, l32_91, l32_93, l32_123, l32_125, d2]
    · rw [E1, g3]
      have y10 : s1.2.2.1 26 kx = pv := y10
      unfold mf_318_63 mf_318_67 mf_318_79
      simp (disch := omega) only [ev_S, ev_P, ↓reduceIte, Nat.reduceEqDiff, Nat.reduceLeDiff, Nat.reduceAdd, Nat.reduceMul, Nat.reduceSub, reduceCtorEq, l32_0, l32_1, l32_2, l32_3, l32_4, l32_5, l32_6, l32_7, l32_8, l32_9, l32_10, l32_11, l32_12, l32_13, l32_14, l32_15, l32_16, l32_17, l32_18, l32_19, l32_20, l32_21, l32_22, l32_23, l32_24, l32_25, l32_26, l32_27, l32_28, l32_29, l32_33, l32_40, l32_41, l32_44, l32_45, l32_59, l32_61, l32_91, l32_93, l32_123, l32_125, y10, x1, l32_8000]
  | some x =>
    rw [hgv] at d1 g3
    have gx := gV_gd K hgv
    have g3 : rvl (s1.2.2.1 47) f k0 v0 x := g3
    obtain ⟨tp, a1, a2, a3, a4⟩ := D1.push (N := N) (X := X) (m' := m) (d' := 0) (it := (0, [x], 0)) (o := some x) (by omega) d1 (by show ¬ (0 : Nat) = 3; decide) rfl
    have hpc1 : kI tp 49 17 = Int32.ofNat (posC code m + 1) := by rw [a3]; rfl
    obtain ⟨H1, H2⟩ := a2.fet (N := N) (X := X) (n := n + 1) (l1 := [((1 : Int32), cv rr, pv)]) (dd := 1) rfl hpc1 hm ec hcx (by omega)
    obtain ⟨F1, F2⟩ := H1.forget (N := N) (X := X)
    have R1' : ∀ Q, cf_141_L4 N X (Q + 2) 0 (Int32.ofNat n) t = cf_141_L4 N X (Q + 1) 0 (Int32.ofNat (n + 1)) tp := fun Q => by
      rw [show Q + 2 = Q + 1 + 1 by omega, D2 (Q + 1)]
      clear D1 D2 H1 H2 F1 F2
      generalize jI t 49 17 (Int32.ofNat (posC code m + 0 + 1)) = t1 at *
      refine c_rdM (by decide) (by decide) (c_mv1.trans ?_)
      have ek := c_kn (N := N) (X := X) d1
      have lx := kn_le (x := x)
      have e66 : cf_147_66 N X pv v t1 = some (tp, .inl none) := by
        generalize kn x = kq at *
        unfold cf_147_66 cf_147_70 cf_147_85 cf_147_90
        simp (disch := omega) only [ev_S, ev_C, ↓reduceIte, Nat.reduceEqDiff, Nat.reduceLeDiff, Nat.reduceAdd, Nat.reduceMul, Nat.reduceSub, reduceCtorEq, l32_0, l32_1, l32_2, l32_3, l32_4, l32_5, l32_6, l32_7, l32_8, l32_9, l32_10, l32_11, l32_12, l32_13, l32_14, l32_15, l32_16, l32_17, l32_18, l32_19, l32_20, l32_21, l32_22, l32_23, l32_24, l32_25, l32_26, l32_27, l32_28, l32_29, l32_33, l32_40, l32_41, l32_44, l32_45, l32_59, l32_61, l32_91, l32_93, l32_123, l32_125, ek, a1]
      rw [e66] at d2
      unfold cf_142_143 cf_142_149 cf_142_296
      simp (disch := omega) only [ev_S, ev_C, ↓reduceIte, Nat.reduceEqDiff, Nat.reduceLeDiff, Nat.reduceAdd, Nat.reduceMul, Nat.reduceSub, reduceCtorEq, l32_0, l32_1, l32_2, l32_3, l32_4, l32_5, l32_6, l32_7, l32_8, l32_9, l32_10, l32_11, l32_12, l32_13, l32_14, l32_15, l32_16, l32_17, l32_18, l32_19, l32_20, l32_21, l32_22, l32_23, l32_24, l32_25, l32_26, l32_27, l32_28, l32_29, l32_33, l32_40, l32_41, l32_44, l32_45, l32_59, l32_61, l32_91, l32_93, l32_123, l32_125, d2]
    have hk3 : ¬ k0 = Int32.ofNat 2 := by
      rcases g3.kz with z | z <;> rw [z.1] <;> decide
    have E2 : mf_318 N (Int32.ofNat kx) s1 = mf_318_80 N (Int32.ofNat kx) (if jj = 1 then Int32.ofNat 0 else Int32.ofNat 1) (Int32.ofNat rr) (Int32.ofNat ((rStk ((m, 0, vs, I') :: G)).length + jj)) (Int32.ofNat (rStk ((m, 0, vs, I') :: G)).length) (mI s1 51 (Int32.ofNat (rStk ((m, 0, vs, I') :: G)).length)) := by
      rw [E1]
      unfold mf_318_63
      exact if_pos hk3
    have hcJ : (cIt J).length = J.length := by rw [e4, List.length_map, List.length_reverse, e2, e6]
    have eC : cStk ((m, 0, vs, (0, [x], 0) :: (J ++ y5 :: I')) :: G) = some x :: (xs.reverse.map some ++ cStk ((m, 0, vs, y5 :: I') :: G)) := by
      rw [cStk_0 (m' := m) (d' := 0), cStk_app (m' := m) (d' := 0), e4]
    have hpk : kI (jI (jI tp 49 17 (Int32.ofNat (posC code m + 1 + 1))) 42 3 (Int32.ofNat 0)) 49 17 = Int32.ofNat (posC code m + 2) := rfl
    have hM1 : RM0 (mI s1 51 (Int32.ofNat (rStk ((m, 0, vs, I') :: G)).length)) f h code ((m, 0, vs, I') :: G) sh := RL.2.1
    have hlen : (cStk ((m, 0, vs, (0, [x], 0) :: (J ++ y5 :: I')) :: G)).length ≤ 17501 := by
      rw [cStk_0 (m' := m) (d' := 0), List.length_cons]
      omega
    have hlx : xs.length + 1 ≤ (cStk ((m, 0, vs, (0, [x], 0) :: (J ++ y5 :: I')) :: G)).length := by
      rw [eC, List.length_cons, List.length_append, List.length_map, List.length_reverse]
      omega
    generalize htS : jI (jI tp 49 17 (Int32.ofNat (posC code m + 1 + 1))) 42 3 (Int32.ofNat 0) = tS at *
    have h30 := hT.2.2.1
    rcases hjj with z | z
    · subst z
      obtain ⟨yi, z, rfl⟩ := two_xs e2
      have eC : cStk ((m, 0, vs, (0, [x], 0) :: (J ++ y5 :: I')) :: G) = some x :: some z :: some yi :: cStk ((m, 0, vs, y5 :: I') :: G) := eC
      have hyi := e8 yi List.mem_cons_self
      have hz := e8 z (List.mem_cons_of_mem _ List.mem_cons_self)
      obtain ⟨va, p1, c1⟩ := F2.top1 (N := N) (X := X) eC
      obtain ⟨vb, p2, c2⟩ := F2.top2 (N := N) (X := X) eC
      have hlx : 3 ≤ (cStk ((m, 0, vs, (0, [x], 0) :: (J ++ y5 :: I')) :: G)).length := hlx
      obtain ⟨vc, p3, c3⟩ := F2.peek (N := N) (X := X) (k := 3) (by omega) hlx
      have e33 : (cStk ((m, 0, vs, (0, [x], 0) :: (J ++ y5 :: I')) :: G))[3 - 1]'(Nat.lt_of_lt_of_le (by decide) hlx) = some yi := by
        have : (cStk ((m, 0, vs, (0, [x], 0) :: (J ++ y5 :: I')) :: G))[3 - 1]? = some (some yi) := by rw [eC]; rfl
        rw [List.getElem?_eq_getElem (Nat.lt_of_lt_of_le (by decide) hlx)] at this
        exact Option.some.inj this
      rw [e33] at c3
      obtain ⟨t2, v2, k1, k2⟩ := c_ptp (N := N) (X := X) hN F2.2.2.1 c1 c3 c2 gx.1 hz.1 gx.2 hz.2 (by omega) (Nat.zero_le _)
      have rP := r_put1 (N := N) (k := kx) (tg := Int32.ofNat rr) hN A g3 gx.1 gx.2 g1 g2
      refine vopP (x := x) (ans := ansPut x yi z) (R0 := mf_318 N (Int32.ofNat kx) s1) (kx := kx) (rr := rr) (a1 := (1, cv rr, pv)) (a2 := (17, py, pl)) (pl := pl) hN K P ho e5 hcJ (by omega) q2 q3 q4 q5 hrr ec hm hcx F2 C2 k2.F hpk (fun t3 h3 Q => ?_) y4 R2 y6 h69 (by rw [E2]; exact rP) h313 ?_ ?_ y11 y12 hG hol
      · rw [R1' Q, H2 Q]
        refine c_rdW (by decide) (by decide) (by decide) ((c_143o F1 p1 p2).trans (c_wk17.trans ?_))
        have h3 : cf_144 N X v2 (Int32.ofNat 3) pl t2 = some (t3, .inl none) := by
          rw [e6] at h3
          exact h3
        unfold cf_143_223 cf_143_235 cf_143_240 cf_143_245 cf_143_296
        simp (disch := omega) only [ev_S, ev_C, ↓reduceIte, Nat.reduceEqDiff, Nat.reduceLeDiff, Nat.reduceAdd, Nat.reduceMul, Nat.reduceSub, reduceCtorEq, l32_0, l32_1, l32_2, l32_3, l32_4, l32_5, l32_6, l32_7, l32_8, l32_9, l32_10, l32_11, l32_12, l32_13, l32_14, l32_15, l32_16, l32_17, l32_18, l32_19, l32_20, l32_21, l32_22, l32_23, l32_24, l32_25, l32_26, l32_27, l32_28, l32_29, l32_33, l32_40, l32_41, l32_44, l32_45, l32_59, l32_61, l32_91, l32_93, l32_123, l32_125, p3, k1, h3]
      · unfold ansPut ansPt
        exact okAn_i (okAn_i (okAn_l (by omega)) okAn_M) (okAn_l (by omega))
      · intro x' hx'
        unfold ansPut ansPt at hx'
        split at hx'
        · split at hx'
          · cases hx'
          · exact mk_n0 hx'
        · cases hx'
    · subst z
      have n1 : ¬ (2 : Nat) = 1 := by decide
      rw [if_neg n1] at E2 ec
      rw [if_neg n1] at y9
      obtain ⟨yi, yj, z, rfl⟩ := three_xs e2
      have eC : cStk ((m, 0, vs, (0, [x], 0) :: (J ++ y5 :: I')) :: G) = some x :: some z :: some yj :: some yi :: cStk ((m, 0, vs, y5 :: I') :: G) := eC
      have hlx : 4 ≤ (cStk ((m, 0, vs, (0, [x], 0) :: (J ++ y5 :: I')) :: G)).length := hlx
      have hyi := e8 yi List.mem_cons_self
      have hz := e8 z (List.mem_cons_of_mem _ (List.mem_cons_of_mem _ List.mem_cons_self))
      obtain ⟨va, p1, c1⟩ := F2.top1 (N := N) (X := X) eC
      obtain ⟨vb, p2, c2⟩ := F2.top2 (N := N) (X := X) eC
      obtain ⟨vc, p3, c3⟩ := F2.peek (N := N) (X := X) (k := 3) (by omega) (by omega)
      obtain ⟨vd, p4, c4⟩ := F2.peek (N := N) (X := X) (k := 4) (by omega) hlx
      have e33 : (cStk ((m, 0, vs, (0, [x], 0) :: (J ++ y5 :: I')) :: G))[3 - 1]'(Nat.lt_of_lt_of_le (by decide) hlx) = some yj := by
        have : (cStk ((m, 0, vs, (0, [x], 0) :: (J ++ y5 :: I')) :: G))[3 - 1]? = some (some yj) := by rw [eC]; rfl
        rw [List.getElem?_eq_getElem (Nat.lt_of_lt_of_le (by decide) hlx)] at this
        exact Option.some.inj this
      have e44 : (cStk ((m, 0, vs, (0, [x], 0) :: (J ++ y5 :: I')) :: G))[4 - 1]'(Nat.lt_of_lt_of_le (by decide) hlx) = some yi := by
        have : (cStk ((m, 0, vs, (0, [x], 0) :: (J ++ y5 :: I')) :: G))[4 - 1]? = some (some yi) := by rw [eC]; rfl
        rw [List.getElem?_eq_getElem (Nat.lt_of_lt_of_le (by decide) hlx)] at this
        exact Option.some.inj this
      rw [e33] at c3
      rw [e44] at c4
      obtain ⟨Z1, Z2⟩ := c_putC (N := N) (X := X) (pl := pl) (py := py) (yi := yi) (yj := yj) (z := z) hN F2.2.2.1 c1 c4 c3 c2 gx.1 gx.2 (by omega) (Nat.zero_le _) p1 p2 p3 p4
      have rP := r_put2 (N := N) (k := kx) (tg := Int32.ofNat rr) hN y3 A g3 gx.1 gx.2 g1 g2
      rw [← E2] at rP
      have hrun : ∀ t3, cf_159 N X pl py tS = some (t3, .inl none) → ∀ Q, cf_141_L4 N X (Q + 2) 0 (Int32.ofNat n) t = cf_141_L4 N X Q 0 (Int32.ofNat (n + 2)) t3 := fun t3 h3 Q => by
        rw [R1' Q, H2 Q]
        refine c_rdW (by decide) (by decide) (by decide) ((c_143o F1 p1 p2).trans (c_wk18.trans ?_))
        unfold cf_143_248 cf_143_254 cf_143_296
        simp (disch := omega) only [ev_S, ev_C, ↓reduceIte, Nat.reduceEqDiff, Nat.reduceLeDiff, Nat.reduceAdd, Nat.reduceMul, Nat.reduceSub, reduceCtorEq, l32_0, l32_1, l32_2, l32_3, l32_4, l32_5, l32_6, l32_7, l32_8, l32_9, l32_10, l32_11, l32_12, l32_13, l32_14, l32_15, l32_16, l32_17, l32_18, l32_19, l32_20, l32_21, l32_22, l32_23, l32_24, l32_25, l32_26, l32_27, l32_28, l32_29, l32_33, l32_40, l32_41, l32_44, l32_45, l32_59, l32_61, l32_91, l32_93, l32_123, l32_125, h3]
      unfold rPc at rP
      by_cases h0 : celT x yi yj z = 0
      · rw [if_pos h0] at rP
        obtain ⟨Z3, Z4⟩ := Z2 h0
        by_cases hb : ivN yj < 0 ∨ ¬ ivN yj < Int32.ofNat ((tvN x).getD (ivN yi).toNatClampNeg []).length
        · rw [if_pos hb, y9] at rP
          obtain ⟨-, x2, x3⟩ := RL.trb (N := N) (k := 5) (q := py)
          exact trobP (kq := 5) hN K e5 q2 F2 (by omega) x2 x3 ⟨R2.1, by omega⟩ (by omega) (fun t3 ht => hrun t3 (Z3 hb t3 ht)) (y12 _ 5 (h313 _ rP) rfl (by omega))
        · rw [if_neg hb] at rP
          obtain ⟨t2, v2, k1, k2⟩ := Z4 hb
          refine vopP (x := x) (ans := ansM 2 (setC x (ivN yi).toNatClampNeg (ivN yj).toNatClampNeg (ivN z))) (R0 := mf_318 N (Int32.ofNat kx) s1) (kx := kx) (rr := rr) (a1 := (1, cv rr, pv)) (a2 := (18, py, pl)) (pl := pl) hN K P ho e5 hcJ (by omega) q2 q3 q4 q5 hrr ec hm hcx F2 C2 k1 hpk (fun t3 h3 => hrun t3 (k2 t3 ?_)) y4 R2 y6 h69 rP h313 okAn_M (fun x' hx' => mk_n0 hx') y11 y12 hG hol
          rw [e6] at h3
          exact h3
      · rw [if_neg h0] at rP
        have h5 := celT_5 (x := x) (yi := yi) (yj := yj) (z := z)
        rcases rP with ⟨kq, s2, e1, e2', e3'⟩ | ⟨x', s2, e1, -, -⟩
        · have e1 : celT x yi yj z = kq := Sum.inl.inj e1
          subst e1
          obtain ⟨f', j1, j2, j3, j4⟩ := e3'
          obtain ⟨i1, i2, i3, i4⟩ := j4
          have RK := y4.1.vf j3 R2.1 i2
          rw [i3, i4, y6] at RK
          have M1 : RM0 s1 f h code ((m, 0, vs, I') :: G) sh := RM0.mv hM1 (fun _ _ => rfl) rfl rfl (Nat.le_refl _) (fun _ _ => rfl) hM1.2.2.2.2.2.2.2 hM1.1 rfl rfl
          have M2 := M1.vf (m' := m) (d' := 0) j3 rfl j1 j2
          exact trobP (kq := celT x yi yj z) hN K e5 q2 F2 (by omega) RK M2 ⟨by omega, by omega⟩ (by
            have : celT x yi yj z = 3 ∨ celT x yi yj z = 5 ∨ celT x yi yj z = 0 := by
              unfold celT
              split
              · split
                · exact Or.inr (Or.inl rfl)
                · exact Or.inr (Or.inr rfl)
              · exact Or.inl rfl
            omega) (fun t3 ht => hrun t3 (Z1 h0 t3 ht)) (y12 _ _ (h313 _ e2') i3 (by omega))
        · cases e1
end IPU
end
-- ### 98zzt.pure.lean.txt
section
/-! ===== PURE: run (149): the main loop ===== -/
section MAI
variable {N : Nat} {X : Nat → Option zz_C} {t0 : cS} {s0 : mS} {p h fu : Nat} {code : List Ins} {Fs : List Fn} {S0 : Nat → Option Nod}
/-- both loops end -/
def ENDS (N : Nat) (X : Nat → Option zz_C) (t0 : cS) (s0 : mS) (S0 : Nat → Option Nod) (t : cS) (s : mS) (n : Nat) : Prop := ∃ qc qr t' s', qc ≤ 600020 - n ∧ qr ≤ 600020 - n ∧ (∀ Q, cf_141_L4 N X (Q + qc) 0 (Int32.ofNat n) t = some (t', .inl none)) ∧ (∀ Q x2, mf_68_L10 N (Q + qr) 0 x2 s = mf_68_320 N x2 s') ∧ FIN t0 t' s0 s' S0
theorem main_run (H : ∀ (n : Nat) (t : cS) (s : mS) (m d : Nat) (vs : List (Option Nod)) (I : List It) (G : List Fm) (sh : Nat → Option Nod) (T : Ty) (out : List Int32), CS t0 t p code Fs fu S0 ((m, d, vs, I) :: G) sh T out → RSm s0 s h code Fs fu ((m, d, vs, I) :: G) sh T out → CK code Fs fu ((m, d, vs, I) :: G) sh T out n → ¬ (d = 0 ∧ (inA code m).1 = 26) → GO N X t0 s0 p h code Fs fu S0 t s n) : ∀ (M n : Nat) (t : cS) (s : mS) (m d : Nat) (vs : List (Option Nod)) (I : List It) (G : List Fm) (sh : Nat → Option Nod) (T : Ty) (out : List Int32), (600000 - n) * 20001 + (code.length - m) ≤ M → CS t0 t p code Fs fu S0 ((m, d, vs, I) :: G) sh T out → RSm s0 s h code Fs fu ((m, d, vs, I) :: G) sh T out → CK code Fs fu ((m, d, vs, I) :: G) sh T out n → ENDS N X t0 s0 S0 t s n := by
  intro M
  induction M with
  | zero =>
    intro n t s m d vs I G sh T out hM C R K
    obtain ⟨u, w, f, g, C1, C2, C4, R1, R2, R4, P, hm, hcx, hrl, hG, ⟨b1, b2, b6⟩, hT, hol⟩ := open0 C R K
    omega
  | succ M ih =>
    intro n t s m d vs I G sh T out hM C R K
    obtain ⟨u, w, f, g, C1, C2, C4, R1, R2, R4, P, hm, hcx, hrl, hG, ⟨b1, b2, b6⟩, hT, hol⟩ := open0 C R K
    have hlen := code_len K.1.1.2.2.1 hcx
    by_cases c : d = 0 ∧ (inA code m).1 = 26
    · obtain ⟨c0, c1⟩ := c
      subst c0
      obtain ⟨I', C', R', K'⟩ := s_26 C R K c1
      exact ih n t s (m + 1) 0 vs I' G sh T out (by omega) C' R' K'
    · rcases H n t s m d vs I G sh T out C R K c with ⟨k, j, t', s', F', sh', T', out', k1, k2, k3, hQ, hS, C', R', K'⟩ | ⟨k, j, t', s', k1, k2, hQ, hS, hF⟩
      · obtain ⟨a, G', eF, -⟩ := K'.2.2.1
        obtain ⟨m', d', vs', I'⟩ := a
        subst eF
        obtain ⟨u', w', f', g', -, -, -, -, -, -, -, -, -, -, -, ⟨-, -, b6'⟩, -, -⟩ := open0 C' R' K'
        have hlt : (600000 - (n + k)) * 20001 + (code.length - m') ≤ M := by
          have h1 : (600000 - (n + k)) + 1 ≤ 600000 - n := by omega
          have h2 := Nat.mul_le_mul_right 20001 h1
          rw [Nat.add_mul] at h2
          have hM' := hM
          obtain ⟨A, hA⟩ : ∃ A, A = (600000 - (n + k)) * 20001 := ⟨_, rfl⟩
          obtain ⟨B, hB⟩ : ∃ B, B = (600000 - n) * 20001 := ⟨_, rfl⟩
          rw [← hA] at h2 ⊢
          rw [← hB] at h2 hM'
          clear hA hB hM ih hQ hS h1 b6'
          omega
        obtain ⟨qc, qr, t'', s'', e1, e2, e3, e4, e5⟩ := ih (n + k) t' s' m' d' vs' I' G' sh' T' out' hlt C' R' K'
        refine ⟨qc + k, qr + j, t'', s'', by omega, by omega, fun Q => ?_, fun Q x2 => ?_, e5⟩
        · rw [← Nat.add_assoc, hQ (Q + qc)]
          exact e3 Q
        · rw [← Nat.add_assoc, hS (Q + qr) x2]
          exact e4 Q x2
      · exact ⟨k, j, t', s', by omega, by omega, hQ, hS, hF⟩
end MAI
end
-- ### 98zzu.pure.lean.txt
section
/-! ===== PURE: run (150): every instruction ===== -/
section ALI
variable {N : Nat} {X : Nat → Option zz_C} {t0 t : cS} {s0 s : mS} {p h fu m d n : Nat} {code : List Ins} {Fs : List Fn} {T : Ty} {out : List Int32} {G : List Fm} {sh S0 : Nat → Option Nod} {vs : List (Option Nod)} {I : List It} {L L' : List Nat}
theorem eff26 {c : Ins} (e : eff c L = some L') : c.1 ≤ 26 := by
  obtain ⟨o', jj, r0, aa, pp, xx, yy⟩ := c
  show o' ≤ 26
  by_cases q : o' ≤ 26
  · exact q
  · exfalso
    obtain ⟨k, rfl⟩ : ∃ k, o' = k + 27 := ⟨o' - 27, by omega⟩
    cases e
theorem no25 {c : Ins} (h25 : c.1 = 25) (e : eff c (kd I) = some L') (hp : plI I) : False := by
  obtain ⟨o', jj, r0, aa, pp, xx, yy⟩ := c
  have h25 : o' = 25 := h25
  subst h25
  have e : (match kd I with | 9 :: M => some M | _ => none) = some L' := e
  cases I with
  | nil => cases e
  | cons a I =>
    have h5 := hp a List.mem_cons_self
    have e : (match a.1 :: kd I with | 9 :: M => some M | _ => none) = some L' := e
    split at e
    · rename_i M hM
      have := (List.cons.inj hM).1
      omega
    · cases e
theorem oW_Z (hX : oX N X) (hY : oY X) (hZ : oZ X) : oW X := fun b hb h5 => by
  have h1 := (hY (b + 11) (by omega)).1
  obtain ⟨h2, h3⟩ := hZ (b + 11) (by omega)
  have ew : wrdV b = zz_out + (b + 11 + 1) := by unfold wrdV; omega
  refine ⟨by rw [ew]; exact h1, by rw [ew, h2, Nat.add_comm], ?_⟩
  rw [Nat.add_comm 11 b, h3]
  have key : ∀ b : Fin 28, ¬ b.1 = 5 → swm (b.1 + 11) = swb b.1 := by decide
  rw [key ⟨b, hb⟩ h5]
theorem all_i (hN : 170000 ≤ N) (hX : oX N X) (hW : oW X) (C : CS t0 t p code Fs fu S0 ((m, d, vs, I) :: G) sh T out) (R : RSm s0 s h code Fs fu ((m, d, vs, I) :: G) sh T out) (K : CK code Fs fu ((m, d, vs, I) :: G) sh T out n) (h26 : ¬ (d = 0 ∧ (inA code m).1 = 26)) : GO N X t0 s0 p h code Fs fu S0 t s n := by
  obtain ⟨a', G', eF, ⟨L, hL, hty⟩, -, -⟩ := K.2.2.1
  have eF := List.cons.inj eF
  obtain ⟨rfl, rfl⟩ := eF
  rcases hty with ⟨hd, -, -⟩ | ⟨hd, -⟩
  · have hd : d = 0 := hd
    subst hd
    obtain ⟨L', e1, e2⟩ := K.nxt
    have hpl := K.ly0.2
    have h27 := eff26 e1
    have hc : ∀ k, k ≤ 25 → ¬ (inA code m).1 = k → True := fun _ _ _ => trivial
    by_cases c0 : (inA code m).1 = 0
    · exact i_0 hN C R K c0
    by_cases c1 : (inA code m).1 = 1
    · exact i_1 hN C R K c1
    by_cases c2 : (inA code m).1 = 2
    · exact i_2 C R K c2
    by_cases c3 : (inA code m).1 = 3
    · exact i_3 hN C R K c3
    by_cases c4 : (inA code m).1 = 4
    · exact i_4 hN C R K c4
    by_cases c5 : (inA code m).1 = 5
    · exact i_5 hN C R K c5
    by_cases c6 : (inA code m).1 = 6
    · exact i_6 hN C R K c6
    by_cases c7 : (inA code m).1 = 7
    · exact i_7 hN C R K c7
    by_cases c8 : (inA code m).1 = 8
    · obtain ⟨g, P⟩ := K.pl0
      obtain ⟨q1, q2, q3⟩ := P.2.2.2.2.1.2.2.1 c8
      exact i_8 hN hX hW C R K c8 ⟨q1, q2⟩ q3
    by_cases c9 : (inA code m).1 = 9
    · exact i_9 hN C R K c9
    by_cases c10 : (inA code m).1 = 10
    · exact i_10 hN C R K c10
    by_cases c11 : (inA code m).1 = 11
    · exact i_11 hN C R K c11
    by_cases c12 : (inA code m).1 = 12
    · exact i_12 hN C R K c12
    by_cases c13 : (inA code m).1 = 13
    · exact i_13 hN C R K c13
    by_cases c14 : (inA code m).1 = 14
    · exact i_14 C R K c14
    by_cases c15 : (inA code m).1 = 15 ∨ (inA code m).1 = 16
    · exact i_15 C R K c15
    by_cases c17 : (inA code m).1 = 17
    · exact i_17 hN C R K c17
    by_cases c18 : (inA code m).1 = 18
    · exact i_18 hN C R K c18
    by_cases c19 : (inA code m).1 = 19
    · exact i_19 hN C R K c19
    by_cases c20 : (inA code m).1 = 20
    · exact i_20 hN C R K c20
    by_cases c21 : (inA code m).1 = 21
    · exact i_21 hN C R K c21
    by_cases c22 : (inA code m).1 = 22
    · exact i_22 C R K c22
    by_cases c23 : (inA code m).1 = 23
    · exact i_23 C R K c23
    by_cases c24 : (inA code m).1 = 24
    · exact i_24 C R K c24
    by_cases c25 : (inA code m).1 = 25
    · exact (no25 c25 e1 hpl).elim
    exact absurd ⟨rfl, by omega⟩ h26
  · have hd : d = 1 := hd
    subst hd
    exact i_10n hN C R K
/-- a run of acts ends -/
theorem run_ends (hN : 170000 ≤ N) (hX : oX N X) (hW : oW X) (C : CS t0 t p code Fs fu S0 ((m, d, vs, I) :: G) sh T out) (R : RSm s0 s h code Fs fu ((m, d, vs, I) :: G) sh T out) (K : CK code Fs fu ((m, d, vs, I) :: G) sh T out n) : ENDS N X t0 s0 S0 t s n := main_run (fun n t s m d vs I G sh T out C R K h26 => all_i hN hX hW C R K h26) _ n t s m d vs I G sh T out (Nat.le_refl _) C R K
end ALI
end
-- ### 98zzv.pure.lean.txt
section
/-! ===== PURE: run (151): a THING as one of depth 4; a THING is laid on a shelf (the class) ===== -/
/-- one deeper -/
def lf1 : (n : Nat) → Th n → Th (n + 1)
  | 0, p => (.inl p : Pl ⊕ List (Th 0))
  | n + 1, x => match (show Pl ⊕ List (Th n) from x) with
    | .inl p => (.inl p : Pl ⊕ List (Th (n + 1)))
    | .inr l => (.inr (l.map (lf1 n)) : Pl ⊕ List (Th (n + 1)))
theorem map_eq_of {α β : Type} {f g : α → β} : ∀ {l : List α}, (∀ x ∈ l, f x = g x) → l.map f = l.map g
  | [], _ => rfl
  | a :: l, h => by rw [List.map_cons, List.map_cons, h a List.mem_cons_self, map_eq_of (fun x hx => h x (List.mem_cons_of_mem _ hx))]
theorem lf1_ser : ∀ (n : Nat) (x : Th n), ser (n + 1) (lf1 n x) = ser n x
  | 0, _ => rfl
  | n + 1, x => by
    obtain p | l := (x : Pl ⊕ List (Th n))
    · rfl
    · show 3 :: Int32.ofNat (l.map (lf1 n)).length :: (l.map (lf1 n)).flatMap (ser (n + 1)) = 3 :: Int32.ofNat l.length :: l.flatMap (ser n)
      rw [List.length_map]
      have : ∀ l : List (Th n), (l.map (lf1 n)).flatMap (ser (n + 1)) = l.flatMap (ser n) := by
        intro l
        induction l with
        | nil => rfl
        | cons a l ih => rw [List.map_cons, List.flatMap_cons, List.flatMap_cons, ih, lf1_ser n a]
      rw [this]
theorem lf1_bulk : ∀ (n : Nat) (x : Th n), bulk (n + 1) (lf1 n x) = bulk n x
  | 0, _ => rfl
  | n + 1, x => by
    obtain p | l := (x : Pl ⊕ List (Th n))
    · rfl
    · show 1 + ((l.map (lf1 n)).map (bulk (n + 1))).sum = 1 + (l.map (bulk n)).sum
      rw [List.map_map]
      congr 2
      exact map_eq_of (fun y _ => lf1_bulk n y)
theorem lf1_int : ∀ (n : Nat) (x : Th n), intT (n + 1) (lf1 n x) = intT n x
  | 0, _ => rfl
  | n + 1, x => by
    obtain p | l := (x : Pl ⊕ List (Th n))
    · rfl
    · rfl
theorem lf1_wf : ∀ (n : Nat) (x : Th n), wfT n x → wfT (n + 1) (lf1 n x)
  | 0, _, h => h
  | n + 1, x, h => by
    obtain p | l := (x : Pl ⊕ List (Th n))
    · exact h
    · have h : l.length ≤ 20 ∧ 1 + (l.map (bulk n)).sum ≤ 600 ∧ ∀ y ∈ l, wfT n y := h
      show (l.map (lf1 n)).length ≤ 20 ∧ 1 + ((l.map (lf1 n)).map (bulk (n + 1))).sum ≤ 600 ∧ ∀ y ∈ l.map (lf1 n), wfT (n + 1) y
      refine ⟨by rw [List.length_map]; exact h.1, ?_, fun y hy => ?_⟩
      · rw [List.map_map]
        have e : l.map (bulk (n + 1) ∘ lf1 n) = l.map (bulk n) := map_eq_of (fun y _ => lf1_bulk n y)
        rw [e]
        exact h.2.1
      · obtain ⟨z, hz, e⟩ := List.mem_map.mp hy
        rw [← e]
        exact lf1_wf n z (h.2.2 z hz)
theorem lf1_lay {h : Nat → Int32} {R : Nat → Prop} : ∀ (n : Nat) (x : Th n) (a : Nat), Lay n h R a x → Lay (n + 1) h R a (lf1 n x)
  | 0, _, _, H => H
  | n + 1, x, a, H => by
    obtain p | l := (x : Pl ⊕ List (Th n))
    · exact H
    · have H : (∀ y, a ≤ y → y < a + 2 + 2 * l.length → R y) ∧ h a = 3 ∧ h (a + 1) = Int32.ofNat l.length ∧ ∀ i (hi : i < l.length), (∀ z, intT n l[i] = some z → h (a + 2 + 2 * i) = 0 ∧ h (a + 3 + 2 * i) = z) ∧ (intT n l[i] = none → h (a + 2 + 2 * i) = 1 ∧ ∃ b : Nat, Int32.ofNat a + h (a + 3 + 2 * i) = Int32.ofNat b ∧ Lay n h R b l[i]) := H
      show (∀ y, a ≤ y → y < a + 2 + 2 * (l.map (lf1 n)).length → R y) ∧ h a = 3 ∧ h (a + 1) = Int32.ofNat (l.map (lf1 n)).length ∧ ∀ i (hi : i < (l.map (lf1 n)).length), (∀ z, intT (n + 1) (l.map (lf1 n))[i] = some z → h (a + 2 + 2 * i) = 0 ∧ h (a + 3 + 2 * i) = z) ∧ (intT (n + 1) (l.map (lf1 n))[i] = none → h (a + 2 + 2 * i) = 1 ∧ ∃ b : Nat, Int32.ofNat a + h (a + 3 + 2 * i) = Int32.ofNat b ∧ Lay (n + 1) h R b (l.map (lf1 n))[i])
      obtain ⟨h1, h2, h3, h4⟩ := H
      refine ⟨by rw [List.length_map]; exact h1, h2, by rw [List.length_map]; exact h3, fun i hi => ?_⟩
      have hi' : i < l.length := by rw [List.length_map] at hi; exact hi
      rw [List.getElem_map, lf1_int]
      obtain ⟨q1, q2⟩ := h4 i hi'
      refine ⟨q1, fun e => ?_⟩
      obtain ⟨r1, b, r2, r3⟩ := q2 e
      exact ⟨r1, b, r2, lf1_lay n l[i] b r3⟩
theorem lf4 : ∀ (d n : Nat) (x : Th n), n + d = 4 → wfT n x → ∃ y : Th 4, ser 4 y = ser n x ∧ wfT 4 y ∧ intT 4 y = intT n x ∧ ∀ h R a, Lay n h R a x → Lay 4 h R a y
  | 0, n, x, e, hw => by
    have e : n = 4 := e
    subst e
    exact ⟨x, rfl, hw, rfl, fun _ _ _ H => H⟩
  | d + 1, n, x, e, hw => by
    obtain ⟨y, e1, e2, e3, e4⟩ := lf4 d (n + 1) (lf1 n x) (by omega) (lf1_wf n x hw)
    exact ⟨y, e1.trans (lf1_ser n x), e2, e3.trans (lf1_int n x), fun h R a H => e4 h R a (lf1_lay n x a H)⟩
section WRT
variable {N : Nat} {X : Nat → Option zz_C} {t t' t1 t2 : cS} {u w σ j B : Nat} {ξ ζ : List Int32} {v : Int64} {x : Nod}
abbrev rwK (t : cS) (σ j : Nat) : Nat := (kA t (2000000 + 20 * σ + 1 + 1 + j)).1
/-- the room that writing takes -/
def rWK (σ j : Nat) (t t' : cS) : Prop := kN t' + rwK t σ j ≤ kN t + rwK t' σ j ∧ kQ t' + 2 * rwK t σ j ≤ kQ t + 2 * rwK t' σ j ∧ rwK t σ j ≤ rwK t' σ j
theorem rWK.rf : rWK σ j t t := ⟨Nat.le_refl _, Nat.le_refl _, Nat.le_refl _⟩
theorem rWK.tr (h : rWK σ j t t1) (g : rWK σ j t1 t2) : rWK σ j t t2 := by
  obtain ⟨h1, h2, h3⟩ := h
  obtain ⟨g1, g2, g3⟩ := g
  exact ⟨by omega, by omega, by omega⟩
/-- ξ was written on shelf j; the heap stands -/
def Wst (B σ j : Nat) (t : cS) (ξ : List Int32) (u w : Nat) : Prop := cS0 t σ ∧ cS1 t σ j ξ ∧ kN t ≤ B + rwK t σ j ∧ cHp t u w ∧ B + 3300 < zz_out ∧ j < 8
/-- what is left alone -/
def wfr (σ j : Nat) (t t' : cS) : Prop := fSh σ j t t' ∧ rWK σ j t t'
theorem wfr.rf : wfr σ j t t := ⟨fSh.rf, rWK.rf⟩
theorem wfr.tr (h : wfr σ j t t1) (g : wfr σ j t1 t2) : wfr σ j t t2 := ⟨h.1.tr g.1, h.2.tr g.2⟩
theorem wfr.ce (h : wfr σ j t t') : cel t' = cel t := by
  have := h.1.1.2.2.2.2.1 43 (by show ¬ 43 = 2000000 + 20 * σ + 1 + 1 + j; omega) (by decide)
  unfold cel
  rw [this]
theorem wfr.hp (h : wfr σ j t t') (hh : cHp t u w) (hk : kN t' + 200 < zz_out) : cHp t' u w := by
  obtain ⟨⟨⟨k1, k2, k3, k4, k5, k6, k7, k8⟩, -, -⟩, -⟩ := h
  obtain ⟨h1, h2, h3, h4, h5, h6, h7, h8, h9⟩ := hh
  have e43 := k5 43 (by show ¬ 43 = 2000000 + 20 * σ + 1 + 1 + j; omega) (by decide)
  have e44 := k5 44 (by show ¬ 44 = 2000000 + 20 * σ + 1 + 1 + j; omega) (by decide)
  have e46 := k4 46 (by show ¬ (46 = 2000000 + 20 * σ + 1 + 1 + j ∨ 46 = 2000000 + 20 * σ + 10); omega) (by decide)
  refine ⟨by rw [k1 42 1 (fun q => q)]; exact h1, by rw [k1 42 3 (fun q => q)]; exact h2, ?_, ?_, ?_, ?_, ?_, ?_, ?_, ?_⟩
  · rw [e43]; exact h3
  · rw [e44]; exact h4
  · rw [e44]; exact h5
  · rw [e43]; exact h6
  · rw [e43]; exact h7
  · rw [e44]; exact h8
  · omega
  · rw [e46]; exact h9.2
/-- a number is written -/
theorem Wst.put (h : Wst B σ j t ξ u w) (hl : ξ.length ≤ 1400) (x : Int32) : ∃ t', cf_25 N X σ (Int32.ofNat j) x t = some (t', .inl none) ∧ Wst B σ j t' (ξ ++ [x]) u w ∧ wfr σ j t t' := by
  obtain ⟨h0, h1, hk, hh, hB, hj⟩ := h
  have hrl : rwK t σ j ≤ 3000 := h0.2.2 j hj
  have key : ∃ t', cf_25 N X σ (Int32.ofNat j) x t = some (t', .inl none) ∧ cS0 t' σ ∧ cS1 t' σ j (ξ ++ [x]) ∧ fSh σ j t t' ∧ rWK σ j t t' := by
    by_cases c : ξ.length < rwK t σ j
    · obtain ⟨t', q1, q2, q3, q4, q5, q6⟩ := c_put38 (N := N) (X := X) h0 hj h1 c x
      refine ⟨t', ?_, q2, q3, q4, ?_⟩
      · rw [← q1]
        obtain ⟨g1, g2, g3⟩ := h0
        unfold cf_25 cf_25_0
        rw [if_pos g1, i32c (m := j) (by omega), if_pos (fun q => q.elim (i32n (by omega)) (by omega)), if_pos (fun q => q.elim (i32n (by omega)) (by omega)), h1.1, if_pos ((i32lt (by omega) (by omega)).mpr c)]
      · obtain ⟨p1, p2, p3⟩ := q5
        exact ⟨by unfold rwK; omega, by unfold rwK; omega, by unfold rwK; omega⟩
    · obtain ⟨t', q1, q2, q3, q4, q5⟩ := c_put (N := N) (X := X) h0 hj h1 hl (by omega) x
      obtain ⟨p1, p2, p3⟩ := q5
      have := q3.2.1
      rw [List.length_append, List.length_singleton] at this
      exact ⟨t', q1, q2, q3, q4, by unfold rwK at *; omega, p2, p3⟩
  obtain ⟨t', q1, q2, q3, q4, q5⟩ := key
  have hw : wfr σ j t t' := ⟨q4, q5⟩
  have hk' : kN t' ≤ B + rwK t' σ j := by
    have := q5.1
    omega
  have hrl' : rwK t' σ j ≤ 3000 := q2.2.2 j hj
  exact ⟨t', q1, ⟨q2, q3, hk', hw.hp hh (by omega), hB, hj⟩, hw⟩
/-- what is asked of a call that writes x, told by the numbers sr -/
def wrP (B σ j u w : Nat) (call : Int64 → cS → kO) (x : Nod) (sr : List Int32) : Prop := ∀ (t : cS) (v : Int64) (ξ : List Int32), Wst B σ j t ξ u w → cN (cel t) u v x → ξ.length + sr.length ≤ 1300 → ∃ t', call v t = some (t', .inl none) ∧ Wst B σ j t' (ξ ++ sr) u w ∧ wfr σ j t t'
theorem c_wrRow {r : List Int32} (hN : 170000 ≤ N) (hr : r.length ≤ 64) : wrP B σ j u w (fun v => cf_221 N X σ (Int32.ofNat j) v) (nR r) (serRow r) := by
  intro t v ξ H hx hl
  have hl : ξ.length + (r.length + 1) ≤ 1300 := hl
  have hsz : cf_128 N X v t = some (t, .inl (some (.int (Int32.ofNat r.length)))) := c_sizeN (N := N) (X := X) H.2.2.2.1 hx
  obtain ⟨t1, a1, a2, a3⟩ := H.put (N := N) (X := X) (by omega) (Int32.ofNat r.length)
  have hx1 : cN (cel t1) u v (nR r) := by rw [a3.ce]; exact hx
  have key : ∀ (d i q : Nat) (t2 : cS), i + d = r.length → Wst B σ j t2 (ξ ++ [Int32.ofNat r.length] ++ r.take i) u w → wfr σ j t1 t2 → ∃ t', cf_221_L1 N X (q + (d + 1)) 0 σ (Int32.ofNat j) v (Int32.ofNat r.length) (Int32.ofNat i) t2 = some (t', .inl none) ∧ Wst B σ j t' (ξ ++ [Int32.ofNat r.length] ++ r) u w ∧ wfr σ j t1 t' := by
    intro d
    induction d with
    | zero =>
      intro i q t2 hi W2 f2
      have hi : i = r.length := hi
      subst hi
      rw [List.take_length] at W2
      refine ⟨t2, ?_, W2, f2⟩
      show cf_221_17 N X (cf_221_L1 N X q) σ (Int32.ofNat j) v (Int32.ofNat r.length) (Int32.ofNat r.length) t2 = _
      unfold cf_221_17 cf_221_42
      simp (disch := omega) only [ev_S, ev_C, ↓reduceIte, Nat.reduceEqDiff, Nat.reduceLeDiff, Nat.reduceAdd, Nat.reduceMul, Nat.reduceSub, reduceCtorEq, l32_0, l32_1, l32_2, l32_3, l32_4, l32_5, l32_6, l32_7, l32_8, l32_9, l32_10, l32_11, l32_12, l32_13, l32_14, l32_15, l32_16, l32_17, l32_18, l32_19, l32_20, l32_21, l32_22, l32_23, l32_24, l32_25, l32_26, l32_27, l32_28, l32_29, l32_33, l32_40, l32_41, l32_44, l32_45, l32_59, l32_61, l32_91, l32_93, l32_123, l32_125]
    | succ d ih =>
      intro i q t2 hi W2 f2
      have hi1 : i < r.length := by omega
      have hx2 : cV (cel t2) u v (vR r) := by
        have : cN (cel t2) u v (nR r) := by rw [f2.ce]; exact hx1
        exact this
      have hat := c_intAt (N := N) (X := X) W2.2.2.2.1 hx2 hi1
      obtain ⟨t3, b1, b2, b3⟩ := W2.put (N := N) (X := X) (by rw [List.length_append, List.length_append, List.length_singleton, List.length_take]; omega) r[i]
      rw [List.append_assoc _ (r.take i), List.take_append_getElem hi1] at b2
      obtain ⟨t', c1, c2, c3⟩ := ih (i + 1) q t3 (by omega) b2 (f2.tr b3)
      refine ⟨t', ?_, c2, c3⟩
      rw [← c1]
      show cf_221_17 N X (cf_221_L1 N X (q + (d + 1))) σ (Int32.ofNat j) v (Int32.ofNat r.length) (Int32.ofNat i) t2 = _
      have n1 : ¬ r.length ≤ i := by omega
      have kh := W2.1.1
      clear b2 c2 c3 W2 H a2 c1 ih
      generalize r[i] = ri at *
      generalize r.length = rl at *
      unfold cf_221_17 cf_221_24 cf_221_33 cf_221_36
      simp (disch := omega) only [ev_S, ev_C, ↓reduceIte, Nat.reduceEqDiff, Nat.reduceLeDiff, Nat.reduceAdd, Nat.reduceMul, Nat.reduceSub, reduceCtorEq, l32_0, l32_1, l32_2, l32_3, l32_4, l32_5, l32_6, l32_7, l32_8, l32_9, l32_10, l32_11, l32_12, l32_13, l32_14, l32_15, l32_16, l32_17, l32_18, l32_19, l32_20, l32_21, l32_22, l32_23, l32_24, l32_25, l32_26, l32_27, l32_28, l32_29, l32_33, l32_40, l32_41, l32_44, l32_45, l32_59, l32_61, l32_91, l32_93, l32_123, l32_125, n1, hat, kh, b1]
  obtain ⟨t', c1, c2, c3⟩ := key r.length 0 (N - (r.length + 1)) t1 (Nat.zero_add _) (by rw [List.take_zero, List.append_nil]; exact a2) wfr.rf
  refine ⟨t', ?_, ?_, a3.tr c3⟩
  · rw [Nat.sub_add_cancel (by omega)] at c1
    have kh := H.1.1
    clear c2 c3 a2 key H hx1
    generalize r.length = rl at *
    show cf_221 N X σ (Int32.ofNat j) v t = _
    unfold cf_221 cf_221_0 cf_221_5 cf_221_14
    simp (disch := omega) only [ev_S, ev_C, ↓reduceIte, Nat.reduceEqDiff, Nat.reduceLeDiff, Nat.reduceAdd, Nat.reduceMul, Nat.reduceSub, reduceCtorEq, l32_0, l32_1, l32_2, l32_3, l32_4, l32_5, l32_6, l32_7, l32_8, l32_9, l32_10, l32_11, l32_12, l32_13, l32_14, l32_15, l32_16, l32_17, l32_18, l32_19, l32_20, l32_21, l32_22, l32_23, l32_24, l32_25, l32_26, l32_27, l32_28, l32_29, l32_33, l32_40, l32_41, l32_44, l32_45, l32_59, l32_61, l32_91, l32_93, l32_123, l32_125, hsz, kh, a1, c1]
  · rw [List.append_assoc] at c2
    exact c2
end WRT
end
-- ### 98zzw.pure.lean.txt
section
/-! ===== PURE: run (152): a THING is laid on a shelf (the class): all kinds ===== -/
section WRS
variable {N : Nat} {X : Nat → Option zz_C} {t t' t1 t2 : cS} {u w σ j B : Nat} {ξ ζ : List Int32} {v : Int64} {x : Nod}
theorem flat_tk {sr : Nod → List Int32} {xs : List Nod} {i : Nat} (hi : i < xs.length) : (xs.take (i + 1)).flatMap sr = (xs.take i).flatMap sr ++ sr xs[i] := by
  rw [← List.take_append_getElem hi, List.flatMap_append]
  simp
theorem flat_le {sr : Nod → List Int32} {xs : List Nod} {i : Nat} : ((xs.take i).flatMap sr).length ≤ (xs.flatMap sr).length := by
  have : xs.flatMap sr = (xs.take i).flatMap sr ++ (xs.drop i).flatMap sr := by rw [← List.flatMap_append, List.take_append_drop]
  rw [this, List.length_append]
  omega
/-- parts, one after the other: call writes each of them -/
theorem c_wrL {rk : Nat → List Value → cS → kO} {call : Int64 → cS → kO} {k dp : Nat} {xs : List Nod} {sr : Nod → List Int32} (hk : (k = 2 ∧ call = (fun v => cf_221 N X σ (Int32.ofNat j) v)) ∨ (k = 3 ∧ call = (fun v => rk 220 [.ref σ, .int (Int32.ofNat j), .long v, .int (Int32.ofNat (dp + 1))]))) (hl : xs.length ≤ 20) (hxs : pts x = xs) (hx : cN (cel t1) u v x) (hc : ∀ y ∈ xs, wrP B σ j u w call y (sr y)) (hlen : ξ.length + (xs.flatMap sr).length ≤ 1300) : ∀ (d i q : Nat) (t2 : cS), i + d = xs.length → Wst B σ j t2 (ξ ++ (xs.take i).flatMap sr) u w → wfr σ j t1 t2 → ∃ t', cf_220_L4 N X rk (q + (d + 1)) 0 σ (Int32.ofNat j) v (Int32.ofNat dp) (Int32.ofNat k) (Int32.ofNat xs.length) (Int32.ofNat i) t2 = some (t', .inl none) ∧ Wst B σ j t' (ξ ++ xs.flatMap sr) u w ∧ wfr σ j t1 t' := by
  intro d
  induction d with
  | zero =>
    intro i q t2 hi W2 f2
    have hi : i = xs.length := hi
    subst hi
    rw [List.take_length] at W2
    refine ⟨t2, ?_, W2, f2⟩
    show cf_220_65 N X rk (cf_220_L4 N X rk q) σ (Int32.ofNat j) v (Int32.ofNat dp) (Int32.ofNat k) (Int32.ofNat xs.length) (Int32.ofNat xs.length) t2 = _
    unfold cf_220_65 cf_220_117
    simp (disch := omega) only [ev_S, ev_C, ↓reduceIte, Nat.reduceEqDiff, Nat.reduceLeDiff, Nat.reduceAdd, Nat.reduceMul, Nat.reduceSub, reduceCtorEq, l32_0, l32_1, l32_2, l32_3, l32_4, l32_5, l32_6, l32_7, l32_8, l32_9, l32_10, l32_11, l32_12, l32_13, l32_14, l32_15, l32_16, l32_17, l32_18, l32_19, l32_20, l32_21, l32_22, l32_23, l32_24, l32_25, l32_26, l32_27, l32_28, l32_29, l32_33, l32_40, l32_41, l32_44, l32_45, l32_59, l32_61, l32_91, l32_93, l32_123, l32_125]
  | succ d ih =>
    intro i q t2 hi W2 f2
    have hi1 : i < xs.length := by omega
    have hx2 : cN (cel t2) u v x := by rw [f2.ce]; exact hx
    have hip : i < (pts x).length := by rw [hxs]; exact hi1
    obtain ⟨v', p1, p2⟩ := c_part (N := N) (X := X) W2.2.2.2.1 hx2 hip
    have ep : (pts x)[i] = xs[i] := by simp only [hxs]
    rw [ep] at p2
    have hle := flat_le (sr := sr) (xs := xs) (i := i + 1)
    rw [flat_tk hi1, List.length_append] at hle
    obtain ⟨t3, b1, b2, b3⟩ := hc _ (List.getElem_mem hi1) t2 v' _ W2 p2 (by rw [List.length_append]; omega)
    rw [List.append_assoc, ← flat_tk hi1] at b2
    obtain ⟨t', c1, c2, c3⟩ := ih (i + 1) q t3 (by omega) b2 (f2.tr b3)
    refine ⟨t', ?_, c2, c3⟩
    rw [← c1]
    show cf_220_65 N X rk (cf_220_L4 N X rk (q + (d + 1))) σ (Int32.ofNat j) v (Int32.ofNat dp) (Int32.ofNat k) (Int32.ofNat xs.length) (Int32.ofNat i) t2 = _
    have n1 : ¬ xs.length ≤ i := by omega
    have kh := W2.1.1
    clear c1 c2 c3 b2 W2 ih hc hle hxs p2 ep
    generalize xs.length = xl at *
    rcases hk with ⟨rfl, rfl⟩ | ⟨rfl, rfl⟩
    · have b1 : cf_221 N X σ (Int32.ofNat j) v' t2 = some (t3, .inl none) := b1
      unfold cf_220_65 cf_220_72 cf_220_78 cf_220_88 cf_220_91 cf_220_111
      simp (disch := omega) only [ev_S, ev_C, ↓reduceIte, Nat.reduceEqDiff, Nat.reduceLeDiff, Nat.reduceAdd, Nat.reduceMul, Nat.reduceSub, reduceCtorEq, l32_0, l32_1, l32_2, l32_3, l32_4, l32_5, l32_6, l32_7, l32_8, l32_9, l32_10, l32_11, l32_12, l32_13, l32_14, l32_15, l32_16, l32_17, l32_18, l32_19, l32_20, l32_21, l32_22, l32_23, l32_24, l32_25, l32_26, l32_27, l32_28, l32_29, l32_33, l32_40, l32_41, l32_44, l32_45, l32_59, l32_61, l32_91, l32_93, l32_123, l32_125, n1, p1, kh, b1]
    · have b1 : rk 220 [.ref σ, .int (Int32.ofNat j), .long v', .int (Int32.ofNat (dp + 1))] t2 = some (t3, .inl none) := b1
      unfold cf_220_65 cf_220_72 cf_220_94 cf_220_104 cf_220_111
      simp (disch := omega) only [ev_S, ev_C, ↓reduceIte, Nat.reduceEqDiff, Nat.reduceLeDiff, Nat.reduceAdd, Nat.reduceMul, Nat.reduceSub, reduceCtorEq, l32_0, l32_1, l32_2, l32_3, l32_4, l32_5, l32_6, l32_7, l32_8, l32_9, l32_10, l32_11, l32_12, l32_13, l32_14, l32_15, l32_16, l32_17, l32_18, l32_19, l32_20, l32_21, l32_22, l32_23, l32_24, l32_25, l32_26, l32_27, l32_28, l32_29, l32_33, l32_40, l32_41, l32_44, l32_45, l32_59, l32_61, l32_91, l32_93, l32_123, l32_125, n1, p1, kh, b1]
theorem c_wrStep {rk : Nat → List Value → cS → kO} {dp : Nat} (hN : 170000 ≤ N) (hw : wfN x) (hdp : dp ≤ 4) (hc : ∀ m l, vw x = vP m l → ∀ y ∈ l, wrP B σ j u w (fun v => rk 220 [.ref σ, .int (Int32.ofNat j), .long v, .int (Int32.ofNat (dp + 1))]) ⟨m, y⟩ (ser m y)) : wrP B σ j u w (fun v => cf_220 N X rk σ (Int32.ofNat j) v (Int32.ofNat dp)) x (serN x) := by
  intro t v ξ H hx hl
  have hser : serN x = serV (vw x) := vw_ser x
  have hwv := vw_wf x hw
  have hkn := c_kn (N := N) (X := X) hx
  have hcn := fun (y : Nod) g u v (e : vw y = vw x) => cN_vw (g := g) (u := u) (v := v) e
  have hsz := fun (t1 : cS) (h1 : cHp t1 u w) (h2 : cN (cel t1) u v x) => c_sizeN (N := N) (X := X) h1 h2
  have hpt : ∀ V, vw x = V → pts x = ptsV V := fun V e => by unfold pts; rw [e]
  have kh := H.1.1
  rw [hser] at hl ⊢
  obtain ⟨V, hV⟩ : ∃ V, V = vw x := ⟨_, rfl⟩
  rw [← hV] at hl hwv ⊢
  obtain z | r | q | ⟨n, l⟩ := V
  · have hk0 : kn x = 0 := by
      show knV (vw x) = 0
      rw [← hV]; rfl
    have hiv : ivN x = z := by
      show (intV (vw x)).getD 0 = z
      rw [← hV]; rfl
    rw [hk0] at hkn
    have hl : ξ.length + 2 ≤ 1300 := hl
    obtain ⟨t1, a1, a2, a3⟩ := H.put (N := N) (X := X) (by omega) (Int32.ofNat 0)
    obtain ⟨t2, b1, b2, b3⟩ := a2.put (N := N) (X := X) (by rw [List.length_append, List.length_singleton]; omega) z
    have kh1 := a2.1.1
    have lo := c_lowOf (N := N) (X := X) (t := t1) (k := 0) (a := ivN x)
    rw [← hx.z hk0, hiv] at lo
    refine ⟨t2, ?_, by rw [List.append_assoc] at b2; exact b2, a3.tr b3⟩
    show cf_220 N X rk σ (Int32.ofNat j) v (Int32.ofNat dp) t = _
    unfold cf_220 cf_220_0 cf_220_4 cf_220_13 cf_220_24 cf_220_30 cf_220_33
    simp (disch := omega) only [ev_S, ev_C, ↓reduceIte, Nat.reduceEqDiff, Nat.reduceLeDiff, Nat.reduceAdd, Nat.reduceMul, Nat.reduceSub, reduceCtorEq, l32_0, l32_1, l32_2, l32_3, l32_4, l32_5, l32_6, l32_7, l32_8, l32_9, l32_10, l32_11, l32_12, l32_13, l32_14, l32_15, l32_16, l32_17, l32_18, l32_19, l32_20, l32_21, l32_22, l32_23, l32_24, l32_25, l32_26, l32_27, l32_28, l32_29, l32_33, l32_40, l32_41, l32_44, l32_45, l32_59, l32_61, l32_91, l32_93, l32_123, l32_125, hkn, kh, a1, lo, kh1, b1]
  · have hk1 : kn x = 1 := by
      show knV (vw x) = 1
      rw [← hV]; rfl
    rw [hk1] at hkn
    have hr : r.length ≤ 64 := hwv
    have hl : ξ.length + (r.length + 1 + 1) ≤ 1300 := hl
    obtain ⟨t1, a1, a2, a3⟩ := H.put (N := N) (X := X) (by omega) (Int32.ofNat 1)
    have kh1 := a2.1.1
    have hx1 : cN (cel t1) u v (nR r) := by
      rw [a3.ce]
      exact (hcn (nR r) _ _ _ hV).mpr hx
    obtain ⟨t2, b1, b2, b3⟩ := c_wrRow (N := N) (X := X) hN hr t1 v _ a2 hx1 (by rw [List.length_append, List.length_singleton]; show _ + (r.length + 1) ≤ _; omega)
    refine ⟨t2, ?_, by rw [List.append_assoc] at b2; exact b2, a3.tr b3⟩
    show cf_220 N X rk σ (Int32.ofNat j) v (Int32.ofNat dp) t = _
    have b1 : cf_221 N X σ (Int32.ofNat j) v t1 = some (t2, .inl none) := b1
    unfold cf_220 cf_220_0 cf_220_4 cf_220_13 cf_220_18 cf_220_34 cf_220_40 cf_220_47
    simp (disch := omega) only [ev_S, ev_C, ↓reduceIte, Nat.reduceEqDiff, Nat.reduceLeDiff, Nat.reduceAdd, Nat.reduceMul, Nat.reduceSub, reduceCtorEq, l32_0, l32_1, l32_2, l32_3, l32_4, l32_5, l32_6, l32_7, l32_8, l32_9, l32_10, l32_11, l32_12, l32_13, l32_14, l32_15, l32_16, l32_17, l32_18, l32_19, l32_20, l32_21, l32_22, l32_23, l32_24, l32_25, l32_26, l32_27, l32_28, l32_29, l32_33, l32_40, l32_41, l32_44, l32_45, l32_59, l32_61, l32_91, l32_93, l32_123, l32_125, hkn, kh, a1, hdp, kh1, b1]
  · have hk2 : kn x = 2 := by
      show knV (vw x) = 2
      rw [← hV]; rfl
    rw [hk2] at hkn
    obtain ⟨w1, w2, w3⟩ := (show q.length ≤ 20 ∧ (q.map List.length).sum ≤ 200 ∧ ∀ r ∈ q, r.length ≤ 64 from hwv)
    have ef : (q.map nR).flatMap (fun x => serRow (rvN x)) = q.flatMap serRow := by
      rw [List.flatMap_def, List.flatMap_def, List.map_map]
      rfl
    have hl : ξ.length + ((q.flatMap serRow).length + 1 + 1) ≤ 1300 := hl
    have elq : (q.map nR).length = q.length := List.length_map _
    have hpx : pts x = q.map nR := hpt _ hV.symm
    have hszq : szN x = q.length := by rw [← pts_len, hpx, elq]
    obtain ⟨t1, a1, a2, a3⟩ := H.put (N := N) (X := X) (by omega) (Int32.ofNat 2)
    have kh1 := a2.1.1
    have hx1 : cN (cel t1) u v x := by rw [a3.ce]; exact hx
    have sz := hsz t1 a2.2.2.2.1 hx1
    rw [hszq] at sz
    obtain ⟨t2, b1, b2, b3⟩ := a2.put (N := N) (X := X) (by rw [List.length_append, List.length_singleton]; omega) (Int32.ofNat q.length)
    have hx2 : cN (cel t2) u v x := by rw [b3.ce]; exact hx1
    obtain ⟨t3, c1, c2, c3⟩ := c_wrL (N := N) (X := X) (σ := σ) (j := j) (rk := rk) (k := 2) (dp := dp) (xs := q.map nR) (sr := fun x => serRow (rvN x)) (B := B) (w := w) (ξ := ξ ++ [Int32.ofNat 2] ++ [Int32.ofNat q.length]) (Or.inl ⟨rfl, rfl⟩) (by omega) hpx hx2 (fun y hy => by
      obtain ⟨r, hr, rfl⟩ := List.mem_map.mp hy
      exact c_wrRow hN (w3 r hr)) (by rw [ef, List.length_append, List.length_append, List.length_singleton, List.length_singleton]; omega) (q.map nR).length 0 (N - ((q.map nR).length + 1)) t2 (Nat.zero_add _) (by rw [List.take_zero, List.flatMap_nil, List.append_nil]; exact b2) wfr.rf
    rw [show N - ((q.map nR).length + 1) + ((q.map nR).length + 1) = N by omega, elq] at c1
    refine ⟨t3, ?_, ?_, (a3.tr b3).tr c3⟩
    · show cf_220 N X rk σ (Int32.ofNat j) v (Int32.ofNat dp) t = _
      clear c2 c3 b2 a2 H ef hl hpx hszq elq hsz hcn hpt
      generalize q.length = ql at *
      unfold cf_220 cf_220_0 cf_220_4 cf_220_13 cf_220_18 cf_220_34 cf_220_48 cf_220_53 cf_220_62
      simp (disch := omega) only [ev_S, ev_C, ↓reduceIte, Nat.reduceEqDiff, Nat.reduceLeDiff, Nat.reduceAdd, Nat.reduceMul, Nat.reduceSub, reduceCtorEq, l32_0, l32_1, l32_2, l32_3, l32_4, l32_5, l32_6, l32_7, l32_8, l32_9, l32_10, l32_11, l32_12, l32_13, l32_14, l32_15, l32_16, l32_17, l32_18, l32_19, l32_20, l32_21, l32_22, l32_23, l32_24, l32_25, l32_26, l32_27, l32_28, l32_29, l32_33, l32_40, l32_41, l32_44, l32_45, l32_59, l32_61, l32_91, l32_93, l32_123, l32_125, hkn, kh, a1, hdp, sz, kh1, b1, c1]
    · rw [ef, List.append_assoc, List.append_assoc] at c2
      exact c2
  · have hk3 : kn x = 3 := by
      show knV (vw x) = 3
      rw [← hV]; rfl
    rw [hk3] at hkn
    obtain ⟨w1, w2, w3⟩ := (show l.length ≤ 20 ∧ 1 + (l.map (bulk n)).sum ≤ 600 ∧ ∀ y ∈ l, wfT n y from hwv)
    have hl : ξ.length + ((l.flatMap (ser n)).length + 1 + 1) ≤ 1300 := hl
    have elq := nod_len (l := l)
    have hpx : pts x = l.map fun y => (⟨n, y⟩ : Nod) := hpt _ hV.symm
    have hszq : szN x = l.length := by rw [← pts_len, hpx, elq]
    obtain ⟨t1, a1, a2, a3⟩ := H.put (N := N) (X := X) (by omega) (Int32.ofNat 3)
    have kh1 := a2.1.1
    have hx1 : cN (cel t1) u v x := by rw [a3.ce]; exact hx
    have sz := hsz t1 a2.2.2.2.1 hx1
    rw [hszq] at sz
    obtain ⟨t2, b1, b2, b3⟩ := a2.put (N := N) (X := X) (by rw [List.length_append, List.length_singleton]; omega) (Int32.ofNat l.length)
    have hx2 : cN (cel t2) u v x := by rw [b3.ce]; exact hx1
    obtain ⟨t3, c1, c2, c3⟩ := c_wrL (N := N) (X := X) (σ := σ) (j := j) (rk := rk) (k := 3) (dp := dp) (xs := l.map fun y => (⟨n, y⟩ : Nod)) (sr := serN) (B := B) (w := w) (ξ := ξ ++ [Int32.ofNat 3] ++ [Int32.ofNat l.length]) (Or.inr ⟨rfl, rfl⟩) (by omega) hpx hx2 (fun y hy => by
      obtain ⟨r, hr, rfl⟩ := List.mem_map.mp hy
      exact hc n l hV.symm r hr) (by rw [flat_nod, List.length_append, List.length_append, List.length_singleton, List.length_singleton]; omega) (l.map fun y => (⟨n, y⟩ : Nod)).length 0 (N - ((l.map fun y => (⟨n, y⟩ : Nod)).length + 1)) t2 (Nat.zero_add _) (by rw [List.take_zero, List.flatMap_nil, List.append_nil]; exact b2) wfr.rf
    rw [show N - ((l.map fun y => (⟨n, y⟩ : Nod)).length + 1) + ((l.map fun y => (⟨n, y⟩ : Nod)).length + 1) = N by omega, elq] at c1
    refine ⟨t3, ?_, ?_, (a3.tr b3).tr c3⟩
    · show cf_220 N X rk σ (Int32.ofNat j) v (Int32.ofNat dp) t = _
      clear c2 c3 b2 a2 H hl hpx hszq elq hsz hcn hpt hc
      generalize l.length = ql at *
      unfold cf_220 cf_220_0 cf_220_4 cf_220_13 cf_220_18 cf_220_34 cf_220_48 cf_220_53 cf_220_62
      simp (disch := omega) only [ev_S, ev_C, ↓reduceIte, Nat.reduceEqDiff, Nat.reduceLeDiff, Nat.reduceAdd, Nat.reduceMul, Nat.reduceSub, reduceCtorEq, l32_0, l32_1, l32_2, l32_3, l32_4, l32_5, l32_6, l32_7, l32_8, l32_9, l32_10, l32_11, l32_12, l32_13, l32_14, l32_15, l32_16, l32_17, l32_18, l32_19, l32_20, l32_21, l32_22, l32_23, l32_24, l32_25, l32_26, l32_27, l32_28, l32_29, l32_33, l32_40, l32_41, l32_44, l32_45, l32_59, l32_61, l32_91, l32_93, l32_123, l32_125, hkn, kh, a1, hdp, sz, kh1, b1, c1]
    · rw [flat_nod, List.append_assoc, List.append_assoc] at c2
      exact c2
theorem c_wrThing (hN : 170000 ≤ N) : ∀ (n m dp : Nat) (x : Th n), wfT n x → dp + n ≤ 4 → wrP B σ j u w (fun v => cf_S5 N X (n + 1 + m) 220 [.ref σ, .int (Int32.ofNat j), .long v, .int (Int32.ofNat dp)]) ⟨n, x⟩ (ser n x) := by
  intro n
  induction n with
  | zero =>
    intro m dp x hw hd
    have e : 0 + 1 + m = (0 + m) + 1 := by omega
    rw [e]
    have key : wrP B σ j u w (fun v => cf_220 N X (cf_S5 N X (0 + m)) σ (Int32.ofNat j) v (Int32.ofNat dp)) ⟨0, x⟩ (ser 0 x) := by
      refine c_wrStep hN hw (by omega) (fun m' l hv y hy => ?_)
      obtain z | r | q := x <;> cases hv
    exact key
  | succ n ih =>
    intro m dp x hw hd
    have e : n + 1 + 1 + m = (n + 1 + m) + 1 := by omega
    rw [e]
    have key : wrP B σ j u w (fun v => cf_220 N X (cf_S5 N X (n + 1 + m)) σ (Int32.ofNat j) v (Int32.ofNat dp)) ⟨n + 1, x⟩ (ser (n + 1) x) := by
      refine c_wrStep hN hw (by omega) (fun m' l hv y hy => ?_)
      have hm : n = m' := by
        obtain p | l' := x
        · obtain z | r | q := p <;> cases hv
        · cases hv
          rfl
      subst hm
      obtain p | l' := x
      · obtain z | r | q := p <;> cases hv
      · cases hv
        exact ih m (dp + 1) y (hw.2.2 y hy) (by omega)
    exact key
/-- a THING is laid on a shelf -/
theorem c_layT (hN : 170000 ≤ N) (h0 : cS0 t σ) (hj : j < 8) (hh : cHp t u w) (hx : cN (cel t) u v x) (hw : wfN x) (hd : x.1 ≤ 4) (hB : kN t + 3300 < zz_out) : ∃ t', cf_216 N X σ (Int32.ofNat j) v t = some (t', .inl none) ∧ cS0 t' σ ∧ cS1 t' σ j (serN x) ∧ wfr σ j t t' ∧ cHp t' u w := by
  obtain ⟨z1, z2, z3, z4⟩ := c_zero (t := t) h0 hj
  have hT1 : ∃ t1, t1 = jA t (2000000 + 20 * σ + 10) (upd (kA t (2000000 + 20 * σ + 10)).2 j 0) := ⟨_, rfl⟩
  obtain ⟨t1, ht1⟩ := hT1
  rw [← ht1] at z1 z2 z3 z4
  have er : rwK t1 σ j = rwK t σ j := by
    unfold rwK
    rw [ht1]
    show (if 2000000 + 20 * σ + 1 + 1 + j = 2000000 + 20 * σ + 10 then _ else kA t _).1 = _
    rw [if_neg (by omega)]
  have eN : kN t1 = kN t := by rw [ht1]; rfl
  have eQ : kQ t1 = kQ t := by rw [ht1]; rfl
  have f1 : wfr σ j t t1 := ⟨z3, by rw [er, eN]; exact Nat.le_refl _, by rw [er, eQ]; exact Nat.le_refl _, by rw [er]; exact Nat.le_refl _⟩
  have hh1 := f1.hp hh (by rw [eN]; omega)
  have W1 : Wst (kN t) σ j t1 [] u w := ⟨z1, z2, by rw [eN]; exact Nat.le_add_right _ _, hh1, hB, hj⟩
  have hx1 : cN (cel t1) u v x := by rw [f1.ce]; exact hx
  obtain ⟨n, y⟩ := x
  have hd : n ≤ 4 := hd
  have hsl : (ser n y).length ≤ 1200 := by
    have h1 := ser_len n y
    have h2 := bulk_wf n y hw
    omega
  obtain ⟨t2, a1, a2, a3⟩ := c_wrThing (N := N) (X := X) (B := kN t) (σ := σ) (j := j) (u := u) (w := w) hN n (11 - n) 0 y hw (by omega) t1 v [] W1 hx1 (by show 0 + _ ≤ _; omega)
  have a1 : cf_S5 N X 12 220 [.ref σ, .int (Int32.ofNat j), .long v, .int (Int32.ofNat 0)] t1 = some (t2, .inl none) := by
    rw [show n + 1 + (11 - n) = 12 by omega] at a1
    exact a1
  have hkn := c_kn (N := N) (X := X) hx1
  have hk3 := kn_le (x := (⟨n, y⟩ : Nod))
  have kh := h0.1
  have kh1 := z1.1
  have l10 := h0.2.1
  refine ⟨t2, ?_, a2.1, ?_, f1.tr a3, a2.2.2.2.1⟩
  · have hcl : Int32.toNatClampNeg (Int32.ofNat j) = j := i32c (by omega)
    generalize kn (⟨n, y⟩ : Nod) = kq at *
    unfold cf_216 cf_216_0
    rw [if_pos kh, l10, hcl, if_pos (fun q => q.elim (i32n (by omega)) (by omega)), ← ht1, hkn]
    show cf_216_11 N X σ (Int32.ofNat j) v (Int32.ofNat kq) t1 = _
    unfold cf_216_11 cf_216_15 cf_216_23
    simp (disch := omega) only [ev_S, ev_C, ↓reduceIte, Nat.reduceEqDiff, Nat.reduceLeDiff, Nat.reduceAdd, Nat.reduceMul, Nat.reduceSub, reduceCtorEq, l32_0, l32_1, l32_2, l32_3, l32_4, l32_5, l32_6, l32_7, l32_8, l32_9, l32_10, l32_11, l32_12, l32_13, l32_14, l32_15, l32_16, l32_17, l32_18, l32_19, l32_20, l32_21, l32_22, l32_23, l32_24, l32_25, l32_26, l32_27, l32_28, l32_29, l32_33, l32_40, l32_41, l32_44, l32_45, l32_59, l32_61, l32_91, l32_93, l32_123, l32_125, kh1, a1]
  · have := a2.2.1
    rw [List.nil_append] at this
    exact this
/-- one that has nothing -/
theorem c_layB (h0 : cS0 t σ) (hj : j < 8) (hh : cHp t u w) (hB : kN t + 3300 < zz_out) : ∃ t', cf_216 N X σ (Int32.ofNat j) bare t = some (t', .inl none) ∧ cS0 t' σ ∧ cS1 t' σ j [] ∧ wfr σ j t t' ∧ cHp t' u w := by
  obtain ⟨z1, z2, z3, z4⟩ := c_zero (t := t) h0 hj
  have hT1 : ∃ t1, t1 = jA t (2000000 + 20 * σ + 10) (upd (kA t (2000000 + 20 * σ + 10)).2 j 0) := ⟨_, rfl⟩
  obtain ⟨t1, ht1⟩ := hT1
  rw [← ht1] at z1 z2 z3 z4
  have er : rwK t1 σ j = rwK t σ j := by
    unfold rwK
    rw [ht1]
    show (if 2000000 + 20 * σ + 1 + 1 + j = 2000000 + 20 * σ + 10 then _ else kA t _).1 = _
    rw [if_neg (by omega)]
  have eN : kN t1 = kN t := by rw [ht1]; rfl
  have eQ : kQ t1 = kQ t := by rw [ht1]; rfl
  have f1 : wfr σ j t t1 := ⟨z3, by rw [er, eN]; exact Nat.le_refl _, by rw [er, eQ]; exact Nat.le_refl _, by rw [er]; exact Nat.le_refl _⟩
  have hh1 := f1.hp hh (by rw [eN]; omega)
  have kh := h0.1
  have l10 := h0.2.1
  have ek : cf_255 N X bare t1 = some (t1, .inl (some (.int (-Int32.ofNat 1)))) := c_kindOf
  refine ⟨t1, ?_, z1, z2, f1, hh1⟩
  have hcl : Int32.toNatClampNeg (Int32.ofNat j) = j := i32c (by omega)
  unfold cf_216 cf_216_0
  rw [if_pos kh, l10, hcl, if_pos (fun q => q.elim (i32n (by omega)) (by omega)), ← ht1, ek]
  show cf_216_11 N X σ (Int32.ofNat j) bare (-Int32.ofNat 1) t1 = _
  unfold cf_216_11 cf_216_23
  simp (disch := omega) only [ev_S, ev_C, ↓reduceIte, Nat.reduceEqDiff, Nat.reduceLeDiff, Nat.reduceAdd, Nat.reduceMul, Nat.reduceSub, reduceCtorEq, l32_0, l32_1, l32_2, l32_3, l32_4, l32_5, l32_6, l32_7, l32_8, l32_9, l32_10, l32_11, l32_12, l32_13, l32_14, l32_15, l32_16, l32_17, l32_18, l32_19, l32_20, l32_21, l32_22, l32_23, l32_24, l32_25, l32_26, l32_27, l32_28, l32_29, l32_33, l32_40, l32_41, l32_44, l32_45, l32_59, l32_61, l32_91, l32_93, l32_123, l32_125]
end WRS
end
-- ### 98zzx.pure.lean.txt
section
/-! ===== PURE: run (153): a run begins (the class) ===== -/
/-- what a shelf has -/
def shO (S : Nat → Option (Th 4)) (j : Nat) : Option Nod := (S j).map fun x => (⟨4, x⟩ : Nod)
abbrev eB (σ : Nat) : Nat → Nat → Prop := fun k f => (k = 42 ∧ (f = 1 ∨ f = 3)) ∨ (k = 3000000 + σ ∧ f = 2)
abbrev aB : Nat → Prop := fun k => k = 43 ∨ k = 44 ∨ k = 50 ∨ k = 51
abbrev eBg (σ : Nat) : Nat → Nat → Prop := fun k f => k = 42 ∨ k = 45 ∨ k = 48 ∨ (k = 3000000 + σ ∧ f = 2)
section BGC
variable {N : Nat} {X : Nat → Option zz_C} {S : Nat → Option (Th 4)} {σ0 k j u w i : Nat} {μ : Nat → Nat} {t t1 t2 tb : cS} {s : mS} {x1 x2 : Int32}
/-- a shelf is read -/
theorem c_get (hN : 170000 ≤ N) (h : iS S σ0 k μ t s) (hh : cHp t u 0) (hj : j < 8) (hu : u + 2400 ≤ 162000) : ∃ t' v u', cf_215 N X σ0 (Int32.ofNat j) t = some (t', .inl (some (.long v))) ∧ cC (cel t') u' v (shO S j) ∧ cHp t' u' 0 ∧ rfr σ0 t t' ∧ u ≤ u' ∧ u' ≤ u + 2400 ∧ ∀ y, y < u → cel t' y = cel t y := by
  have hS := (h.2.2.2.2.2.1 j hj).1
  have h0 := h.2.2.2.2.1.1
  have kh := h0.1
  have l10 := h0.2.1
  have hcl : Int32.toNatClampNeg (Int32.ofNat j) = j := i32c (by omega)
  have hg : ¬ (Int32.ofNat j < 0 ∨ 8 ≤ j) := fun q => q.elim (i32n (by omega)) (by omega)
  have hwT := h.2.2.2.2.2.2.1 j
  unfold shO
  cases hx : S j with
  | none =>
    rw [hx] at hS
    have e0 : (kA t (2000000 + 20 * σ0 + 10)).2 j = 0 := hS.1
    refine ⟨t, bare, u, ?_, rfl, hh, rfr.rf, Nat.le_refl _, by omega, fun _ _ => rfl⟩
    unfold cf_215 cf_215_0
    rw [if_pos kh, l10, hcl, if_pos hg, e0, if_neg (fun q => q rfl)]
    rfl
  | some x =>
    rw [hx] at hS
    have hw : wfT 4 x := hwT x hx
    have hbw := bulk_wf 4 x hw
    have hsl := ser_len 4 x
    have hS : cS1 t σ0 j (ser 4 x) := hS
    have hpos : 1 ≤ (ser 4 x).length := by
      obtain ⟨l, e⟩ := ser_kd 4 x
      rw [e, List.length_cons]
      omega
    have e0 : ¬ (kA t (2000000 + 20 * σ0 + 10)).2 j = 0 := fun q => by
      rw [hS.1] at q
      have := ofNat_inj (b := 0) (by omega) (by omega) q
      omega
    have hRd : cRd (jI t (3000000 + σ0) 2 (Int32.ofNat 0)) σ0 j (ser 4 x) 0 := ⟨h0, hS, by show (if 3000000 + σ0 = 3000000 + σ0 ∧ 2 = 2 then _ else _) = _; rw [if_pos ⟨rfl, rfl⟩], by omega, hj⟩
    obtain ⟨t', v, u', a1, a2, a3, a4, a5, a6, a7, a8, a9, a10⟩ := c_readThing (N := N) (X := X) (σ := σ0) (j := j) (ξ := ser 4 x) hN 4 7 0 x hw (by omega) (jI t (3000000 + σ0) 2 (Int32.ofNat 0)) u 0 0 [] hRd (cHp_ix (by omega) hh) (by rw [List.drop_zero, List.append_nil]) (by omega) (by show u + 4 * bulk 4 x ≤ _; omega)
    have a8 : u' + 1 ≤ u + 4 * bulk 4 x := a8
    refine ⟨t', v, u', ?_, a2, a3, rfr.tr rfr.ix a4, a7, by omega, a9⟩
    have a1 : cf_S4 N X 12 217 [.ref σ0, .int (Int32.ofNat j), .int 0] (jI t (3000000 + σ0) 2 0) = some (t', .inl (some (.long v))) := a1
    unfold cf_215 cf_215_0
    rw [if_pos kh, l10, hcl, if_pos hg, if_pos e0]
    unfold cf_215_15
    rw [if_pos kh, a1]
    rfl
/-- shelves 0 .. i - 1 are there -/
def BL (S : Nat → Option (Th 4)) (σ0 k : Nat) (μ : Nat → Nat) (s : mS) (tb : cS) (i : Nat) (t : cS) : Prop := gf (eB σ0) aB tb t ∧ iS S σ0 k μ t s ∧ ((kB t 50).1 = 8 ∧ (kA t 51).1 = 8) ∧ ∃ u, cHp t u 0 ∧ u ≤ 2400 * i ∧ ∀ j, j < i → cC (cel t) u ((kB t 50).2 j) (shO S j) ∧ (kA t 51).2 j = 0
theorem c_begL (hN : 170000 ≤ N) : ∀ (d i Q : Nat) (t : cS), i + d = 8 → BL S σ0 k μ s tb i t → ∃ t2, cf_6_L7 N X (Q + (d + 1)) 0 x1 x2 (Int32.ofNat i) t = cf_6_98 N X x1 x2 t2 ∧ BL S σ0 k μ s tb 8 t2 := by
  intro d
  induction d with
  | zero =>
    intro i Q t hi H
    have hi : i = 8 := hi
    subst hi
    exact ⟨t, rfl, H⟩
  | succ d ih =>
    intro i Q t hi H
    obtain ⟨H1, H2, ⟨l50, l51⟩, u, H4, H5, H6⟩ := H
    obtain ⟨t', v, u', a1, a2, a3, a4, a5, a6, a7⟩ := c_get (N := N) (X := X) hN H2 H4 (j := i) (by omega) (by omega)
    have g4 := a4.gf
    have l50' : (kB t' 50).1 = 8 := by rw [(g4.2.2.2.1 50 (by omega) (by omega)).2.1]; exact l50
    have l51' : (kA t' 51).1 = 8 := by rw [(g4.2.2.2.1 51 (by omega) (by omega)).1]; exact l51
    have e50 : (kB t' 50).2 = (kB t 50).2 := by rw [(g4.2.2.2.1 50 (by omega) (by omega)).2.1]
    have e51 : (kA t' 51).2 = (kA t 51).2 := by rw [(g4.2.2.2.1 51 (by omega) (by omega)).1]
    have hcl : Int32.toNatClampNeg (Int32.ofNat i) = i := i32c (by omega)
    have hg : ¬ (Int32.ofNat i < 0 ∨ 8 ≤ i) := fun q => q.elim (i32n (by omega)) (by omega)
    obtain ⟨t'', ht⟩ : ∃ t'', t'' = jA (jB t' 50 (vp_updL (kB t' 50).2 i v)) 51 (upd (kA t' 51).2 i (vp_nar (zz_ty 3) 0)) := ⟨_, rfl⟩
    have e137 : cf_137 N X (Int32.ofNat i) v t' = some (t'', .inl none) := by
      unfold cf_137 cf_137_0
      rw [l50', l51', hcl, if_pos hg, if_pos hg, ht]
    have g5 : gf (fun _ _ => False) (fun k => k = 50 ∨ k = 51) t' t'' := by
      rw [ht]
      refine ⟨fun _ _ _ => rfl, rfl, rfl, fun k r1 r2 => ⟨?_, ?_, rfl⟩, rfl, rfl, Nat.le_refl _, Nat.le_refl _, Nat.le_refl _⟩
      · show (if k = 51 then _ else kA t' k) = _
        rw [if_neg (by omega)]
      · show (if k = 50 then _ else kB t' k) = _
        rw [if_neg (by omega)]
    have ec : cel t'' = cel t' := by unfold cel; rw [(g5.2.2.2.1 43 (by omega) (by omega)).2.1]
    have H' : BL S σ0 k μ s tb (i + 1) t'' := by
      refine ⟨H1.tr ((g4.mono (fun k f q => q) (fun k q => by rcases q with q | q; exact Or.inl q; exact Or.inr (Or.inl q))).tr (g5.mono (fun k f q => q.elim) (fun k q => by rcases q with q | q; exact Or.inr (Or.inr (Or.inl q)); exact Or.inr (Or.inr (Or.inr q))))), (H2.rd a4).gf g5 (fun q => q) (fun k q => by omega) rfl rfl, ⟨?_, ?_⟩, u', g5.hp a3 (fun q => q) (fun q => q) (by omega) (by omega) (by omega), by omega, fun j hj => ?_⟩
      · rw [ht]; exact l50'
      · rw [ht]; exact l51'
      · rw [ec, ht]
        show cC (cel t') u' (if j = i then v else (kB t' 50).2 j) (shO S j) ∧ (if j = i then _ else (kA t' 51).2 j) = _
        by_cases c : j = i
        · rw [if_pos c, if_pos c, c]
          exact ⟨a2, rfl⟩
        · rw [if_neg c, if_neg c, e50, e51]
          obtain ⟨p1, p2⟩ := H6 j (by omega)
          exact ⟨p1.mono a7 a5, p2⟩
    obtain ⟨t2, b1, b2⟩ := ih (i + 1) Q t'' (by omega) H'
    refine ⟨t2, ?_, b2⟩
    rw [← b1]
    show cf_6_63 N X (cf_6_L7 N X (Q + (d + 1))) x1 x2 (Int32.ofNat i) t = _
    have n8 : ¬ 8 ≤ i := by omega
    have hP : kP t 0 7 = some σ0 := H2.2.1
    have kh : kH t σ0 = true := H2.2.2.2.2.1.1.1
    unfold cf_6_63 cf_6_70 cf_6_89 cf_6_92
    simp (disch := omega) only [ev_S, ev_C, ↓reduceIte, Nat.reduceEqDiff, Nat.reduceLeDiff, Nat.reduceAdd, Nat.reduceMul, Nat.reduceSub, reduceCtorEq, l32_0, l32_1, l32_2, l32_3, l32_4, l32_5, l32_6, l32_7, l32_8, l32_9, l32_10, l32_11, l32_12, l32_13, l32_14, l32_15, l32_16, l32_17, l32_18, l32_19, l32_20, l32_21, l32_22, l32_23, l32_24, l32_25, l32_26, l32_27, l32_28, l32_29, l32_33, l32_40, l32_41, l32_44, l32_45, l32_59, l32_61, l32_91, l32_93, l32_123, l32_125, n8, hP, kh, a1, e137]
/-- all that comes before the acts -/
theorem c_beg {l : List Int32} {fu : Nat} (hN : 170000 ≤ N) (h : iS S σ0 k μ t s) (hH : iH t) (h50 : (kB t 50).1 = 8 ∧ (kA t 51).1 = 8) (hO : cOut t l) : ∃ t2 u, cf_6_38 N X x1 x2 (Int32.ofNat fu) t = cf_6_98 N X x1 x2 t2 ∧ gf (eBg σ0) aB t t2 ∧ iS S σ0 k μ t2 s ∧ (cHp t2 u 0 ∧ u ≤ 19200) ∧ (∀ j, j < 8 → cC (cel t2) u ((kB t2 50).2 j) (shO S j) ∧ (kA t2 51).2 j = 0) ∧ cTy t2 fu (0, 0, 0, 0) ∧ (kI t2 48 6 = Int32.ofNat 0 ∧ kI t2 48 7 = -Int32.ofNat 1 ∧ kI t2 48 8 = Int32.ofNat 0) ∧ kI t2 48 0 = 1 ∧ cOut t2 [] ∧ ((kB t2 50).1 = 8 ∧ (kA t2 51).1 = 8) := by
  obtain ⟨tb, htb⟩ : ∃ tb, tb = jI (jI (jI (jI (jI (jI (jI (jI (jI (jI (jI (jI t 45 1 0) 42 1 0) 42 3 0) 48 0 1) 48 1 (Int32.ofNat fu)) 48 2 0) 48 3 0) 48 4 0) 48 5 0) 48 6 0) 48 7 (-1)) 48 8 0 := ⟨_, rfl⟩
  have gb : gf (fun k f => k = 42 ∨ k = 45 ∨ k = 48) (fun _ => False) t tb := by
    rw [htb]
    refine ⟨fun k f r => ?_, rfl, rfl, fun _ _ _ => ⟨rfl, rfl, rfl⟩, rfl, rfl, Nat.le_refl _, Nat.le_refl _, Nat.le_refl _⟩
    show (if k = 48 ∧ f = 8 then _ else if k = 48 ∧ f = 7 then _ else if k = 48 ∧ f = 6 then _ else if k = 48 ∧ f = 5 then _ else if k = 48 ∧ f = 4 then _ else if k = 48 ∧ f = 3 then _ else if k = 48 ∧ f = 2 then _ else if k = 48 ∧ f = 1 then _ else if k = 48 ∧ f = 0 then _ else if k = 42 ∧ f = 3 then _ else if k = 42 ∧ f = 1 then _ else if k = 45 ∧ f = 1 then _ else kI t k f) = _
    repeat rw [if_neg (by omega)]
  have E : cf_6_38 N X x1 x2 (Int32.ofNat fu) t = cf_6_L7 N X N 0 x1 x2 (Int32.ofNat 0) tb := by rw [htb]; rfl
  have Ib : iS S σ0 k μ tb s := h.gf gb (by omega) (fun k q => q.elim) rfl rfl
  obtain ⟨q1, q2, q3, q4, q5⟩ := hH
  have hb : cHp tb 0 0 := by
    rw [htb]
    exact ⟨rfl, rfl, Nat.zero_le _, Nat.zero_le _, q1, q2, q3, q4, q5⟩
  have B0 : BL S σ0 k μ s tb 0 tb := ⟨gf.rf, Ib, by rw [htb]; exact h50, 0, hb, Nat.le_refl _, fun j hj => absurd hj (Nat.not_lt_zero _)⟩
  obtain ⟨t2, b1, H1, H2, H3, u, H4, H5, H6⟩ := c_begL (N := N) (X := X) (x1 := x1) (x2 := x2) hN 8 0 (N - 9) tb (Nat.zero_add _) B0
  rw [show N - 9 + (8 + 1) = N by omega] at b1
  have iq : ∀ k f, k = 48 ∨ k = 45 → kI t2 k f = kI tb k f := fun k f q => H1.1 k f (by omega)
  have c0 : cOut tb [] := by
    obtain ⟨z1, z2, z3, z4, z5, z6, z7⟩ := hO
    rw [htb]
    exact ⟨rfl, fun i hi => absurd hi (Nat.not_lt_zero _), z3, Or.inl (Nat.zero_le _), z5, z6, z7⟩
  refine ⟨t2, u, by rw [E, b1], (gb.mono (fun k f q => by rcases q with q | q | q; exact Or.inl q; exact Or.inr (Or.inl q); exact Or.inr (Or.inr (Or.inl q))) (fun k q => q.elim)).tr (H1.mono (fun k f q => by rcases q with q | q; exact Or.inl q.1; exact Or.inr (Or.inr (Or.inr q))) (fun k q => q)), H2, ⟨H4, H5⟩, H6, ⟨?_, ?_, ?_, ?_, ?_⟩, ⟨?_, ?_, ?_⟩, ?_, H1.out (by omega) (by omega) (by omega) c0, H3⟩
  · rw [iq 48 1 (Or.inl rfl), htb]; rfl
  · rw [iq 48 2 (Or.inl rfl), htb]; rfl
  · rw [iq 48 3 (Or.inl rfl), htb]; rfl
  · rw [iq 48 4 (Or.inl rfl), htb]; rfl
  · rw [iq 48 5 (Or.inl rfl), htb]; rfl
  · rw [iq 48 6 (Or.inl rfl), htb]; rfl
  · rw [iq 48 7 (Or.inl rfl), htb]; rfl
  · rw [iq 48 8 (Or.inl rfl), htb]; rfl
  · rw [iq 48 0 (Or.inl rfl), htb]; rfl
end BGC
end
-- ### 98zzy.pure.lean.txt
section
/-! ===== PURE: run (154): the first call ===== -/
section EN0
variable {N : Nat} {X : Nat → Option zz_C} {t0 t t1 t2 : cS} {s0 s s1 s2 : mS} {u w f p h fu m n k fi : Nat} {code : List Ins} {Fs : List Fn} {T : Ty} {out : List Int32} {sh S0 : Nat → Option Nod} {q x1 : Int32}
theorem CX.enter0 (hN : 170000 ≤ N) (C : CX t0 t p code Fs fu S0 u w [] sh T out) (hfi : fi < Fs.length) (hret : kI t 49 17 = Int32.ofNat 0) (hnv : Fs[fi].2.2.2.1 ≤ 14) (hdp : T.2.2.1 ≤ 10) : ∃ t', cf_157 N X (Int32.ofNat fi) (Int32.ofNat 0) q t = some (t', .inl none) ∧ CX t0 t' p code Fs fu S0 u w [(Fs[fi].2.2.2.2.1, 0, List.replicate Fs[fi].2.2.2.1 none, [])] sh (opT T 1) out ∧ kI t' 49 17 = Int32.ofNat (posC code Fs[fi].2.2.2.2.1) := by
  have hP := C.1.1.1
  have hp := C.1.1.2.1
  have C' := C
  obtain ⟨c1, ⟨z1, z2, z3, z4, z5, z6, z7, z8⟩, c3, c4⟩ := C'
  have z7 : kI t 49 11 = Int32.ofNat 0 := z7
  have c4 : kI t 49 8 = Int32.ofNat 0 := c4
  have h4 : kI t 48 4 = Int32.ofNat T.2.2.1 := c1.2.1.2.2.2.1
  obtain ⟨tE, htE⟩ : ∃ tE, tE = jI (jI (jA (jA t 53 (upd (kA t 53).2 0 (Int32.ofNat 0))) 54 (upd (kA t 54).2 0 (Int32.ofNat 0))) 49 11 (Int32.ofNat 1)) 48 4 (Int32.ofNat (if T.2.2.1 < 1 then 1 else T.2.2.1)) := ⟨_, rfl⟩
  have gE : gf (fun k f => (k = 49 ∧ f = 11) ∨ (k = 48 ∧ f = 4)) (fun k => k = 53 ∨ k = 54) t tE := by
    rw [htE]
    refine ⟨fun k f r => ?_, rfl, rfl, fun k r1 r2 => ⟨?_, rfl, rfl⟩, rfl, rfl, Nat.le_refl _, Nat.le_refl _, Nat.le_refl _⟩
    · show (if k = 48 ∧ f = 4 then _ else if k = 49 ∧ f = 11 then _ else kI t k f) = _
      rw [if_neg (fun q => r (Or.inr q)), if_neg (fun q => r (Or.inl q))]
    · show (if k = 54 then _ else if k = 53 then _ else kA t k) = _
      rw [if_neg (by omega), if_neg (by omega)]
  have E1 : cf_157 N X (Int32.ofNat fi) (Int32.ofNat 0) q t = cf_157_L2 N X N 0 (Int32.ofNat fi) (Int32.ofNat Fs[fi].2.2.2.1) (Int32.ofNat 0) tE := by
    have l53 : (kA t 53).1 = 10 := z4.1
    have l54 : (kA t 54).1 = 10 := z4.2.1
    have hP' : kP tE 49 16 = some p := by rw [htE]; exact hP
    have hE' : cEv tE p code Fs := c1.1.keep gE (fun f => ⟨fun q => by omega, fun q => by omega⟩) (fun k k1 k2 q => by omega)
    obtain ⟨w1', -, -⟩ := c_told (N := N) (X := X) hE' hfi
    have hp2 : (p = 12 ∨ p = 21) = True := eq_true hp
    have e237 : cf_237 N X (Int32.ofNat 1) (jI (jA (jA t 53 (upd (kA t 53).2 0 (Int32.ofNat 0))) 54 (upd (kA t 54).2 0 (Int32.ofNat 0))) 49 11 (Int32.ofNat 1)) = some (tE, .inl none) := by
      have h4' : kI (jI (jA (jA t 53 (upd (kA t 53).2 0 (Int32.ofNat 0))) 54 (upd (kA t 54).2 0 (Int32.ofNat 0))) 49 11 (Int32.ofNat 1)) 48 4 = Int32.ofNat T.2.2.1 := h4
      unfold cf_237 cf_237_0
      rw [h4', htE]
      congr 3
      have elt : (Int32.ofNat T.2.2.1 < Int32.ofNat 1) = (T.2.2.1 < 1) := ev_lt (by omega) (by omega)
      by_cases c : T.2.2.1 < 1
      · rw [if_pos (elt.mpr c), if_pos c]
      · rw [if_neg (fun q => c (elt.mp q)), if_neg c]
    have k54 : kA (jA t 53 (upd (kA t 53).2 0 (Int32.ofNat 0))) 54 = kA t 54 := rfl
    have sb : Int32.ofNat 0 - Int32.ofNat 0 = Int32.ofNat 0 := rfl
    clear htE gE
    generalize Fs[fi].2.2.2.1 = nvv at *
    unfold cf_157 cf_157_0 cf_157_18 cf_157_71 cf_157_80
    simp (disch := omega) only [ev_S, ev_C, ↓reduceIte, Nat.reduceEqDiff, Nat.reduceLeDiff, Nat.reduceAdd, Nat.reduceMul, Nat.reduceSub, reduceCtorEq, l32_0, l32_1, l32_2, l32_3, l32_4, l32_5, l32_6, l32_7, l32_8, l32_9, l32_10, l32_11, l32_12, l32_13, l32_14, l32_15, l32_16, l32_17, l32_18, l32_19, l32_20, l32_21, l32_22, l32_23, l32_24, l32_25, l32_26, l32_27, l32_28, l32_29, l32_33, l32_40, l32_41, l32_44, l32_45, l32_59, l32_61, l32_91, l32_93, l32_123, l32_125, z7, l53, l54, c4, sb, hret, k54, e237, hP', hp2, w1']
  have CE : CX t0 tE p code Fs fu S0 u w [(Fs[fi].2.2.2.2.1, 0, List.replicate 0 none, [])] sh (opT T 1) out := by
    have e : ∀ k, ¬ (k = 53 ∨ k = 54) → ¬ k = 111 → kA tE k = kA t k ∧ kB tE k = kB t k := fun k k1 k2 => by
      have := gE.2.2.2.1 k k1 k2
      exact ⟨this.1, this.2.1⟩
    obtain ⟨a1, ⟨b1, b2, b3, b4, b5⟩, a3, a4, a5, a6⟩ := c1
    refine ⟨⟨a1.keep gE (fun f => ⟨fun q => by omega, fun q => by omega⟩) (fun k k1 k2 q => by omega), ?_, ?_, a4.keep2 gE (by omega) (by omega) (by omega), ?_, a6.tr2 (gE.mono2 (fun k f q => by show k = 42 ∨ k = 45 ∨ (k = 48 ∧ ¬ f = 0) ∨ k = 49 ∨ k = 58; omega) (fun k q => by show 43 ≤ k ∧ k ≤ 60; omega))⟩, ⟨?_, ?_, ?_, ?_, ?_, ?_, ?_, ?_⟩, gE.hp c3 (by omega) (by omega) (by omega) (by omega) (by omega), ?_⟩
    · rw [htE]; exact ⟨b1, b2, b3, rfl, b5⟩
    · rw [htE]; exact a3
    · rw [htE]; exact a5
    · exact z1.keep gE (by omega) (by omega)
    · refine ⟨?_, ?_, trivial⟩
      · rw [htE]; rfl
      · rw [htE]; rfl
    · trivial
    · have l1 : (kA tE 53).1 = (kA t 53).1 := by rw [htE]; rfl
      have l2 : (kA tE 54).1 = (kA t 54).1 := by rw [htE]; rfl
      rw [l1, l2, (e 50 (by omega) (by omega)).2, (e 51 (by omega) (by omega)).1, (e 60 (by omega) (by omega)).1]
      exact z4
    · rw [(e 55 (by omega) (by omega)).1, (e 56 (by omega) (by omega)).1, (e 57 (by omega) (by omega)).1]
      exact z5
    · have ec : cel tE = cel t := by unfold cel; rw [(e 43 (by omega) (by omega)).2]
      rw [(e 50 (by omega) (by omega)).2, (e 51 (by omega) (by omega)).1, ec]
      exact z6
    · rw [htE]; rfl
    · rw [htE]; exact z8
    · rw [htE]; exact c4
  have key : ∀ (dd i Q : Nat) (t1 : cS), i + dd = Fs[fi].2.2.2.1 → dd < Q → CX t0 t1 p code Fs fu S0 u w [(Fs[fi].2.2.2.2.1, 0, List.replicate i none, [])] sh (opT T 1) out → ∃ t', cf_157_L2 N X Q 0 (Int32.ofNat fi) (Int32.ofNat Fs[fi].2.2.2.1) (Int32.ofNat i) t1 = some (t', .inl none) ∧ CX t0 t' p code Fs fu S0 u w [(Fs[fi].2.2.2.2.1, 0, List.replicate Fs[fi].2.2.2.1 none, [])] sh (opT T 1) out ∧ kI t' 49 17 = Int32.ofNat (posC code Fs[fi].2.2.2.2.1) := by
    intro dd
    induction dd with
    | zero =>
      intro i Q t1 hi hQ H
      obtain ⟨Q', rfl⟩ : ∃ Q', Q = Q' + 1 := ⟨Q - 1, by omega⟩
      have hi : i = Fs[fi].2.2.2.1 := by omega
      obtain ⟨-, -, v3⟩ := c_told (N := N) (X := X) H.1.1 hfi
      have hP1 := H.1.1.1
      have hp2 : (p = 12 ∨ p = 21) = True := eq_true hp
      refine ⟨jI t1 49 17 (Int32.ofNat (posC code Fs[fi].2.2.2.2.1)), ?_, ?_, rfl⟩
      · show cf_157_85 N X (cf_157_L2 N X Q') (Int32.ofNat fi) (Int32.ofNat Fs[fi].2.2.2.1) (Int32.ofNat i) t1 = _
        have n1 : Fs[fi].2.2.2.1 ≤ i := by omega
        have n2 : i ≤ 14 := by omega
        clear H CE E1
        generalize Fs[fi].2.2.2.1 = nvv at *
        unfold cf_157_85 cf_157_107 cf_157_116
        simp (disch := omega) only [ev_S, ev_C, ↓reduceIte, Nat.reduceEqDiff, Nat.reduceLeDiff, Nat.reduceAdd, Nat.reduceMul, Nat.reduceSub, reduceCtorEq, l32_0, l32_1, l32_2, l32_3, l32_4, l32_5, l32_6, l32_7, l32_8, l32_9, l32_10, l32_11, l32_12, l32_13, l32_14, l32_15, l32_16, l32_17, l32_18, l32_19, l32_20, l32_21, l32_22, l32_23, l32_24, l32_25, l32_26, l32_27, l32_28, l32_29, l32_33, l32_40, l32_41, l32_44, l32_45, l32_59, l32_61, l32_91, l32_93, l32_123, l32_125, n1, hP1, hp2, v3]
      · rw [hi] at H
        exact H.pc (Or.inl rfl)
    | succ dd ih =>
      intro i Q t1 hi hQ H
      obtain ⟨Q', rfl⟩ : ∃ Q', Q = Q' + 1 := ⟨Q - 1, by omega⟩
      have hcl : (cStk [(Fs[fi].2.2.2.2.1, 0, List.replicate i (none : Option Nod), [])]).length ≤ 20000 := by
        show ([] ++ ((List.replicate i (none : Option Nod)).reverse ++ [])).length ≤ _
        rw [List.nil_append, List.append_nil, List.length_reverse, List.length_replicate]
        omega
      obtain ⟨t2, v1, v2⟩ := H.bareV (N := N) (X := X) hcl
      rw [← List.replicate_succ'] at v2
      obtain ⟨t', k1, k2, k3⟩ := ih (i + 1) Q' t2 (by omega) (by omega) v2
      refine ⟨t', ?_, k2, k3⟩
      rw [← k1]
      show cf_157_85 N X (cf_157_L2 N X Q') (Int32.ofNat fi) (Int32.ofNat Fs[fi].2.2.2.1) (Int32.ofNat i) t1 = _
      have n1 : ¬ Fs[fi].2.2.2.1 ≤ i := by omega
      have n2 : i ≤ 14 := by omega
      have eb : cf_253 N X (-Int32.ofNat 1) (Int32.ofNat 0) t1 = some (t1, .inl (some (.long bare))) := rfl
      clear H CE E1 v2 k1 k2
      generalize Fs[fi].2.2.2.1 = nvv at *
      unfold cf_157_85 cf_157_92 cf_157_98 cf_157_101
      simp (disch := omega) only [ev_S, ev_C, ↓reduceIte, Nat.reduceEqDiff, Nat.reduceLeDiff, Nat.reduceAdd, Nat.reduceMul, Nat.reduceSub, reduceCtorEq, l32_0, l32_1, l32_2, l32_3, l32_4, l32_5, l32_6, l32_7, l32_8, l32_9, l32_10, l32_11, l32_12, l32_13, l32_14, l32_15, l32_16, l32_17, l32_18, l32_19, l32_20, l32_21, l32_22, l32_23, l32_24, l32_25, l32_26, l32_27, l32_28, l32_29, l32_33, l32_40, l32_41, l32_44, l32_45, l32_59, l32_61, l32_91, l32_93, l32_123, l32_125, n1, eb, v1]
  obtain ⟨t', k1, k2, k3⟩ := key Fs[fi].2.2.2.1 0 N tE (Nat.zero_add _) (by omega) CE
  exact ⟨t', by rw [E1]; exact k1, k2, k3⟩
theorem RXm.enter0 (hN : 170000 ≤ N) (R : RXm s0 s h code Fs fu f [] sh T out) (hfi : fi < Fs.length) (hF12 : Fs.length ≤ 12) (hnv : Fs[fi].2.2.2.1 ≤ 14) (hdp : T.2.2.1 ≤ 10) : ∃ s2, mf_310 N (Int32.ofNat (fb0 h + fi)) (Int32.ofNat 0) (-Int32.ofNat 1) s = some (s2, none) ∧ RXm s0 s2 h code Fs fu f [(Fs[fi].2.2.2.2.1, 0, List.replicate Fs[fi].2.2.2.1 none, [])] sh (opT T 1) out ∧ s2.1 69 = Int32.ofNat (ob0 h + posR code Fs[fi].2.2.2.2.1) := by
  obtain ⟨r1, ⟨b1, b2, b3, b4, b5, b6, b7, b8⟩, r3⟩ := R
  have b6 : s.1 73 = Int32.ofNat 0 := b6
  have r3 : s.1 51 = Int32.ofNat 0 := r3
  have hh := r1.1.1
  have hfe := r1.1.2.2 fi hfi
  have hf20 : s.2.2.1 20 (fb0 h + fi) = Int32.ofNat (ob0 h + posR code Fs[fi].2.2.2.2.1) := hfe.1
  have hfb : fb0 h + fi < 24 := by unfold fb0; omega
  obtain ⟨sv, v1, v2, v3, v4, v5, v6, v7⟩ := r_vars (N := N) (s := s) (x1 := Int32.ofNat (fb0 h + fi)) (bk := -Int32.ofNat 1) (D := 0) (nb := 0) (r := 0) hN b6 (by omega) (by omega) (by omega)
  have E0 : mf_310 N (Int32.ofNat (fb0 h + fi)) (Int32.ofNat 0) (-Int32.ofNat 1) s = mf_310_L4 N N 0 (Int32.ofNat (fb0 h + fi)) (Int32.ofNat 0) (-Int32.ofNat 1) (Int32.ofNat 0) (Int32.ofNat 0) s := by
    have sb : Int32.ofNat 0 - Int32.ofNat 0 = Int32.ofNat 0 := rfl
    clear v1
    unfold mf_310 mf_310_0 mf_310_20
    simp (disch := omega) only [ev_S, ev_P, ↓reduceIte, Nat.reduceEqDiff, Nat.reduceLeDiff, Nat.reduceAdd, Nat.reduceMul, Nat.reduceSub, reduceCtorEq, l32_0, l32_1, l32_2, l32_3, l32_4, l32_5, l32_6, l32_7, l32_8, l32_9, l32_10, l32_11, l32_12, l32_13, l32_14, l32_15, l32_16, l32_17, l32_18, l32_19, l32_20, l32_21, l32_22, l32_23, l32_24, l32_25, l32_26, l32_27, l32_28, l32_29, l32_33, l32_40, l32_41, l32_44, l32_45, l32_59, l32_61, l32_91, l32_93, l32_123, l32_125, b6, r3, sb]
  have h63 : s.1 63 = Int32.ofNat T.2.2.1 := r1.2.1.2.2.2.1
  obtain ⟨s2, hs2⟩ : ∃ s2, s2 = mI (mI (mI (mA (mA (mA (mI sv 51 (Int32.ofNat 0)) 74 (upd (sv.2.2.1 74) 0 (Int32.ofNat 0))) 75 (upd (sv.2.2.1 75) 0 (-Int32.ofNat 1))) 76 (upd (sv.2.2.1 76) 0 (Int32.ofNat 0))) 73 (Int32.ofNat 1)) 63 (Int32.ofNat (if T.2.2.1 < 1 then 1 else T.2.2.1))) 69 (Int32.ofNat (ob0 h + posR code Fs[fi].2.2.2.2.1)) := ⟨_, rfl⟩
  have e114 : mf_310_114 N (Int32.ofNat (fb0 h + fi)) (-Int32.ofNat 1) (Int32.ofNat 0) sv = some (s2, none) := by
    have w73 : sv.1 73 = Int32.ofNat 0 := by rw [v2]; exact b6
    have w63 : sv.1 63 = Int32.ofNat T.2.2.1 := by rw [v2]; exact h63
    have w79 : sv.1 79 = Int32.ofNat 0 := by rw [v2]; exact b7
    have w20 : sv.2.2.1 20 (fb0 h + fi) = Int32.ofNat (ob0 h + posR code Fs[fi].2.2.2.2.1) := by rw [v5 20 (by omega) (by omega)]; exact hf20
    rw [hs2]
    clear v1 E0 hs2
    generalize ob0 h + posR code Fs[fi].2.2.2.2.1 = en at *
    generalize fb0 h + fi = fn at *
    by_cases c : T.2.2.1 < 1
    · have c' : ¬ 1 ≤ T.2.2.1 := by omega
      rw [if_pos c]
      unfold mf_310_114 mf_310_176 mf_310_187
      simp (disch := omega) only [ev_S, ev_P, ↓reduceIte, Nat.reduceEqDiff, Nat.reduceLeDiff, Nat.reduceAdd, Nat.reduceMul, Nat.reduceSub, reduceCtorEq, l32_0, l32_1, l32_2, l32_3, l32_4, l32_5, l32_6, l32_7, l32_8, l32_9, l32_10, l32_11, l32_12, l32_13, l32_14, l32_15, l32_16, l32_17, l32_18, l32_19, l32_20, l32_21, l32_22, l32_23, l32_24, l32_25, l32_26, l32_27, l32_28, l32_29, l32_33, l32_40, l32_41, l32_44, l32_45, l32_59, l32_61, l32_91, l32_93, l32_123, l32_125, w73, w63, c', w79, w20]
    · have c' : 1 ≤ T.2.2.1 := by omega
      rw [if_neg c]
      unfold mf_310_114 mf_310_183 mf_310_187
      simp (disch := omega) only [ev_S, ev_P, ↓reduceIte, Nat.reduceEqDiff, Nat.reduceLeDiff, Nat.reduceAdd, Nat.reduceMul, Nat.reduceSub, reduceCtorEq, l32_0, l32_1, l32_2, l32_3, l32_4, l32_5, l32_6, l32_7, l32_8, l32_9, l32_10, l32_11, l32_12, l32_13, l32_14, l32_15, l32_16, l32_17, l32_18, l32_19, l32_20, l32_21, l32_22, l32_23, l32_24, l32_25, l32_26, l32_27, l32_28, l32_29, l32_33, l32_40, l32_41, l32_44, l32_45, l32_59, l32_61, l32_91, l32_93, l32_123, l32_125, w73, w63, c', w79, w20]
  refine ⟨s2, by rw [E0, v1, e114], ⟨?_, ⟨?_, ?_, ?_, ?_, ?_, ?_, ?_, ?_⟩, ?_⟩, by rw [hs2]; rfl⟩
  · have iq : ∀ q, ¬ (q = 51 ∨ q = 73 ∨ q = 63 ∨ q = 69) → s2.1 q = s.1 q := fun q hq => by
      rw [hs2]
      show (if q = 69 then _ else if q = 63 then _ else if q = 73 then _ else if q = 51 then _ else sv.1 q) = _
      rw [if_neg (by omega), if_neg (by omega), if_neg (by omega), if_neg (by omega), v2]
    have aq : ∀ q, ¬ (74 ≤ q ∧ q ≤ 78) → s2.2.2.1 q = s.2.2.1 q := fun q hq => by
      rw [hs2]
      show (if q = 76 then _ else if q = 75 then _ else if q = 74 then _ else sv.2.2.1 q) = _
      rw [if_neg (by omega), if_neg (by omega), if_neg (by omega), v5 q (by omega) (by omega)]
    obtain ⟨a1, ⟨t1, t2, t3, t4, t5⟩, a3, a4, a5⟩ := r1
    refine ⟨a1.keep (fun q q1 q2 => aq q (by omega)), ⟨?_, ?_, ?_, ?_, ?_⟩, ⟨?_, ?_⟩, a4.ch (iq 87 (by omega)) (aq 86 (by omega)), a5.tr ⟨⟨fun q r => iq q (by unfold iRn at r; omega), fun q r => ?_, fun q r => aq q (by unfold aRn at r; omega), fun q r => ?_⟩, fun y hy => by rw [aq 47 (by omega)]⟩⟩
    · rw [iq 61 (by omega)]; exact t1
    · rw [iq 60 (by omega)]; exact t2
    · rw [iq 62 (by omega)]; exact t3
    · rw [hs2]; rfl
    · rw [iq 64 (by omega)]; exact t5
    · rw [iq 66 (by omega)]; exact a3.1
    · rw [iq 67 (by omega)]; exact a3.2
    · rw [hs2]; show sv.2.1 q = _; rw [v3]
    · rw [hs2]; show sv.2.2.2 q = _; rw [v4]
  · trivial
  · have e47 : s2.2.2.1 47 = s.2.2.1 47 := by rw [hs2]; exact v5 47 (by omega) (by omega)
    refine ⟨?_, ?_, ?_, fun i hi => ?_, trivial⟩
    · rw [hs2]; rfl
    · rw [hs2]; rfl
    · rw [hs2]; rfl
    · have e77 : s2.2.2.1 77 = sv.2.2.1 77 := by rw [hs2]; rfl
      have e78 : s2.2.2.1 78 = sv.2.2.1 78 := by rw [hs2]; rfl
      rw [e47, e77, e78]
      obtain ⟨u1, u2⟩ := v6 i hi
      have u1 : sv.2.2.1 77 (14 * 0 + i) = Int32.ofNat 2 := by rw [u1, if_neg (Nat.not_lt_zero _)]
      show rvo (s.2.2.1 47) f (sv.2.2.1 77 (14 * 0 + i)) (sv.2.2.1 78 (14 * 0 + i)) ((List.replicate Fs[fi].2.2.2.1 (none : Option Nod)).getD i none)
      rw [u1]
      have eg : (List.replicate Fs[fi].2.2.2.1 (none : Option Nod)).getD i none = none := by
        rw [List.getD_eq_getElem?_getD, List.getElem?_replicate]
        split <;> rfl
      rw [eg]
      rfl
  · trivial
  · intro i hi
    have e47 : s2.2.2.1 47 = s.2.2.1 47 := by rw [hs2]; exact v5 47 (by omega) (by omega)
    have e71 : s2.2.2.1 71 = s.2.2.1 71 := by rw [hs2]; exact v5 71 (by omega) (by omega)
    have e72 : s2.2.2.1 72 = s.2.2.1 72 := by rw [hs2]; exact v5 72 (by omega) (by omega)
    rw [e47, e71, e72]
    exact b4 i hi
  · have e47 : s2.2.2.1 47 = s.2.2.1 47 := by rw [hs2]; exact v5 47 (by omega) (by omega)
    rw [e47]
    exact b5
  · rw [hs2]; rfl
  · rw [hs2]
    show sv.1 79 = _
    rw [v2]
    exact b7
  · rw [hs2]
    show sv.1 48 = _
    rw [v2]
    exact b8
  · rw [hs2]; rfl
end EN0
end
-- ### 98zzz.pure.lean.txt
section
/-! ===== PURE: run (155): a run begins (the reference) ===== -/
section BGR
variable {N : Nat} {S : Nat → Option (Th 4)} {σ0 k i fu e : Nat} {μ : Nat → Nat} {t : cS} {s s1 s2 sb : mS} {x1 x2 : Int32} {code : List Ins} {Fs : List Fn}
/-- shelves 0 .. i - 1 are there -/
def RLs (S : Nat → Option (Th 4)) (sb : mS) (i : Nat) (s : mS) : Prop := s.1 = sb.1 ∧ s.2.1 = sb.2.1 ∧ s.2.2.2 = sb.2.2.2 ∧ (∀ q, ¬ (q = 71 ∨ q = 72) → s.2.2.1 q = sb.2.2.1 q) ∧ ∀ j, j < i → rvo (sb.2.2.1 47) 154250 (s.2.2.1 71 j) (s.2.2.1 72 j) (shO S j)
theorem RLs.put {kk vv : Int32} (H : RLs S sb i s) (hv : rvo (sb.2.2.1 47) 154250 kk vv (shO S i)) : RLs S sb (i + 1) (mA (mA s 71 (upd (s.2.2.1 71) i kk)) 72 (upd (s.2.2.1 72) i vv)) := by
  obtain ⟨h1, h2, h3, h4, h5⟩ := H
  refine ⟨h1, h2, h3, fun q hq => ?_, fun j hj => ?_⟩
  · show (if q = 72 then _ else if q = 71 then _ else s.2.2.1 q) = _
    rw [if_neg (by omega), if_neg (by omega)]
    exact h4 q hq
  · show rvo _ _ (if j = i then kk else s.2.2.1 71 j) (if j = i then vv else s.2.2.1 72 j) _
    by_cases c : j = i
    · rw [if_pos c, if_pos c, c]
      exact hv
    · rw [if_neg c, if_neg c]
      exact h5 j (by omega)
theorem r_begL (hS : ∀ j, j < 8 → rSl (sb.2.2.1 47) j (S j)) : ∀ (d i Q : Nat) (s : mS), i + d = 8 → RLs S sb i s → ∃ s2, mf_68_L12 N (Q + (d + 1)) 0 x1 x2 (Int32.ofNat i) s = mf_68_243 N x1 x2 s2 ∧ RLs S sb 8 s2 := by
  intro d
  induction d with
  | zero =>
    intro i Q s hi H
    have hi : i = 8 := hi
    subst hi
    exact ⟨s, rfl, H⟩
  | succ d ih =>
    intro i Q s hi H
    have hi8 : i < 8 := by omega
    have hs := hS i hi8
    have e47 : s.2.2.1 47 = sb.2.2.1 47 := H.2.2.2.1 47 (by omega)
    have ml : Int32.ofNat 2410 * Int32.ofNat i = Int32.ofNat (2410 * i) := i32mul
    have n8 : ¬ 8 ≤ i := by omega
    have step : ∀ kk vv, mf_68_L12 N (Q + (d + 1 + 1)) 0 x1 x2 (Int32.ofNat i) s = mf_68_L12 N (Q + (d + 1)) 0 x1 x2 (Int32.ofNat (i + 1)) (mA (mA s 71 (upd (s.2.2.1 71) i kk)) 72 (upd (s.2.2.1 72) i vv)) → rvo (sb.2.2.1 47) 154250 kk vv (shO S i) → ∃ s2, mf_68_L12 N (Q + (d + 1 + 1)) 0 x1 x2 (Int32.ofNat i) s = mf_68_243 N x1 x2 s2 ∧ RLs S sb 8 s2 := fun kk vv e1 e2 => by
      obtain ⟨s2, b1, b2⟩ := ih (i + 1) Q _ (by omega) (H.put e2)
      exact ⟨s2, by rw [e1, b1], b2⟩
    cases hx : S i with
    | none =>
      rw [hx] at hs
      have h0 : s.2.2.1 47 (2410 * i) = -Int32.ofNat 1 := by rw [e47]; exact hs
      refine step (Int32.ofNat 2) (Int32.ofNat (2410 * i)) ?_ (by unfold shO; rw [hx]; rfl)
      show mf_68_154 N (mf_68_L12 N (Q + (d + 1))) x1 x2 (Int32.ofNat i) s = _
      have h0' : (mA s 71 (upd (s.2.2.1 71) i (Int32.ofNat 2))).2.2.1 47 (2410 * i) = -Int32.ofNat 1 := h0
      unfold mf_68_154 mf_68_161 mf_68_186 mf_68_205 mf_68_234 mf_68_236
      simp (disch := omega) only [ev_S, ev_P, ↓reduceIte, Nat.reduceEqDiff, Nat.reduceLeDiff, Nat.reduceAdd, Nat.reduceMul, Nat.reduceSub, reduceCtorEq, l32_0, l32_1, l32_2, l32_3, l32_4, l32_5, l32_6, l32_7, l32_8, l32_9, l32_10, l32_11, l32_12, l32_13, l32_14, l32_15, l32_16, l32_17, l32_18, l32_19, l32_20, l32_21, l32_22, l32_23, l32_24, l32_25, l32_26, l32_27, l32_28, l32_29, l32_33, l32_40, l32_41, l32_44, l32_45, l32_59, l32_61, l32_91, l32_93, l32_123, l32_125, n8, l32_2410, ml, h0, h0', l32_166300]
    | some x =>
      rw [hx] at hs
      have hs : (match intT 4 x with | some z => sb.2.2.1 47 (2410 * i) = 0 ∧ sb.2.2.1 47 (2410 * i + 1) = z | none => Lay 4 (sb.2.2.1 47) (Rk i) (2410 * i) x) := hs
      cases hz : intT 4 x with
      | some z =>
        rw [hz] at hs
        have h0 : s.2.2.1 47 (2410 * i) = Int32.ofNat 0 := by rw [e47]; exact hs.1
        have h1 : s.2.2.1 47 (2410 * i + 1) = z := by rw [e47]; exact hs.2
        refine step (Int32.ofNat 0) z ?_ (by
          unfold shO
          rw [hx]
          refine Or.inl ⟨rfl, ?_⟩
          have := vw_int (⟨4, x⟩ : Nod)
          rw [← this]
          exact hz)
        show mf_68_154 N (mf_68_L12 N (Q + (d + 1))) x1 x2 (Int32.ofNat i) s = _
        have h0' : (mA s 71 (upd (s.2.2.1 71) i (Int32.ofNat 0))).2.2.1 47 (2410 * i) = Int32.ofNat 0 := h0
        have h1' : (mA s 71 (upd (s.2.2.1 71) i (Int32.ofNat 0))).2.2.1 47 (2410 * i + 1) = z := h1
        unfold mf_68_154 mf_68_161 mf_68_190 mf_68_200 mf_68_205 mf_68_222 mf_68_236
        simp (disch := omega) only [ev_S, ev_P, ↓reduceIte, Nat.reduceEqDiff, Nat.reduceLeDiff, Nat.reduceAdd, Nat.reduceMul, Nat.reduceSub, reduceCtorEq, l32_0, l32_1, l32_2, l32_3, l32_4, l32_5, l32_6, l32_7, l32_8, l32_9, l32_10, l32_11, l32_12, l32_13, l32_14, l32_15, l32_16, l32_17, l32_18, l32_19, l32_20, l32_21, l32_22, l32_23, l32_24, l32_25, l32_26, l32_27, l32_28, l32_29, l32_33, l32_40, l32_41, l32_44, l32_45, l32_59, l32_61, l32_91, l32_93, l32_123, l32_125, n8, l32_2410, ml, h0, h0', h1', l32_166300]
      | none =>
        rw [hz] at hs
        have hs : Lay 4 (sb.2.2.1 47) (Rk i) (2410 * i) x := hs
        have hk := (Lay.kd 4 hs).1
        have hkn : ¬ kdT 4 x = Int32.ofNat 0 ∧ ¬ kdT 4 x = -Int32.ofNat 1 := by
          have h2 : kdT 4 x = kdV (vw (⟨4, x⟩ : Nod)) := vw_kd (⟨4, x⟩ : Nod)
          have h3 : intT 4 x = intV (vw (⟨4, x⟩ : Nod)) := vw_int (⟨4, x⟩ : Nod)
          rw [h2]
          rw [hz] at h3
          generalize vw (⟨4, x⟩ : Nod) = V at *
          obtain q | r | q | l := V
          · cases h3
          · exact ⟨by show ¬ (1 : Int32) = _; decide, by show ¬ (1 : Int32) = _; decide⟩
          · exact ⟨by show ¬ (2 : Int32) = _; decide, by show ¬ (2 : Int32) = _; decide⟩
          · exact ⟨by show ¬ (3 : Int32) = _; decide, by show ¬ (3 : Int32) = _; decide⟩
        obtain ⟨kd, hkd⟩ : ∃ kd, kd = kdT 4 x := ⟨_, rfl⟩
        rw [← hkd] at hk hkn
        have h0 : s.2.2.1 47 (2410 * i) = kd := by rw [e47]; exact hk
        obtain ⟨hk0, hk1⟩ := hkn
        refine step (Int32.ofNat 1) (Int32.ofNat (2410 * i)) ?_ (by
          unfold shO
          rw [hx]
          refine Or.inr ⟨rfl, ?_, 2410 * i, rfl, ?_⟩
          · have := vw_int (⟨4, x⟩ : Nod)
            rw [← this]
            exact hz
          · exact LayN.congr (x := (⟨4, x⟩ : Nod)) (fun y hy => by have := hy.2; show y < 154250 ∧ _; omega) (fun y _ => rfl) hs)
        show mf_68_154 N (mf_68_L12 N (Q + (d + 1))) x1 x2 (Int32.ofNat i) s = _
        have h0' : (mA s 71 (upd (s.2.2.1 71) i (Int32.ofNat 1))).2.2.1 47 (2410 * i) = kd := h0
        unfold mf_68_154 mf_68_161 mf_68_190 mf_68_204 mf_68_205 mf_68_234 mf_68_236
        simp (disch := omega) only [ev_S, ev_P, ↓reduceIte, Nat.reduceEqDiff, Nat.reduceLeDiff, Nat.reduceAdd, Nat.reduceMul, Nat.reduceSub, reduceCtorEq, l32_0, l32_1, l32_2, l32_3, l32_4, l32_5, l32_6, l32_7, l32_8, l32_9, l32_10, l32_11, l32_12, l32_13, l32_14, l32_15, l32_16, l32_17, l32_18, l32_19, l32_20, l32_21, l32_22, l32_23, l32_24, l32_25, l32_26, l32_27, l32_28, l32_29, l32_33, l32_40, l32_41, l32_44, l32_45, l32_59, l32_61, l32_91, l32_93, l32_123, l32_125, n8, l32_2410, ml, h0, h0', hk0, hk1, l32_166300]
theorem r_beg (hN : 170000 ≤ N) (h : iS S σ0 k μ t s) (hE : rEv s (1 - e) code Fs) : ∃ s2, mf_68_61 N x1 x2 (Int32.ofNat fu) s = mf_68_243 N x1 x2 s2 ∧ RXm s2 s2 (1 - e) code Fs fu 154250 [] (shO S) (0, 0, 0, 0) [] ∧ s2.1 68 = 1 ∧ s2.1 12 = s.1 12 ∧ mfr (fun q => iRn q ∨ q = 68) (fun q => q = 89) aRn (fun _ => False) s s2 ∧ ∀ y, y < 154240 → s2.2.2.1 47 y = s.2.2.1 47 y := by
  obtain ⟨sb, hsb⟩ : ∃ sb, sb = mA (mA (mI (mI (mI (mI (mI (mI (mI (mI (mI (mI (mI (mI (mI (mI s 68 1) 60 0) 61 (Int32.ofNat fu)) 62 0) 63 0) 64 0) 65 0) 66 0) 67 (-1)) 87 0) 51 0) 79 0) 73 0) 48 154250) 47 (upd (s.2.2.1 47) 154240 1)) 47 (upd (upd (s.2.2.1 47) 154240 1) 154241 0) := ⟨_, rfl⟩
  have E : mf_68_61 N x1 x2 (Int32.ofNat fu) s = mf_68_L12 N N 0 x1 x2 (Int32.ofNat 0) sb := by
    rw [hsb]
    have c0 : Int32.toNatClampNeg (154240 : Int32) = 154240 := by decide
    have c1 : Int32.toNatClampNeg (154241 : Int32) = 154241 := by decide
    unfold mf_68_61
    rw [if_pos (by decide), if_pos (by decide), c0, c1]
    rfl
  have e47 : ∀ y, y < 154240 → sb.2.2.1 47 y = s.2.2.1 47 y := fun y hy => by
    rw [hsb]
    show (if y = 154241 then _ else if y = 154240 then _ else s.2.2.1 47 y) = _
    rw [if_neg (by omega), if_neg (by omega)]
  have hS : ∀ j, j < 8 → rSl (sb.2.2.1 47) j (S j) := fun j hj => rSl.congr (fun y hy => e47 y (by have := hy.2; omega)) (h.2.2.2.2.2.1 j hj).2
  obtain ⟨s2, b1, q1, q2, q3, q4, q5⟩ := r_begL (N := N) (x1 := x1) (x2 := x2) hS 8 0 (N - 9) sb (Nat.zero_add _) ⟨rfl, rfl, rfl, fun _ _ => rfl, fun j hj => absurd hj (Nat.not_lt_zero _)⟩
  rw [show N - 9 + (8 + 1) = N by omega] at b1
  have aq : ∀ q, ¬ (q = 47 ∨ q = 71 ∨ q = 72) → s2.2.2.1 q = s.2.2.1 q := fun q hq => by
    rw [q4 q (by omega), hsb]
    show (if q = 47 then _ else if q = 47 then _ else s.2.2.1 q) = _
    rw [if_neg (by omega), if_neg (by omega)]
  have a47 : s2.2.2.1 47 = sb.2.2.1 47 := q4 47 (by omega)
  refine ⟨s2, by rw [E, b1], ⟨⟨hE.keep (fun q r1 r2 => aq q (by omega)), ⟨?_, ?_, ?_, ?_, ?_⟩, ⟨?_, ?_⟩, ⟨?_, fun i hi => absurd hi (Nat.not_lt_zero _)⟩, ⟨⟨fun _ _ => rfl, fun _ _ => rfl, fun _ _ => rfl, fun _ _ => rfl⟩, fun _ _ => rfl⟩⟩, ⟨trivial, trivial, trivial, fun i hi => by rw [a47]; exact q5 i hi, ?_, ?_, ?_, ?_⟩, ?_⟩, ?_, ?_, ⟨fun q r => ?_, fun q r => ?_, fun q r => aq q (by unfold aRn at r; omega), fun q r => ?_⟩, fun y hy => by rw [a47]; exact e47 y hy⟩
  · rw [q1, hsb]; rfl
  · rw [q1, hsb]; rfl
  · rw [q1, hsb]; rfl
  · rw [q1, hsb]; rfl
  · rw [q1, hsb]; rfl
  · rw [q1, hsb]; rfl
  · rw [q1, hsb]; rfl
  · rw [q1, hsb]; rfl
  · rw [a47, hsb]
    refine ⟨fun y r1 r2 => by have r2 : y < 154240 + 2 + 0 := r2; show y < 154250 ∧ _; omega, rfl, rfl, fun i hi => absurd hi (Nat.not_lt_zero _)⟩
  · rw [q1, hsb]; rfl
  · rw [q1, hsb]; rfl
  · rw [q1, hsb]; rfl
  · rw [q1, hsb]; rfl
  · rw [q1, hsb]; rfl
  · rw [q1, hsb]; rfl
  · rw [q1, hsb]
    show (if q = 48 then _ else if q = 73 then _ else if q = 79 then _ else if q = 51 then _ else if q = 87 then _ else if q = 67 then _ else if q = 66 then _ else if q = 65 then _ else if q = 64 then _ else if q = 63 then _ else if q = 62 then _ else if q = 61 then _ else if q = 60 then _ else if q = 68 then _ else s.1 q) = _
    unfold iRn at r
    repeat rw [if_neg (by omega)]
  · rw [q2, hsb]
    rfl
  · rw [q3, hsb]
    rfl
end BGR
end
-- ### 98zzza.pure.lean.txt
section
/-! ===== PURE: run (156): a run ends (the reference) ===== -/
/-- numbers of what may be bare -/
def serNo : Option Nod → List Int32
  | none => []
  | some x => serN x
/-- y is o, of depth 4 -/
def lfR : Option Nod → Option (Th 4) → Prop
  | none, none => True
  | some x, some z => intT 4 z = intT x.1 x.2 ∧ ∀ (h : Nat → Int32) (R : Nat → Prop) (a : Nat), LayN h R a x → Lay 4 h R a z
  | _, _ => False
section ENR2
variable {N : Nat} {s s1 s2 s' : mS} {f i j : Nat} {kk vv x2 : Int32} {o : Option Nod} {y : Option (Th 4)} {g g' : Nat → Int32} {S' : Nat → Option (Th 4)} {sh : Nat → Option Nod}
theorem lfO (h : ∀ x, o = some x → wfN x ∧ x.1 ≤ 4) : ∃ y : Option (Th 4), (∀ z, y = some z → wfT 4 z) ∧ serO y = serNo o ∧ lfR o y := by
  cases o with
  | none => exact ⟨none, fun z q => (by cases q), rfl, trivial⟩
  | some x =>
    obtain ⟨h1, h2⟩ := h x rfl
    obtain ⟨z, e1, e2, e3, e4⟩ := lf4 (4 - x.1) x.1 x.2 (by omega) h1
    exact ⟨some z, fun z' q => (by cases q; exact e2), e1, e3, e4⟩
theorem rvo.cg (H : rvo g f kk vv o) (hh : ∀ y, Rf f y → g' y = g y) : rvo g' f kk vv o := by
  cases o with
  | none => exact H
  | some x =>
    rcases H with H | ⟨h1, h2, a, h3, h4⟩
    · exact Or.inl H
    · exact Or.inr ⟨h1, h2, a, h3, LayN.congr (fun _ z => z) hh h4⟩
/-- a shelf is laid aside -/
theorem r_lay1 (hN : 170000 ≤ N) (hv : rvo (s.2.2.1 47) f kk vv o) (hf : f ≤ 160000) (hi : i < 8) (hw : ∀ x, o = some x → wfN x ∧ x.1 ≤ 4) (hy : lfR o y) : ∃ s', mf_75 N kk vv (Int32.ofNat (2410 * (56 + i))) s = some (s', none) ∧ rSl (s'.2.2.1 47) (56 + i) y ∧ lyF (2410 * (56 + i)) s s' := by
  have hb : 2410 * (56 + i) + 2410 ≤ 154240 := by omega
  have e2 : Int32.ofNat (2410 * (56 + i)) + 1 = Int32.ofNat (2410 * (56 + i) + 1) := i32al
  cases o with
  | none =>
    cases y with
    | some z => exact hy.elim
    | none =>
      have hv : kk = Int32.ofNat 2 := hv
      subst hv
      unfold mf_75 mf_75_0
      rw [if_neg (fun q => q rfl)]
      unfold mf_75_5
      rw [if_pos (gd rfl (by omega) (by decide)), i32c (m := 2410 * (56 + i)) (by omega)]
      refine ⟨_, rfl, if_pos rfl, ⟨fun _ _ => rfl, fun _ _ => rfl, fun q r => if_neg (fun z => r (Or.inl z)), fun _ _ => rfl⟩, fun y hy => ?_⟩
      show upd _ (2410 * (56 + i)) (-1) y = _
      unfold upd
      rw [if_neg (by omega)]
  | some x =>
    cases y with
    | none => exact hy.elim
    | some z =>
      obtain ⟨hz, hl⟩ := hy
      have hvi := vw_int x
      rcases hv with ⟨h1, h2⟩ | ⟨h1, h2, a, h3, h4⟩
      · subst h1
        have hzi : intT 4 z = some vv := by rw [hz, hvi]; exact h2
        unfold mf_75 mf_75_0
        rw [if_pos (by decide)]
        unfold mf_75_13
        rw [if_neg (by decide)]
        unfold mf_75_17
        rw [if_pos (gd rfl (by omega) (by decide)), if_pos (gd e2 (by omega) (by decide)), cl e2 (by omega), i32c (m := 2410 * (56 + i)) (by omega)]
        refine ⟨_, rfl, ?_, ⟨fun _ _ => rfl, fun _ _ => rfl, fun q r => (if_neg (fun z => r (Or.inl z))).trans (if_neg (fun z => r (Or.inl z))), fun _ _ => rfl⟩, fun y hy => ?_⟩
        · unfold rSl
          dsimp only
          rw [hzi]
          refine ⟨?_, ?_⟩
          · show upd (upd _ (2410 * (56 + i)) 0) (2410 * (56 + i) + 1) vv (2410 * (56 + i)) = 0
            unfold upd
            rw [if_neg (by omega), if_pos rfl]
          · show upd (upd _ (2410 * (56 + i)) 0) (2410 * (56 + i) + 1) vv (2410 * (56 + i) + 1) = vv
            unfold upd
            rw [if_pos rfl]
        · show upd (upd _ (2410 * (56 + i)) 0) (2410 * (56 + i) + 1) vv y = _
          unfold upd
          rw [if_neg (by omega), if_neg (by omega)]
      · subst h1 h3
        have hzn : intT 4 z = none := by rw [hz, hvi]; exact h2
        obtain ⟨s', a1, a2, a3⟩ := r_lay (N := N) (R := Rf f) (b0 := 2410 * (56 + i)) (by omega) (fun y hy => by have := hy.1; have := hy.2; omega) (by omega) (bulk_wf x.1 x.2 (hw x rfl).1) h4
        refine ⟨s', a1, ?_, a3⟩
        unfold rSl
        dsimp only
        rw [hzn]
        exact Lay.congr (fun y hy => hy) (fun _ _ => rfl) 4 (hl _ _ _ a2)
theorem ml56 (hi : i < 8) : Int32.ofNat 2410 * (Int32.ofNat 56 + Int32.ofNat i) = Int32.ofNat (2410 * (56 + i)) := by rw [i32add, i32mul]
/-- all shelves are laid aside -/
theorem r_endL4 (hN : 170000 ≤ N) (hf : f ≤ 160000) (hw : ∀ j, j < 8 → ∀ x, sh j = some x → wfN x ∧ x.1 ≤ 4) (hy : ∀ j, j < 8 → lfR (sh j) (S' j)) : ∀ (d i Q : Nat) (s : mS), i + d = 8 → (∀ j, j < 8 → rvo (s.2.2.1 47) f (s.2.2.1 71 j) (s.2.2.1 72 j) (sh j)) → (∀ j, j < i → rSl (s.2.2.1 47) (56 + j) (S' j)) → ∃ s2, mf_68_L4 N (Q + (d + 1)) 0 (Int32.ofNat i) s = mf_68_403 N s2 ∧ (∀ j, j < 8 → rSl (s2.2.2.1 47) (56 + j) (S' j)) ∧ mfr (fun _ => False) (fun _ => False) (fun q => q = 47 ∨ q = 58 ∨ q = 59) (fun _ => False) s s2 ∧ ∀ y, y < 134960 → s2.2.2.1 47 y = s.2.2.1 47 y := by
  intro d
  induction d with
  | zero =>
    intro i Q s hi h1 h2
    have hi : i = 8 := hi
    subst hi
    exact ⟨s, rfl, h2, ⟨fun _ _ => rfl, fun _ _ => rfl, fun _ _ => rfl, fun _ _ => rfl⟩, fun _ _ => rfl⟩
  | succ d ih =>
    intro i Q s hi h1 h2
    have hi8 : i < 8 := by omega
    obtain ⟨s1, a1, a2, a3, a4⟩ := r_lay1 (N := N) hN (h1 i hi8) hf hi8 (hw i hi8) (hy i hi8)
    have e71 : s1.2.2.1 71 = s.2.2.1 71 := a3.2.2.1 71 (by decide)
    have e72 : s1.2.2.1 72 = s.2.2.1 72 := a3.2.2.1 72 (by decide)
    obtain ⟨s2, b1, b2, b3, b4⟩ := ih (i + 1) Q s1 (by omega) (fun j hj => by
      rw [e71, e72]
      exact (h1 j hj).cg (fun y z => a4 y (by have := z.1; have := z.2; omega))) (fun j hj => by
      by_cases c : j = i
      · rw [c]; exact a2
      · exact rSl.congr (fun y z => a4 y (by have := z.1; have := z.2; omega)) (h2 j (by omega)))
    refine ⟨s2, ?_, b2, mfr.tr a3 b3, fun y z => (b4 y z).trans (a4 y (by omega))⟩
    rw [← b1]
    show mf_68_363 N (mf_68_L4 N (Q + (d + 1))) (Int32.ofNat i) s = _
    have n8 : ¬ 8 ≤ i := by omega
    have ml := ml56 hi8
    unfold mf_68_363 mf_68_370 mf_68_397
    simp (disch := omega) only [ev_S, ev_P, ↓reduceIte, Nat.reduceEqDiff, Nat.reduceLeDiff, Nat.reduceAdd, Nat.reduceMul, Nat.reduceSub, reduceCtorEq, l32_0, l32_1, l32_2, l32_3, l32_4, l32_5, l32_6, l32_7, l32_8, l32_9, l32_10, l32_11, l32_12, l32_13, l32_14, l32_15, l32_16, l32_17, l32_18, l32_19, l32_20, l32_21, l32_22, l32_23, l32_24, l32_25, l32_26, l32_27, l32_28, l32_29, l32_33, l32_40, l32_41, l32_44, l32_45, l32_59, l32_61, l32_91, l32_93, l32_123, l32_125, n8, l32_2410, l32_56, ml, a1]
/-- and from there to where they are -/
theorem r_endL2 (hN : 170000 ≤ N) (hw : ∀ j, j < 8 → ∀ z, S' j = some z → wfT 4 z) : ∀ (d i Q : Nat) (s : mS), i + d = 8 → (∀ j, j < 8 → rSl (s.2.2.1 47) (56 + j) (S' j)) → (∀ j, j < i → rSl (s.2.2.1 47) j (S' j)) → ∃ s2, mf_68_L2 N (Q + (d + 1)) 0 (Int32.ofNat i) s = some (s2, some (.int 0)) ∧ (∀ j, j < 8 → rSl (s2.2.2.1 47) j (S' j)) ∧ mfr (fun _ => False) (fun _ => False) (fun q => q = 47 ∨ q = 58 ∨ q = 59) (fun _ => False) s s2 ∧ ∀ y, 19280 ≤ y → s2.2.2.1 47 y = s.2.2.1 47 y := by
  intro d
  induction d with
  | zero =>
    intro i Q s hi h1 h2
    have hi : i = 8 := hi
    subst hi
    exact ⟨s, rfl, h2, ⟨fun _ _ => rfl, fun _ _ => rfl, fun _ _ => rfl, fun _ _ => rfl⟩, fun _ _ => rfl⟩
  | succ d ih =>
    intro i Q s hi h1 h2
    have hi8 : i < 8 := by omega
    obtain ⟨s1, a1, a2, a3, a4⟩ := r_copy (N := N) (k := 56 + i) (k' := i) (by omega) (by omega) (by omega) (by omega) (hw i hi8) (h1 i hi8)
    obtain ⟨s2, b1, b2, b3, b4⟩ := ih (i + 1) Q s1 (by omega) (fun j hj => rSl.congr (fun y z => a4 y (by have := z.1; have := z.2; omega)) (h1 j hj)) (fun j hj => by
      by_cases c : j = i
      · rw [c]; exact a2
      · exact rSl.congr (fun y z => a4 y (by have := z.1; have := z.2; omega)) (h2 j (by omega)))
    refine ⟨s2, ?_, b2, mfr.tr a3 b3, fun y z => (b4 y z).trans (a4 y (by omega))⟩
    rw [← b1]
    show mf_68_406 N (mf_68_L2 N (Q + (d + 1))) (Int32.ofNat i) s = _
    have n8 : ¬ 8 ≤ i := by omega
    have ml := ml56 hi8
    have ml2 : Int32.ofNat 2410 * Int32.ofNat i = Int32.ofNat (2410 * i) := i32mul
    unfold mf_68_406 mf_68_413 mf_68_432
    simp (disch := omega) only [ev_S, ev_P, ↓reduceIte, Nat.reduceEqDiff, Nat.reduceLeDiff, Nat.reduceAdd, Nat.reduceMul, Nat.reduceSub, reduceCtorEq, l32_0, l32_1, l32_2, l32_3, l32_4, l32_5, l32_6, l32_7, l32_8, l32_9, l32_10, l32_11, l32_12, l32_13, l32_14, l32_15, l32_16, l32_17, l32_18, l32_19, l32_20, l32_21, l32_22, l32_23, l32_24, l32_25, l32_26, l32_27, l32_28, l32_29, l32_33, l32_40, l32_41, l32_44, l32_45, l32_59, l32_61, l32_91, l32_93, l32_123, l32_125, n8, l32_2410, l32_56, ml, ml2, a1]
theorem r_end (hN : 170000 ≤ N) (hf : f ≤ 160000) (hw : ∀ j, j < 8 → ∀ x, sh j = some x → wfN x ∧ x.1 ≤ 4) (hy : ∀ j, j < 8 → lfR (sh j) (S' j)) (hz : ∀ j, j < 8 → ∀ z, S' j = some z → wfT 4 z) (hv : ∀ j, j < 8 → rvo (s.2.2.1 47) f (s.2.2.1 71 j) (s.2.2.1 72 j) (sh j)) : ∃ s2, mf_68_360 N s = some (s2, some (.int 0)) ∧ (∀ j, j < 8 → rSl (s2.2.2.1 47) j (S' j)) ∧ mfr (fun _ => False) (fun _ => False) (fun q => q = 47 ∨ q = 58 ∨ q = 59) (fun _ => False) s s2 ∧ ∀ y, 19280 ≤ y → y < 134960 → s2.2.2.1 47 y = s.2.2.1 47 y := by
  obtain ⟨s1, a1, a2, a3, a4⟩ := r_endL4 (N := N) hN hf hw hy 8 0 (N - 9) s (Nat.zero_add _) hv (fun j hj => absurd hj (Nat.not_lt_zero _))
  obtain ⟨s2, b1, b2, b3, b4⟩ := r_endL2 (N := N) hN hz 8 0 (N - 9) s1 (Nat.zero_add _) a2 (fun j hj => absurd hj (Nat.not_lt_zero _))
  rw [show N - 9 + (8 + 1) = N by omega] at a1 b1
  refine ⟨s2, ?_, b2, mfr.tr a3 b3, fun y z1 z2 => (b4 y z1).trans (a4 y z2)⟩
  show mf_68_L4 N N 0 (Int32.ofNat 0) s = _
  rw [a1]
  exact b1
/-- the value given, too -/
theorem r_fin (hN : 170000 ≤ N) (hf : f ≤ 160000) (h66 : s.1 66 = Int32.ofNat 0) {x : Nod} {sh' : Nat → Option Nod} (hx2 : x2 = -1 ∨ ∃ j, j < 8 ∧ x2 = Int32.ofNat j) (hsh : ∀ j, j < 8 → sh' j = if x2 = Int32.ofNat j then some x else sh j) (hw : ∀ j, j < 8 → ∀ x, sh' j = some x → wfN x ∧ x.1 ≤ 4) (hy : ∀ j, j < 8 → lfR (sh' j) (S' j)) (hz : ∀ j, j < 8 → ∀ z, S' j = some z → wfT 4 z) (hv : ∀ j, j < 8 → rvo (s.2.2.1 47) f (s.2.2.1 71 j) (s.2.2.1 72 j) (sh j)) (hx : rvl (s.2.2.1 47) f (s.2.2.1 49 0) (s.2.2.1 50 0) x) : ∃ s2, mf_68_320 N x2 s = some (s2, some (.int 0)) ∧ (∀ j, j < 8 → rSl (s2.2.2.1 47) j (S' j)) ∧ mfr (fun _ => False) (fun _ => False) (fun q => q = 47 ∨ q = 58 ∨ q = 59 ∨ q = 71 ∨ q = 72) (fun _ => False) s s2 ∧ ∀ y, 19280 ≤ y → y < 134960 → s2.2.2.1 47 y = s.2.2.1 47 y := by
  have mo : ∀ {s1 s2 : mS}, mfr (fun _ => False) (fun _ => False) (fun q => q = 47 ∨ q = 58 ∨ q = 59) (fun _ => False) s1 s2 → mfr (fun _ => False) (fun _ => False) (fun q => q = 47 ∨ q = 58 ∨ q = 59 ∨ q = 71 ∨ q = 72) (fun _ => False) s1 s2 := fun m => ⟨m.1, m.2.1, fun q r => m.2.2.1 q (by omega), m.2.2.2⟩
  rcases hx2 with e | ⟨xj, hxj, e⟩
  · subst e
    have hsh' : ∀ j, j < 8 → sh' j = sh j := fun j hj => by
      rw [hsh j hj, if_neg (by
        intro q
        have : (Int32.ofNat j = -Int32.ofNat 1) = False := ev_n5 (by omega)
        rw [← this]
        exact q.symm)]
    obtain ⟨s2, a1, a2, a3, a4⟩ := r_end (N := N) (s := s) (sh := sh') (S' := S') hN hf hw hy hz (fun j hj => by rw [hsh' j hj]; exact hv j hj)
    refine ⟨s2, ?_, a2, mo a3, a4⟩
    have n1 : (-Int32.ofNat 1 < Int32.ofNat 0) = True := eq_true (by decide)
    show mf_68_320 N (-Int32.ofNat 1) s = _
    unfold mf_68_320 mf_68_332
    simp (disch := omega) only [ev_S, ev_P, ↓reduceIte, Nat.reduceEqDiff, Nat.reduceLeDiff, Nat.reduceAdd, Nat.reduceMul, Nat.reduceSub, reduceCtorEq, l32_0, l32_1, l32_2, l32_3, l32_4, l32_5, l32_6, l32_7, l32_8, l32_9, l32_10, l32_11, l32_12, l32_13, l32_14, l32_15, l32_16, l32_17, l32_18, l32_19, l32_20, l32_21, l32_22, l32_23, l32_24, l32_25, l32_26, l32_27, l32_28, l32_29, l32_33, l32_40, l32_41, l32_44, l32_45, l32_59, l32_61, l32_91, l32_93, l32_123, l32_125, h66, n1, a1]
  · subst e
    obtain ⟨s1, hs1⟩ : ∃ s1, s1 = mA (mA s 71 (upd (s.2.2.1 71) xj (s.2.2.1 49 0))) 72 (upd (s.2.2.1 72) xj (s.2.2.1 50 0)) := ⟨_, rfl⟩
    obtain ⟨s2, a1, a2, a3, a4⟩ := r_end (N := N) (s := s1) (sh := sh') (S' := S') hN hf hw hy hz (fun j hj => by
      rw [hs1]
      show rvo (s.2.2.1 47) f (if j = xj then _ else s.2.2.1 71 j) (if j = xj then _ else s.2.2.1 72 j) _
      rw [hsh j hj]
      by_cases c : j = xj
      · rw [if_pos c, if_pos c, if_pos (by rw [c])]
        exact hx
      · rw [if_neg c, if_neg c, if_neg (fun q => c ((ofNat_inj (by omega) (by omega) q).symm))]
        exact hv j hj)
    have e47 : s1.2.2.1 47 = s.2.2.1 47 := by rw [hs1]; rfl
    refine ⟨s2, ?_, a2, ⟨fun q r => ?_, fun q r => ?_, fun q r => ?_, fun q r => ?_⟩, fun y z1 z2 => by rw [a4 y z1 z2, e47]⟩
    · have n0 : ¬ ((0 : Int32) < 0 ∨ 9000 ≤ Int32.toNatClampNeg (0 : Int32)) := by decide
      have c0 : Int32.toNatClampNeg (0 : Int32) = 0 := by decide
      have n1 : ¬ (Int32.ofNat xj < 0 ∨ 8 ≤ Int32.toNatClampNeg (Int32.ofNat xj)) := gd rfl hxj (by decide)
      have c1 : Int32.toNatClampNeg (Int32.ofNat xj) = xj := i32c (by omega)
      have n2 : ¬ Int32.ofNat xj < 0 := i32n (by omega)
      have n3 : s.1 66 ≤ 0 := by rw [h66]; decide
      unfold mf_68_320
      rw [if_pos n3]
      unfold mf_68_332
      rw [if_neg n2]
      unfold mf_68_336
      rw [if_pos n0, if_pos n1, if_pos n0, if_pos n1, c0, c1, ← hs1]
      exact a1
    · rw [a3.1 q r, hs1]; rfl
    · rw [a3.2.1 q r, hs1]; rfl
    · rw [a3.2.2.1 q (by omega), hs1]
      show (if q = 72 then _ else if q = 71 then _ else s.2.2.1 q) = _
      rw [if_neg (by omega), if_neg (by omega)]
    · rw [a3.2.2.2 q r, hs1]; rfl
end ENR2
end
-- ### 98zzzb.pure.lean.txt
section
/-! ===== PURE: run (157): a run ends (the class) ===== -/
/-- nothing but the shelves σ has changed -/
def shF (σ : Nat) (t t' : cS) : Prop := kfr (fun _ _ => False) (fun k => 2000000 + 20 * σ + 2 ≤ k ∧ k ≤ 2000000 + 20 * σ + 10) (fun k => 2000000 + 20 * σ + 2 ≤ k ∧ k ≤ 2000000 + 20 * σ + 10) t t' ∧ (kN t' + gS t σ ≤ kN t + gS t' σ ∧ kQ t' + 2 * gS t σ ≤ kQ t + 2 * gS t' σ ∧ gS t σ ≤ gS t' σ)
section ENC
variable {N : Nat} {X : Nat → Option zz_C} {t t1 t2 tb t' : cS} {s s' : mS} {S S1 S' : Nat → Option (Th 4)} {sh : Nat → Option Nod} {σ σ' σ0 k u w i j : Nat} {μ : Nat → Nat} {x1 : Int32} {ξ : List Int32} {v : Int64}
theorem shF.rf : shF σ t t := ⟨kfr.rf, Nat.le_refl _, Nat.le_refl _, Nat.le_refl _⟩
theorem shF.tr (h : shF σ t t1) (g : shF σ t1 t2) : shF σ t t2 := by
  obtain ⟨h0, h1, h2, h3⟩ := h
  obtain ⟨g0, g1, g2, g3⟩ := g
  exact ⟨h0.tr g0, by omega, by omega, by omega⟩
theorem sm_one {f g : Nat → Nat} {j : Nat} : ∀ {c : Nat}, j < c → (∀ i, i < c → i ≠ j → g i = f i) → sm g 0 c + f j = sm f 0 c + g j
  | 0, h, _ => by omega
  | c + 1, h, hh => by
    show sm g 0 c + g (0 + c) + f j = sm f 0 c + f (0 + c) + g j
    by_cases e : j = c
    · subst e
      have : sm g 0 j = sm f 0 j := sm_congr (fun i _ h2 => hh i (by omega) (by omega))
      rw [this, Nat.zero_add]
      omega
    · have ih := sm_one (f := f) (g := g) (j := j) (c := c) (by omega) (fun i h1 h2 => hh i (by omega) h2)
      have e2 := hh (0 + c) (by omega) (by omega)
      omega
theorem wfr.F (h : wfr σ j t t') (hj : j < 8) : shF σ t t' := by
  obtain ⟨⟨⟨k1, k2, k3, k4, k5, k6, k7, k8⟩, -, -⟩, r1, r2, r3⟩ := h
  have e : gS t' σ + rwK t σ j = gS t σ + rwK t' σ j := by
    unfold gS
    exact sm_one (f := fun j => (kA t (2000000 + 20 * σ + 1 + 1 + j)).1) (g := fun j => (kA t' (2000000 + 20 * σ + 1 + 1 + j)).1) hj (fun i h8 hi => by
      show (kA t' (2000000 + 20 * σ + 1 + 1 + i)).1 = (kA t (2000000 + 20 * σ + 1 + 1 + i)).1
      rw [k4 _ (by omega) (by omega)])
  refine ⟨⟨k1, k2, k3, fun k q r => k4 k (by omega) r, fun k q r => k5 k (by omega) r, k6, k7, k8⟩, by omega, by omega, by omega⟩
/-- other shelves stand -/
theorem shF.o0 (f : shF σ t t') (hn : σ' ≠ σ) (q : cS0 t σ') : cS0 t' σ' := by
  obtain ⟨⟨k1, k2, k3, k4, k5, k6, k7, k8⟩, -⟩ := f
  obtain ⟨g1, g2, g3⟩ := q
  exact ⟨by rw [k7]; exact g1, by rw [k4 _ (by omega) (by omega)]; exact g2, fun i hi => by rw [k4 _ (by omega) (by omega)]; exact g3 i hi⟩
theorem shF.o1 (f : shF σ t t') (hn : σ' ≠ σ) (hi : i < 8) (q : cS1 t σ' i ξ) : cS1 t' σ' i ξ := by
  obtain ⟨⟨k1, k2, k3, k4, k5, k6, k7, k8⟩, -⟩ := f
  unfold cS1 at q ⊢
  rw [k4 (2000000 + 20 * σ' + 10) (by omega) (by omega), k4 (2000000 + 20 * σ' + 1 + 1 + i) (by omega) (by omega)]
  exact q
/-- all shelves have changed, on both sides -/
theorem iS.all (h : iS S σ0 k μ t s) (g0 : cS0 t' σ0) (g1 : ∀ j, j < 8 → cS1 t' σ0 j (serO (S' j))) (g2 : shF σ0 t t') (r1 : s'.1 88 = s.1 88) (r2 : ∀ y, 19280 ≤ y → y < 134960 → s'.2.2.1 47 y = s.2.2.1 47 y) (r3 : ∀ j, j < 8 → rSl (s'.2.2.1 47) j (S' j)) (hw : ∀ j, j < 8 → ∀ z, S' j = some z → wfT 4 z) : iS (fun i => if i < 8 then S' i else S i) σ0 k μ t' s' := by
  obtain ⟨h1, h2, h3, h4, ⟨h5, h50⟩, h6, h7, h8, h9⟩ := h
  have g2' := g2
  obtain ⟨⟨k1, k2, k3, k4, k5, k6, k7, k8⟩, -⟩ := g2'
  refine ⟨h1, by rw [k3]; exact h2, by rw [k1 0 9 (fun q => q)]; exact h3, by rw [r1]; exact h4, ⟨g0, by omega⟩, fun j hj => ?_, fun j x e => ?_, fun m hm σ e => ?_, fun m hm => ?_⟩
  · show cS1 t' σ0 j (serO (if j < 8 then S' j else S j)) ∧ rSl _ j (if j < 8 then S' j else S j)
    rw [if_pos hj]
    exact ⟨g1 j hj, r3 j hj⟩
  · have e : (if j < 8 then S' j else S j) = some x := e
    by_cases c : j < 8
    · rw [if_pos c] at e
      exact hw j c x e
    · rw [if_neg c] at e
      exact h7 j x e
  · rw [k6] at e
    obtain ⟨⟨a1, a2⟩, a3, a4⟩ := h8 m hm σ e
    exact ⟨⟨g2.o0 a3 a1, by omega⟩, a3, fun m' σ' hm' e' => by rw [k6] at e'; exact a4 m' σ' hm' e'⟩
  · obtain ⟨a1, a2⟩ := h9 m hm
    have hne := (h8 m (by omega) _ a1).2.1
    refine ⟨by rw [k6]; exact a1, fun j hj => ?_⟩
    show cS1 t' (μ m) j (serO (if 8 + 8 * m + j < 8 then _ else S (8 + 8 * m + j))) ∧ rSl _ _ (if 8 + 8 * m + j < 8 then _ else S (8 + 8 * m + j))
    rw [if_neg (by omega)]
    refine ⟨g2.o1 hne hj (a2 j hj).1, rSl.congr (fun y z => r2 y ?_ ?_) (a2 j hj).2⟩
    · have := z.1
      omega
    · have := z.2
      omega
theorem shF.i1 (f : wfr σ j t t') (hj : j < 8) (hn : i ≠ j) (hi : i < 8) (q : cS1 t σ i ξ) : cS1 t' σ i ξ := fSh.i1 f.1 hj hn hi q
/-- what the heap and the machine have stands -/
theorem shF.kB50 (f : shF σ t t') {q : Nat} (hq : q < 2000000) (h1 : q ≠ 111) : kB t' q = kB t q ∧ kA t' q = kA t q := by
  obtain ⟨⟨k1, k2, k3, k4, k5, k6, k7, k8⟩, -⟩ := f
  exact ⟨k5 q (by omega) h1, k4 q (by omega) h1⟩
/-- shelves below i are written -/
def KL (σ0 : Nat) (S S1 : Nat → Option (Th 4)) (u w : Nat) (tb : cS) (i : Nat) (t : cS) : Prop := cHp t u w ∧ cS0 t σ0 ∧ (∀ j, j < 8 → cS1 t σ0 j (serO (if j < i then S1 j else S j))) ∧ shF σ0 tb t
theorem gS_le (h : cS0 t σ) : gS t σ ≤ 24000 := by
  have : ∀ c, c ≤ 8 → sm (fun j => (kA t (2000000 + 20 * σ + 1 + 1 + j)).1) 0 c ≤ 3000 * c := by
    intro c
    induction c with
    | zero => intro _; exact Nat.le_refl _
    | succ c ih =>
      intro hc
      have h1 := ih (by omega)
      have h2 := h.2.2 (0 + c) (by omega)
      show sm _ 0 c + (kA t (2000000 + 20 * σ + 1 + 1 + (0 + c))).1 ≤ _
      omega
  exact this 8 (Nat.le_refl _)
/-- one shelf is written -/
theorem KL.put (hN : 170000 ≤ N) (H : KL σ0 S S1 u w tb i t) (hi : i < 8) {o : Option Nod} (hv : cC (cel t) u v o) (hw : ∀ x, o = some x → wfN x ∧ x.1 ≤ 4) (hB : kN tb + 28000 < zz_out) : ∃ t', cf_216 N X σ0 (Int32.ofNat i) v t = some (t', .inl none) ∧ cHp t' u w ∧ cS0 t' σ0 ∧ cS1 t' σ0 i (serNo o) ∧ (∀ j, j < 8 → j ≠ i → cS1 t' σ0 j (serO (if j < i then S1 j else S j))) ∧ shF σ0 tb t' := by
  obtain ⟨H1, H2, H3, H4⟩ := H
  have hk : kN t + 3300 < zz_out := by
    have h1 := H4.2.1
    have h2 := gS_le H2
    omega
  cases o with
  | none =>
    have hv : v = bare := hv
    subst hv
    obtain ⟨t', a1, a2, a3, a4, a5⟩ := c_layB (N := N) (X := X) H2 hi H1 hk
    exact ⟨t', a1, a5, a2, a3, fun j hj hne => shF.i1 a4 hi hne hj (H3 j hj), H4.tr (a4.F hi)⟩
  | some x =>
    obtain ⟨w1, w2⟩ := hw x rfl
    obtain ⟨t', a1, a2, a3, a4, a5⟩ := c_layT (N := N) (X := X) hN H2 hi H1 hv w1 w2 hk
    exact ⟨t', a1, a5, a2, a3, fun j hj hne => shF.i1 a4 hi hne hj (H3 j hj), H4.tr (a4.F hi)⟩
theorem serO_sh : serNo (shO S j) = serO (S j) := by
  unfold shO
  cases S j with
  | none => rfl
  | some x => rfl
/-- what keep does for each shelf -/
theorem c_keepL (hN : 170000 ≤ N) (hP : kP tb 0 7 = some σ0) (l50 : (kB tb 50).1 = 8) (l51 : (kA tb 51).1 = 8) (hS1 : ∀ j, j < 8 → serO (S1 j) = serNo (sh j)) (hsh : ∀ j, j < 8 → cC (cel tb) u ((kB tb 50).2 j) (sh j) ∧ ((kA tb 51).2 j = 0 ∨ (kA tb 51).2 j = 1) ∧ ((kA tb 51).2 j = 0 → sh j = shO S j) ∧ ∀ x, sh j = some x → wfN x ∧ x.1 ≤ 4) (hB : kN tb + 28000 < zz_out) : ∀ (d i Q : Nat) (t : cS), i + d = 8 → KL σ0 S S1 u w tb i t → ∃ t', cf_250_L4 N X (Q + (d + 1)) 0 x1 (Int32.ofNat i) t = cf_250_45 N X x1 t' ∧ KL σ0 S S1 u w tb 8 t' := by
  intro d
  induction d with
  | zero =>
    intro i Q t hi H
    have hi : i = 8 := hi
    subst hi
    exact ⟨t, rfl, H⟩
  | succ d ih =>
    intro i Q t hi H
    have hi8 : i < 8 := by omega
    have H4 := H.2.2.2
    have e50 := (H4.kB50 (q := 50) (by omega) (by omega)).1
    have e51 := (H4.kB50 (q := 51) (by omega) (by omega)).2
    have e43 := (H4.kB50 (q := 43) (by omega) (by omega)).1
    obtain ⟨p1, p2, p3, p4⟩ := hsh i hi8
    have hP1 : kP t 0 7 = some σ0 := by rw [H4.1.2.2.1]; exact hP
    have kh : kH t σ0 = true := H.2.1.1
    have l50' : (kB t 50).1 = 8 := by rw [e50]; exact l50
    have l51' : (kA t 51).1 = 8 := by rw [e51]; exact l51
    have n8 : ¬ 8 ≤ i := by omega
    have hcl : Int32.toNatClampNeg (Int32.ofNat i) = i := i32c (by omega)
    have hg : ¬ (Int32.ofNat i < 0 ∨ 8 ≤ i) := fun q => q.elim (i32n (by omega)) (by omega)
    have e139 : cf_139 N X (Int32.ofNat i) t = some (t, .inl (some (.long ((kB tb 50).2 i)))) := by
      unfold cf_139 cf_139_0
      rw [l50', hcl, if_pos hg, e50]
    rcases p2 with c | c
    · have e138 : cf_138 N X (Int32.ofNat i) t = some (t, .inl (some (.int (Int32.ofNat 0)))) := by
        unfold cf_138 cf_138_0
        rw [l51', hcl, if_pos hg, e51, c]
        rfl
      have H' : KL σ0 S S1 u w tb (i + 1) t := by
        obtain ⟨q1, q2, q3, q4⟩ := H
        refine ⟨q1, q2, fun j hj => ?_, q4⟩
        have q := q3 j hj
        by_cases cj : j = i
        · subst cj
          rw [if_neg (by omega)] at q
          rw [if_pos (by omega), hS1 j hj, p3 c, serO_sh]
          exact q
        · by_cases c2 : j < i
          · rw [if_pos c2] at q
            rw [if_pos (by omega)]
            exact q
          · rw [if_neg c2] at q
            rw [if_neg (by omega)]
            exact q
      obtain ⟨t2, b1, b2⟩ := ih (i + 1) Q t (by omega) H'
      refine ⟨t2, ?_, b2⟩
      rw [← b1]
      show cf_250_2 N X (cf_250_L4 N X (Q + (d + 1))) x1 (Int32.ofNat i) t = _
      unfold cf_250_2 cf_250_8 cf_250_16 cf_250_39
      simp (disch := omega) only [ev_S, ev_C, ↓reduceIte, Nat.reduceEqDiff, Nat.reduceLeDiff, Nat.reduceAdd, Nat.reduceMul, Nat.reduceSub, reduceCtorEq, l32_0, l32_1, l32_2, l32_3, l32_4, l32_5, l32_6, l32_7, l32_8, l32_9, l32_10, l32_11, l32_12, l32_13, l32_14, l32_15, l32_16, l32_17, l32_18, l32_19, l32_20, l32_21, l32_22, l32_23, l32_24, l32_25, l32_26, l32_27, l32_28, l32_29, l32_33, l32_40, l32_41, l32_44, l32_45, l32_59, l32_61, l32_91, l32_93, l32_123, l32_125, n8, e138]
    · have e138 : cf_138 N X (Int32.ofNat i) t = some (t, .inl (some (.int (Int32.ofNat 1)))) := by
        unfold cf_138 cf_138_0
        rw [l51', hcl, if_pos hg, e51, c]
        rfl
      have hv : cC (cel t) u ((kB tb 50).2 i) (sh i) := by
        unfold cel
        rw [e43]
        exact p1
      obtain ⟨t1, a1, a2, a3, a4, a5, a6⟩ := H.put (N := N) (X := X) hN hi8 hv p4 hB
      have H' : KL σ0 S S1 u w tb (i + 1) t1 := by
        refine ⟨a2, a3, fun j hj => ?_, a6⟩
        by_cases cj : j = i
        · subst cj
          rw [if_pos (by omega), hS1 j hj]
          exact a4
        · have q := a5 j hj cj
          by_cases c2 : j < i
          · rw [if_pos c2] at q
            rw [if_pos (by omega)]
            exact q
          · rw [if_neg c2] at q
            rw [if_neg (by omega)]
            exact q
      obtain ⟨t2, b1, b2⟩ := ih (i + 1) Q t1 (by omega) H'
      refine ⟨t2, ?_, b2⟩
      rw [← b1]
      show cf_250_2 N X (cf_250_L4 N X (Q + (d + 1))) x1 (Int32.ofNat i) t = _
      unfold cf_250_2 cf_250_8 cf_250_16 cf_250_19 cf_250_36 cf_250_39
      simp (disch := omega) only [ev_S, ev_C, ↓reduceIte, Nat.reduceEqDiff, Nat.reduceLeDiff, Nat.reduceAdd, Nat.reduceMul, Nat.reduceSub, reduceCtorEq, l32_0, l32_1, l32_2, l32_3, l32_4, l32_5, l32_6, l32_7, l32_8, l32_9, l32_10, l32_11, l32_12, l32_13, l32_14, l32_15, l32_16, l32_17, l32_18, l32_19, l32_20, l32_21, l32_22, l32_23, l32_24, l32_25, l32_26, l32_27, l32_28, l32_29, l32_33, l32_40, l32_41, l32_44, l32_45, l32_59, l32_61, l32_91, l32_93, l32_123, l32_125, n8, e138, hP1, e139, kh, a1]
/-- keep -/
theorem c_keep {x : Nod} {sh' : Nat → Option Nod} (hN : 170000 ≤ N) (hI : iS S σ0 k μ tb s) (hh : cHp tb u w) (l50 : (kB tb 50).1 = 8) (l51 : (kA tb 51).1 = 8) (l52 : 1 ≤ (kB tb 52).1) (h8 : kI tb 49 8 = Int32.ofNat 1) (hx : cN (cel tb) u ((kB tb 52).2 0) x) (wx : wfN x ∧ x.1 ≤ 4) (hx1 : x1 = -1 ∨ ∃ j, j < 8 ∧ x1 = Int32.ofNat j) (hsh' : ∀ j, j < 8 → sh' j = if x1 = Int32.ofNat j then some x else sh j) (hS' : ∀ j, j < 8 → serO (S' j) = serNo (sh' j)) (hsh : ∀ j, j < 8 → cC (cel tb) u ((kB tb 50).2 j) (sh j) ∧ ((kA tb 51).2 j = 0 ∨ (kA tb 51).2 j = 1) ∧ ((kA tb 51).2 j = 0 → sh j = shO S j) ∧ ∀ x, sh j = some x → wfN x ∧ x.1 ≤ 4) (hB : kN tb + 28000 < zz_out) : ∃ t', cf_250 N X x1 tb = some (t', .inl none) ∧ (∃ u w, cHp t' u w) ∧ cS0 t' σ0 ∧ (∀ j, j < 8 → cS1 t' σ0 j (serO (S' j))) ∧ shF σ0 tb t' := by
  have key : ∃ S1 : Nat → Option (Th 4), ∀ j, j < 8 → serO (S1 j) = serNo (sh j) := by
    refine ⟨fun j => if h : j < 8 then Classical.choose (lfO (hsh j h).2.2.2) else none, fun j hj => ?_⟩
    show serO (if h : j < 8 then _ else _) = _
    rw [dif_pos hj]
    exact (Classical.choose_spec (lfO (hsh j hj).2.2.2)).2.1
  obtain ⟨S1, hS1⟩ := key
  have K0 : KL σ0 S S1 u w tb 0 tb := ⟨hh, hI.2.2.2.2.1.1, fun j hj => by rw [if_neg (Nat.not_lt_zero _)]; exact (hI.2.2.2.2.2.1 j hj).1, shF.rf⟩
  obtain ⟨t1, a1, K1⟩ := c_keepL (N := N) (X := X) (x1 := x1) hN hI.2.1 l50 l51 hS1 hsh hB 8 0 (N - 9) tb (Nat.zero_add _) K0
  rw [show N - 9 + (8 + 1) = N by omega] at a1
  have E : cf_250 N X x1 tb = cf_250_45 N X x1 t1 := a1
  rw [E]
  rcases hx1 with e | ⟨xj, hxj, e⟩
  · subst e
    refine ⟨t1, ?_, ⟨u, w, K1.1⟩, K1.2.1, fun j hj => ?_, K1.2.2.2⟩
    · unfold cf_250_45 cf_250_69
      rw [if_pos rfl]
    · have q := K1.2.2.1 j hj
      rw [if_pos hj] at q
      rw [hS' j hj, hsh' j hj, if_neg (by
        intro q
        have : (Int32.ofNat j = -Int32.ofNat 1) = False := ev_n5 (by omega)
        rw [← this]
        exact q.symm), ← hS1 j hj]
      exact q
  · subst e
    have H4 := K1.2.2.2
    have e52 := (H4.kB50 (q := 52) (by omega) (by omega)).1
    have e43 := (H4.kB50 (q := 43) (by omega) (by omega)).1
    have h8' : kI t1 49 8 = Int32.ofNat 1 := by rw [H4.1.1 49 8 (fun q => q)]; exact h8
    have e167 : cf_167 N X (Int32.ofNat 1) t1 = some (t1, .inl (some (.long ((kB tb 52).2 0)))) := by
      have l52' : ¬ (kB t1 52).1 ≤ 0 := by rw [e52]; omega
      have sb : Int32.ofNat 1 - Int32.ofNat 1 = Int32.ofNat 0 := rfl
      rw [← e52]
      unfold cf_167 cf_167_0 cf_167_4 cf_167_12 cf_167_31
      simp (disch := omega) only [ev_S, ev_C, ↓reduceIte, Nat.reduceEqDiff, Nat.reduceLeDiff, Nat.reduceAdd, Nat.reduceMul, Nat.reduceSub, reduceCtorEq, l32_0, l32_1, l32_2, l32_3, l32_4, l32_5, l32_6, l32_7, l32_8, l32_9, l32_10, l32_11, l32_12, l32_13, l32_14, l32_15, l32_16, l32_17, l32_18, l32_19, l32_20, l32_21, l32_22, l32_23, l32_24, l32_25, l32_26, l32_27, l32_28, l32_29, l32_33, l32_40, l32_41, l32_44, l32_45, l32_59, l32_61, l32_91, l32_93, l32_123, l32_125, h8', sb, l52']
    have hP1 : kP t1 0 7 = some σ0 := by rw [H4.1.2.2.1]; exact hI.2.1
    have kh : kH t1 σ0 = true := K1.2.1.1
    have hv : cC (cel t1) u ((kB tb 52).2 0) (some x) := by
      unfold cel
      rw [e43]
      exact hx
    have K1' : KL σ0 S1 S1 u w tb xj t1 := ⟨K1.1, K1.2.1, fun j hj => by
      have q := K1.2.2.1 j hj
      rw [if_pos hj] at q
      rw [ite_self]
      exact q, K1.2.2.2⟩
    obtain ⟨t2, b1, b2, b3, b4, b5, b6⟩ := K1'.put (N := N) (X := X) hN hxj hv (fun y q => by cases q; exact wx) hB
    refine ⟨t2, ?_, ⟨u, w, b2⟩, b3, fun j hj => ?_, b6⟩
    · have nn : ¬ (Int32.ofNat xj = -1) := by
        have : (Int32.ofNat xj = -Int32.ofNat 1) = False := ev_n5 (by omega)
        intro q
        rw [← this]
        exact q
      unfold cf_250_45
      rw [if_neg nn]
      unfold cf_250_50 cf_140 cf_140_0 cf_140_5 cf_250_66 cf_250_69
      simp (disch := omega) only [ev_S, ev_C, ↓reduceIte, Nat.reduceEqDiff, Nat.reduceLeDiff, Nat.reduceAdd, Nat.reduceMul, Nat.reduceSub, reduceCtorEq, l32_0, l32_1, l32_2, l32_3, l32_4, l32_5, l32_6, l32_7, l32_8, l32_9, l32_10, l32_11, l32_12, l32_13, l32_14, l32_15, l32_16, l32_17, l32_18, l32_19, l32_20, l32_21, l32_22, l32_23, l32_24, l32_25, l32_26, l32_27, l32_28, l32_29, l32_33, l32_40, l32_41, l32_44, l32_45, l32_59, l32_61, l32_91, l32_93, l32_123, l32_125, hP1, e167, kh, b1]
    · rw [hS' j hj, hsh' j hj]
      by_cases c : j = xj
      · subst c
        rw [if_pos rfl]
        exact b4
      · rw [if_neg (fun q => c ((ofNat_inj (by omega) (by omega) q).symm))]
        have q := b5 j hj c
        rw [ite_self] at q
        rw [← hS1 j hj]
        exact q
end ENC
end
-- ### 98zzzc.pure.lean.txt
section
/-! ===== PURE: run (158): what run is asked; what it leaves alone ===== -/
/-- what a run leaves alone in the class -/
def rnF (σ : Nat) (t t' : cS) : Prop := (∀ k f, ¬ (k = 42 ∨ k = 45 ∨ k = 48 ∨ k = 49 ∨ k = 58 ∨ k = 3000000 + σ) → kI t' k f = kI t k f) ∧ (∀ k f, ¬ k = 49 → kP t' k f = kP t k f) ∧ (∀ k, ¬ (43 ≤ k ∧ k ≤ 60) → ¬ (2000000 + 20 * σ + 2 ≤ k ∧ k ≤ 2000000 + 20 * σ + 10) → k ≠ 111 → kA t' k = kA t k ∧ kB t' k = kB t k) ∧ kM t' = kM t ∧ kH t' = kH t ∧ kN t ≤ kN t' ∧ kN t' + (pot t + gS t σ) ≤ kN t + (pot t' + gS t' σ) ∧ kQ t' + (poq t + 2 * gS t σ) ≤ kQ t + (poq t' + 2 * gS t' σ) ∧ gS t σ ≤ gS t' σ
/-- and in the reference -/
def rnM (s s' : mS) : Prop := mfr (fun q => iRn q ∨ q = 68) (fun q => q = 89) aRn (fun _ => False) s s'
section RNF
variable {N : Nat} {X : Nat → Option zz_C} {t t1 t2 t' : cS} {s s1 s2 s' : mS} {σ p e : Nat} {E : Nat → Nat → Prop} {A : Nat → Prop} {code : List Ins} {Fs : List Fn} {a1 a2 a3 : Int32}
theorem rnF.tr (h : rnF σ t t1) (g : rnF σ t1 t2) : rnF σ t t2 := by
  obtain ⟨h1, h2, h3, h4, h5, h6, h7, h8, h9⟩ := h
  obtain ⟨g1, g2, g3, g4, g5, g6, g7, g8, g9⟩ := g
  exact ⟨fun k f r => (g1 k f r).trans (h1 k f r), fun k f r => (g2 k f r).trans (h2 k f r), fun k r1 r2 r3 => ⟨(g3 k r1 r2 r3).1.trans (h3 k r1 r2 r3).1, (g3 k r1 r2 r3).2.trans (h3 k r1 r2 r3).2⟩, g4.trans h4, g5.trans h5, by omega, by omega, by omega, by omega⟩
theorem gf.gS (g : gf E A t t') (hA : ∀ k, A k → k < 2000000) : gS t' σ = gS t σ := by
  unfold Jvm.Pilot.CTallySlateLaw_law_r9425_93dbe7.gS
  refine sm_congr (fun i _ h2 => ?_)
  show (kA t' (2000000 + 20 * σ + 1 + 1 + i)).1 = (kA t (2000000 + 20 * σ + 1 + 1 + i)).1
  rw [(g.2.2.2.1 _ (fun q => by have := hA _ q; omega) (by omega)).1]
theorem gf.rnF (g : gf E A t t') (hE : ∀ k f, E k f → k = 42 ∨ k = 45 ∨ k = 48 ∨ k = 49 ∨ k = 58 ∨ k = 3000000 + σ) (hA : ∀ k, A k → 43 ≤ k ∧ k ≤ 60) : rnF σ t t' := by
  have e := g.gS (σ := σ) (fun k q => by have := hA k q; omega)
  obtain ⟨g1, g2, g3, g4, g5, g6, g7, g8, g9⟩ := g
  exact ⟨fun k f r => g1 k f (fun q => r (hE k f q)), fun k f _ => by rw [g3], fun k r1 _ r3 => ⟨(g4 k (fun q => r1 (hA k q)) r3).1, (g4 k (fun q => r1 (hA k q)) r3).2.1⟩, g5, g6, g7, by rw [e]; omega, by rw [e]; omega, by rw [e]; exact Nat.le_refl _⟩
theorem shF.pot (g : shF σ t t') : pot t' = pot t ∧ poq t' = poq t := by
  have e := fun q h1 h2 => g.kB50 (q := q) h1 h2
  unfold Jvm.Pilot.CTallySlateLaw_law_r9425_93dbe7.pot Jvm.Pilot.CTallySlateLaw_law_r9425_93dbe7.poq
  rw [(e 43 (by omega) (by omega)).1, (e 44 (by omega) (by omega)).1, (e 46 (by omega) (by omega)).2, (e 52 (by omega) (by omega)).1, (e 55 (by omega) (by omega)).2, (e 56 (by omega) (by omega)).2, (e 57 (by omega) (by omega)).2]
  exact ⟨rfl, rfl⟩
theorem shF.rnF (g : shF σ t t') : rnF σ t t' := by
  obtain ⟨e1, e2⟩ := g.pot
  obtain ⟨⟨k1, k2, k3, k4, k5, k6, k7, k8⟩, r1, r2, r3⟩ := g
  exact ⟨fun k f _ => k1 k f (fun q => q), fun k f _ => by rw [k3], fun k _ r2 r3 => ⟨k4 k r2 r3, k5 k r2 r3⟩, k6, k7, k8, by rw [e1]; omega, by rw [e2]; omega, r3⟩
theorem rnF.rf : rnF σ t t := ⟨fun _ _ _ => rfl, fun _ _ _ => rfl, fun _ _ _ _ => ⟨rfl, rfl⟩, rfl, rfl, Nat.le_refl _, Nat.le_refl _, Nat.le_refl _, Nat.le_refl _⟩
theorem rnF_P {z : Option Nat} : rnF σ t (jP t 49 16 z) := ⟨fun _ _ _ => rfl, fun k f r => if_neg (fun q => r q.1), fun _ _ _ _ => ⟨rfl, rfl⟩, rfl, rfl, Nat.le_refl _, Nat.le_refl _, Nat.le_refl _, Nat.le_refl _⟩
theorem rnM.tr (h : rnM s s1) (g : rnM s1 s2) : rnM s s2 := mfr.tr h g
/-- the program stands -/
theorem PGI.rn (h : PGI t s p e) (f : rnF σ t t') (g : rnM s s') : PGI t' s' p e := by
  have hp : p = 12 ∨ p = 21 := by
    obtain ⟨code, Fs, h1, -⟩ := h
    exact h1.2.1
  obtain ⟨f1, f2, f3, -⟩ := f
  obtain ⟨g1, g2, g3, g4⟩ := g
  refine h.kp (f2 0 3 (by omega)) (fun f => f1 p f (by omega)) (fun j j1 j2 => f3 (p + j) (by omega) (by omega) (by omega)) (g1 12 (by unfold iRn; omega)) (g1 14 (by unfold iRn; omega)) (fun q y r1 _ _ => ?_) (fun q y r1 _ _ => ?_)
  · rw [g3 q (by unfold aRn; omega)]
  · rw [g3 q (by unfold aRn; omega)]
/-- what a function takes -/
theorem c_told0 {fi : Nat} (h2 : p = 12 ∨ p = 21) (hF : cFt t p Fs.length code Fs) (hf : fi < Fs.length) : cf_33 N X p (Int32.ofNat fi) (Int32.ofNat 0) t = some (t, .inl (some (.int (Int32.ofNat Fs[fi].2.2.1)))) := by
  obtain ⟨c1, c2, c3, c4, c5, c6, c7, c8, c9⟩ := hF
  obtain ⟨d1, d2, d3, d4, d5⟩ := c9 fi hf
  have hp2 : (p = 12 ∨ p = 21) = True := eq_true h2
  clear c9
  generalize Fs[fi] = g at *
  generalize Fs.length = L at *
  have E : cf_33 N X p (Int32.ofNat fi) (Int32.ofNat 0) t = cf_33_40 N X p (Int32.ofNat fi) t := by
    unfold cf_33 cf_33_0 cf_33_4
    simp (disch := omega) only [ev_S, ev_C, ↓reduceIte, Nat.reduceEqDiff, Nat.reduceLeDiff, Nat.reduceAdd, Nat.reduceMul, Nat.reduceSub, reduceCtorEq, l32_0, l32_1, l32_2, l32_3, l32_4, l32_5, l32_6, l32_7, l32_8, l32_9, l32_10, l32_11, l32_12, l32_13, l32_14, l32_15, l32_16, l32_17, l32_18, l32_19, l32_20, l32_21, l32_22, l32_23, l32_24, l32_25, l32_26, l32_27, l32_28, l32_29, l32_33, l32_40, l32_41, l32_44, l32_45, l32_59, l32_61, l32_91, l32_93, l32_123, l32_125, hp2, c1, hf]
    rfl
  rw [E]
  unfold cf_33_40
  simp (disch := omega) only [ev_S, ev_C, ↓reduceIte, Nat.reduceEqDiff, Nat.reduceLeDiff, Nat.reduceAdd, Nat.reduceMul, Nat.reduceSub, reduceCtorEq, l32_0, l32_1, l32_2, l32_3, l32_4, l32_5, l32_6, l32_7, l32_8, l32_9, l32_10, l32_11, l32_12, l32_13, l32_14, l32_15, l32_16, l32_17, l32_18, l32_19, l32_20, l32_21, l32_22, l32_23, l32_24, l32_25, l32_26, l32_27, l32_28, l32_29, l32_33, l32_40, l32_41, l32_44, l32_45, l32_59, l32_61, l32_91, l32_93, l32_123, l32_125, hp2, c6, d3]
theorem i32lt1 {a : Int32} (h0 : a < 0) (h1 : ¬ a = -1) : a < -1 := by
  rw [Int32.lt_iff_toInt_lt] at h0 ⊢
  have e0 : (0 : Int32).toInt = 0 := by decide
  have e1 : (-1 : Int32).toInt = -1 := by decide
  rw [e0] at h0
  rw [e1]
  have : ¬ a.toInt = -1 := fun q => h1 (Int32.toInt_inj.mp (by rw [q, e1]))
  omega
theorem run_args (hF : cFt t p Fs.length code Fs) (hP : kP t 0 3 = some p) (hp : p = 12 ∨ p = 21) (h12 : s.1 12 = Int32.ofNat e) (he : e ≤ 1) (h14 : s.1 14 = Int32.ofNat Fs.length) (hR : rFp s (1 - e) code Fs) (hO : ∀ f ∈ Fs, FOK code f) (h13 : s.1 13 = 0 → s.1 14 = 0) :
    (cf_6 N X a1 a2 a3 t = some (t, .inl (some (.int (-1)))) ∧ mf_68 N a1 a2 a3 s = some (s, some (.int (-1)))) ∨
    (∃ fi fu, ∃ hfi : fi < Fs.length, a1 = Int32.ofNat fi ∧ Fs[fi].2.2.1 = 0 ∧ a3 = Int32.ofNat fu ∧ 1 ≤ fu ∧ fu ≤ 20000 ∧ (a2 = -1 ∨ ∃ j, j < 8 ∧ a2 = Int32.ofNat j) ∧ cf_6 N X a1 a2 a3 t = cf_6_38 N X a1 a2 a3 t ∧ mf_68 N a1 a2 a3 s = mf_68_61 N a1 a2 a3 s) := by
  have hF' := hF
  obtain ⟨c1, c2, -⟩ := hF'
  have hp2 : (p = 12 ∨ p = 21) = True := eq_true hp
  have C1 : ∀ y : Int32, cf_33 N X p a1 (Int32.ofNat 0) t = some (t, .inl (some (.int y))) → cf_6 N X a1 a2 a3 t = cf_6_9 N X a1 a2 a3 y t := fun y hy => by
    have hy : cf_33 N X p a1 0 t = some (t, .inl (some (.int y))) := hy
    unfold cf_6 cf_6_0
    rw [hP]
    show (if p = 12 ∨ p = 21 then _ else none) = _
    rw [if_pos hp, hy]
    rfl
  have Cn : ∀ y : Int32, ¬ y = 0 → cf_33 N X p a1 (Int32.ofNat 0) t = some (t, .inl (some (.int y))) → cf_6 N X a1 a2 a3 t = some (t, .inl (some (.int (-1)))) := fun y hy h => by
    rw [C1 y h]
    unfold cf_6_9
    rw [if_pos hy]
    rfl
  by_cases b0 : a1 < 0
  · left
    refine ⟨Cn (-1) (by decide) ?_, ?_⟩
    · unfold cf_33 cf_33_0
      rw [if_pos b0]
      rfl
    · unfold mf_68 mf_68_0
      by_cases c : s.1 13 = 0
      · rw [if_pos c]; rfl
      · rw [if_neg c]
        unfold mf_68_7
        rw [if_pos b0]; rfl
  · obtain ⟨n, hn31, rfl⟩ := i32of b0
    by_cases nl : n < Fs.length
    · have h13' : ¬ s.1 13 = 0 := fun q => by
        have := h13 q
        rw [h14] at this
        have := ofNat_inj (b := 0) (by omega) (by omega) this
        omega
      have ht := c_told0 (N := N) (X := X) hp hF nl
      obtain ⟨r1, r2, r3, r4⟩ := hR n nl
      have hfo := (hO _ (List.getElem_mem nl)).2.2.2.2.2.2.1
      have eix : Int32.ofNat 12 * Int32.ofNat e + Int32.ofNat n = Int32.ofNat (12 * e + n) := by rw [i32mul, i32add]
      have efb : fb0 (1 - e) + n = 12 * e + n := by unfold fb0; omega
      rw [efb] at r2
      have M1 : mf_68 N (Int32.ofNat n) a2 a3 s = if ¬ Int32.ofNat Fs[n].2.2.1 = 0 then mf_68_59 N s else mf_68_36 N (Int32.ofNat n) a2 a3 s := by
        have nl' : ¬ Fs.length ≤ n := by omega
        unfold mf_68 mf_68_0
        rw [if_neg h13']
        unfold mf_68_7
        rw [if_neg b0]
        unfold mf_68_11
        rw [h14, if_neg (fun q => nl' ((i32le (by omega) (by omega)).mp q))]
        unfold mf_68_19
        rw [h12, show (12 : Int32) * Int32.ofNat e + Int32.ofNat n = Int32.ofNat (12 * e + n) from eix, if_pos (gd rfl (by omega) (by decide)), i32c (by omega), r2]
      by_cases pz : Fs[n].2.2.1 = 0
      · rw [pz] at ht M1
        rw [if_neg (fun q => q rfl)] at M1
        have C2 : cf_6 N X (Int32.ofNat n) a2 a3 t = cf_6_12 N X (Int32.ofNat n) a2 a3 t := by
          rw [C1 _ ht]
          unfold cf_6_9
          rw [if_neg (fun q => q rfl)]
        rw [C2, M1]
        -- the shelf
        have sh : (cf_6_12 N X (Int32.ofNat n) a2 a3 t = some (t, .inl (some (.int (-1)))) ∧ mf_68_36 N (Int32.ofNat n) a2 a3 s = some (s, some (.int (-1)))) ∨ ((a2 = -1 ∨ ∃ j, j < 8 ∧ a2 = Int32.ofNat j) ∧ cf_6_12 N X (Int32.ofNat n) a2 a3 t = cf_6_24 N X (Int32.ofNat n) a2 a3 t ∧ mf_68_36 N (Int32.ofNat n) a2 a3 s = mf_68_47 N (Int32.ofNat n) a2 a3 s) := by
          by_cases m1 : a2 = -1
          · right
            refine ⟨Or.inl m1, ?_, ?_⟩
            · unfold cf_6_12
              rw [if_pos m1]
            · rw [m1]
              unfold mf_68_36 mf_68_41
              rw [if_neg (by decide), if_neg (by decide)]
          · by_cases s0 : a2 < 0
            · left
              have h21 := c_noSh (N := N) (X := X) (t := t) s0
              refine ⟨?_, ?_⟩
              · unfold cf_6_12
                rw [if_neg m1]
                unfold cf_6_17
                rw [h21]
                rfl
              · unfold mf_68_36
                rw [if_pos (i32lt1 s0 m1)]
                rfl
            · obtain ⟨j, hj31, rfl⟩ := i32of s0
              have nn : ¬ Int32.ofNat j < -1 := fun q => by
                have : (Int32.ofNat j < -Int32.ofNat 1) = False := ev_n3 hj31
                rw [← this]
                exact q
              by_cases j8 : j < 8
              · right
                have h21 := c_isSh (N := N) (X := X) (t := t) j8
                refine ⟨Or.inr ⟨j, j8, rfl⟩, ?_, ?_⟩
                · unfold cf_6_12
                  rw [if_neg m1]
                  unfold cf_6_17
                  rw [h21]
                  rfl
                · unfold mf_68_36 mf_68_41
                  rw [if_neg nn, if_neg (fun q => by have := (i32lt (a := 7) (by omega) (by omega)).mp q; omega)]
              · left
                have h21 : cf_21 N X (Int32.ofNat j) t = some (t, .inl (some (.int (Int32.ofNat 0)))) := by
                  have j8' : 8 ≤ j := by omega
                  unfold cf_21 cf_21_0 cf_21_4 cf_21_14 cf_21_15
                  simp (disch := omega) only [ev_S, ev_C, ↓reduceIte, Nat.reduceEqDiff, Nat.reduceLeDiff, Nat.reduceAdd, Nat.reduceMul, Nat.reduceSub, reduceCtorEq, l32_0, l32_1, l32_2, l32_3, l32_4, l32_5, l32_6, l32_7, l32_8, l32_9, l32_10, l32_11, l32_12, l32_13, l32_14, l32_15, l32_16, l32_17, l32_18, l32_19, l32_20, l32_21, l32_22, l32_23, l32_24, l32_25, l32_26, l32_27, l32_28, l32_29, l32_33, l32_40, l32_41, l32_44, l32_45, l32_59, l32_61, l32_91, l32_93, l32_123, l32_125, j8']
                refine ⟨?_, ?_⟩
                · unfold cf_6_12
                  rw [if_neg m1]
                  unfold cf_6_17
                  rw [h21]
                  rfl
                · unfold mf_68_36 mf_68_41
                  rw [if_neg nn, if_pos (show (7 : Int32) < Int32.ofNat j from (i32lt (a := 7) (by omega) (by omega)).mpr (by omega))]
                  rfl
        rcases sh with ⟨q1, q2⟩ | ⟨q0, q1, q2⟩
        · exact Or.inl ⟨q1, q2⟩
        · rw [q1, q2]
          by_cases f1 : a3 < 1
          · left
            unfold cf_6_24 mf_68_47
            rw [if_pos f1, if_pos f1]
            exact ⟨rfl, rfl⟩
          · by_cases f2 : a3 ≤ 20000
            · right
              have f0 : ¬ a3 < 0 := fun q => f1 (Int32.lt_of_lt_of_le q (by decide))
              obtain ⟨fu, hfu, rfl⟩ := i32of f0
              refine ⟨n, fu, nl, rfl, pz, rfl, ?_, (i32le (b := 20000) (by omega) (by omega)).mp f2, q0, ?_, ?_⟩
              · refine Nat.not_lt.mp (fun q => f1 ?_)
                exact (i32lt (b := 1) (by omega) (by omega)).mpr q
              · unfold cf_6_24 cf_6_29
                rw [if_neg f1, if_pos f2]
              · unfold mf_68_47 mf_68_52
                rw [if_neg f1, if_pos f2]
            · left
              unfold cf_6_24 mf_68_47
              rw [if_neg f1, if_neg f1]
              unfold cf_6_29 mf_68_52
              rw [if_neg f2, if_neg f2]
              exact ⟨rfl, rfl⟩
      · left
        have hnz : ¬ Int32.ofNat Fs[n].2.2.1 = 0 := fun q => pz (ofNat_inj (b := 0) (by omega) (by omega) q)
        refine ⟨Cn _ hnz ht, ?_⟩
        rw [M1, if_pos hnz]
        rfl
    · left
      refine ⟨Cn (-1) (by decide) ?_, ?_⟩
      · have nl' : ¬ n < Fs.length := nl
        unfold cf_33 cf_33_0
        rw [if_neg b0]
        unfold cf_33_4
        rw [if_pos hp, c1, if_neg (fun q => nl ((i32lt (by omega) (by omega)).mp q))]
        rfl
      · unfold mf_68 mf_68_0
        by_cases c : s.1 13 = 0
        · rw [if_pos c]; rfl
        · rw [if_neg c]
          unfold mf_68_7
          rw [if_neg b0]
          unfold mf_68_11
          rw [h14, if_pos ((i32le (by omega) (by omega)).mpr (by omega))]
          rfl
end RNF
end
