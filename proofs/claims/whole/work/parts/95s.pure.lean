/-! ===== PURE: run (20): index ===== -/
section IDX
variable {N : Nat} {X : Nat → Option zz_C} {s s' : mS} {t t' : cS} {n f f' m u w : Nat} {x y : Nod} {xs : List Nod} {vx vy : Int64}
theorem all_take {r : List Int32} {p : Int32 → Bool} {i : Nat} (hi : i < r.length) : (r.take (i + 1)).all p = ((r.take i).all p && p r[i]) := by
  rw [List.take_succ_eq_append_getElem hi, List.all_append, List.all_cons, List.all_nil, Bool.and_true]
theorem all_f {α : Type} {r : List α} {p : α → Bool} {i : Nat} (hi : i < r.length) (h : p r[i] = false) : r.all p = false := by
  cases hA : r.all p with
  | false => rfl
  | true =>
    rw [List.all_eq_true] at hA
    rw [hA _ (List.getElem_mem hi)] at h
    cases h
theorem r_row {h : Nat → Int32} {R : Nat → Prop} {a i : Nat} (H : LayN h R a y) (h1 : kn y = 1) (hi : i < (rvN y).length) : h (a + 2 + i) = (rvN y)[i] := by
  have z := (LayN_iff.mp H).2
  rw [kn1 h1] at z
  exact z.2.2 i hi
theorem r_idx (hN : 170000 ≤ N) (H : rA s n f m [x, y]) : ∃ s', mf_325 N s = some (s', none) ∧ rE s s' n f m (ansI x y) := by
  have H' := H
  obtain ⟨⟨h51, hv⟩, H2, H3, H4, H5, H6, H7, H8, H9, H10⟩ := H'
  have h51 : s.1 51 = Int32.ofNat (n + 2) := h51
  have hx : rvl (s.2.2.1 47) f (s.2.2.1 49 n) (s.2.2.1 50 n) x := hv 0 (by show 0 < 2; omega)
  have hy : rvl (s.2.2.1 47) f (s.2.2.1 49 (n + 1)) (s.2.2.1 50 (n + 1)) y := hv 1 (by show 1 < 2; omega)
  have kx := r_kindAt (N := N) hx (by omega) (by omega)
  have ky := r_kindAt (N := N) hy (by omega) (by omega)
  rw [kd_kn] at kx ky
  have e21 : n + 2 - 1 = n + 1 := rfl
  have lx := kn_le (x := x)
  have ly := kn_le (x := y)
  have wx : wfN x := H9 x List.mem_cons_self
  have dx : x.1 ≤ 4 := H10 x List.mem_cons_self
  have wy : wfN y := H9 y (List.mem_cons_of_mem _ List.mem_cons_self)
  have s64 := wf64 wx
  have G0 : rG s (mI s 51 (Int32.ofNat n)) n f f [] := rG.nil H2
  obtain ⟨s1, hs1⟩ : ∃ s1, s1 = mI s 51 (Int32.ofNat n) := ⟨_, rfl⟩
  rw [← hs1] at G0
  have T := fun k => rG.trb (N := N) H G0 (by omega) k
  have hs47 : s1.2.2.1 = s.2.2.1 := by rw [hs1]; rfl
  unfold ansI
  by_cases c1 : kn x = 0 ∨ 1 < kn y
  · rw [if_pos c1]
    obtain ⟨b1, b2⟩ := T 3
    refine ⟨_, ?_, b2⟩
    rw [hs1] at b1
    rw [hs1]
    have b1 : mf_301 N (Int32.ofNat 3) (s.1 70) (mI s 51 (Int32.ofNat n)) = some (trb (mI s 51 (Int32.ofNat n)) (Int32.ofNat 3) (s.1 70), none) := b1
    generalize kn x = kx' at *
    generalize kn y = ky' at *
    rcases Nat.eq_zero_or_pos kx' with c2 | c2
    · repeat ((first | unfold mf_325 | unfold mf_325_0 | unfold mf_325_10 | unfold mf_325_21 | unfold mf_325_59 | unfold mf_325_64 | unfold mf_325_73 | unfold mf_325_74 | unfold mf_325_78 | unfold mf_325_82 | unfold mf_325_88 | unfold mf_325_93 | unfold mf_325_100 | unfold mf_325_104 | unfold mf_325_109 | unfold mf_325_121 | unfold mf_325_128 | unfold mf_325_136 | unfold mf_325_139 | unfold mf_325_148 | unfold mf_325_149 | unfold mf_325_155 | unfold mf_325_159 | unfold mf_325_167 | unfold mf_325_176 | unfold mf_325_177 | unfold mf_325_192 | unfold mf_325_193 | unfold mf_325_196 | unfold mf_325_203 | unfold mf_325_221 | unfold mf_325_227 | unfold mf_325_233); try simp (disch := omega) only [ev_S, ev_P, ↓reduceIte, Nat.reduceEqDiff, Nat.reduceLeDiff, Nat.reduceAdd, Nat.reduceMul, Nat.reduceSub, reduceCtorEq, l32_0, l32_1, l32_2, l32_3, l32_4, l32_5, l32_47, l32_49, l32_50, l32_51, l32_9000, l32_166300, h51, e21, kx, ky, c2, b1])
    · have c3 : 1 < ky' := by omega
      have c2' : ¬ kx' = 0 := by omega
      have c3' : ¬ ky' ≤ 1 := by omega
      repeat ((first | unfold mf_325 | unfold mf_325_0 | unfold mf_325_10 | unfold mf_325_21 | unfold mf_325_59 | unfold mf_325_64 | unfold mf_325_73 | unfold mf_325_74 | unfold mf_325_78 | unfold mf_325_82 | unfold mf_325_88 | unfold mf_325_93 | unfold mf_325_100 | unfold mf_325_104 | unfold mf_325_109 | unfold mf_325_121 | unfold mf_325_128 | unfold mf_325_136 | unfold mf_325_139 | unfold mf_325_148 | unfold mf_325_149 | unfold mf_325_155 | unfold mf_325_159 | unfold mf_325_167 | unfold mf_325_176 | unfold mf_325_177 | unfold mf_325_192 | unfold mf_325_193 | unfold mf_325_196 | unfold mf_325_203 | unfold mf_325_221 | unfold mf_325_227 | unfold mf_325_233); try simp (disch := omega) only [ev_S, ev_P, ↓reduceIte, Nat.reduceEqDiff, Nat.reduceLeDiff, Nat.reduceAdd, Nat.reduceMul, Nat.reduceSub, reduceCtorEq, l32_0, l32_1, l32_2, l32_3, l32_4, l32_5, l32_47, l32_49, l32_50, l32_51, l32_9000, l32_166300, h51, e21, kx, ky, c2', c3', b1])
  · rw [if_neg c1]
    have c2 : ¬ kn x = 0 := fun z => c1 (Or.inl z)
    have c3 : kn y ≤ 1 := by omega
    rcases rvl.kz hx with ⟨-, z⟩ | ⟨k1, -, a, k3, k4⟩
    · exact absurd z c2
    have k4' : LayN (s1.2.2.1 47) (Rf f) a x := by rw [hs47]; exact k4
    have hsz := r_size (N := N) (s := s1) (LayN_iff.mp k4').2 (Nat.le_trans (LayN.lt k4').1 (by omega))
    have hsz : mf_77 N (Int32.ofNat a) s1 = some (s1, some (.int (Int32.ofNat (szN x)))) := hsz
    have hpl : (pts x).length = szN x := pts_len
    by_cases c4 : kn y = 0
    · rw [if_pos c4]
      have y50 : s.2.2.1 50 (n + 1) = ivN y := by
        rcases hy with ⟨-, q⟩ | ⟨-, q, -⟩
        · rw [kn0 c4] at q
          exact (Option.some.inj q).symm
        · rw [kn0 c4] at q
          cases q
      have E1 : mf_325 N s = mf_325_L14 N N 0 (Int32.ofNat (kn x)) (Int32.ofNat 0) (Int32.ofNat n) (Int32.ofNat a) (ivN y) (Int32.ofNat 1) (Int32.ofNat 0) s1 := by
        rw [hs1]
        rw [c4] at ky
        generalize kn x = kx' at *
        unfold mf_325 mf_325_0 mf_325_10 mf_325_21 mf_325_59 mf_325_74 mf_325_78 mf_325_88
        simp (disch := omega) only [ev_S, ev_P, ↓reduceIte, Nat.reduceEqDiff, Nat.reduceLeDiff, Nat.reduceAdd, Nat.reduceMul, Nat.reduceSub, reduceCtorEq, l32_0, l32_1, l32_2, l32_3, l32_4, l32_5, l32_6, l32_7, l32_8, l32_9, l32_10, l32_11, l32_12, l32_13, l32_14, l32_15, l32_16, l32_17, l32_18, l32_19, l32_20, l32_21, l32_22, l32_23, l32_24, l32_25, l32_26, l32_27, l32_28, l32_29, l32_33, l32_40, l32_41, l32_44, l32_45, l32_59, l32_61, l32_91, l32_93, l32_123, l32_125, h51, e21, kx, ky, c2, k3, y50]
      rw [E1]
      obtain ⟨N2, hN2⟩ : ∃ N2, N = N2 + 1 + 1 := ⟨N - 2, by omega⟩
      have st : ∀ F, mf_325_L14 N (F + 1) 0 (Int32.ofNat (kn x)) (Int32.ofNat 0) (Int32.ofNat n) (Int32.ofNat a) (ivN y) (Int32.ofNat 1) (Int32.ofNat 0) s1 = mf_325_121 N (mf_325_L14 N F) (Int32.ofNat (kn x)) (Int32.ofNat 0) (Int32.ofNat n) (Int32.ofNat a) (ivN y) (Int32.ofNat 1) (Int32.ofNat 0) (ivN y) s1 := fun F => by
        show mf_325_93 N (mf_325_L14 N F) (Int32.ofNat (kn x)) (Int32.ofNat 0) (Int32.ofNat n) (Int32.ofNat a) (ivN y) (Int32.ofNat 1) (Int32.ofNat 0) s1 = _
        unfold mf_325_93 mf_325_100 mf_325_104
        simp (disch := omega) only [ev_S, ev_P, ↓reduceIte, Nat.reduceEqDiff, Nat.reduceLeDiff, Nat.reduceAdd, Nat.reduceMul, Nat.reduceSub, reduceCtorEq, l32_0, l32_1, l32_2, l32_3, l32_4, l32_5, l32_6, l32_7, l32_8, l32_9, l32_10, l32_11, l32_12, l32_13, l32_14, l32_15, l32_16, l32_17, l32_18, l32_19, l32_20, l32_21, l32_22, l32_23, l32_24, l32_25, l32_26, l32_27, l32_28, l32_29, l32_33, l32_40, l32_41, l32_44, l32_45, l32_59, l32_61, l32_91, l32_93, l32_123, l32_125]
      have st' := st (N2 + 1)
      rw [← hN2] at st'
      rw [st']
      by_cases z0 : ivN y < 0
      · rw [inr_n z0]
        obtain ⟨b1, b2⟩ := T 5
        refine ⟨_, ?_, b2⟩
        unfold mf_325_121
        rw [if_pos z0]
        unfold mf_325_139 mf_325_148
        show mo_bv (mf_301 N (Int32.ofNat 5) (s1.1 70) s1) _ = _
        rw [b1]
        rfl
      · obtain ⟨p, hp, ep⟩ := i32nn z0
        rw [ep, inr_o hp]
        by_cases zp : p < szN x
        · rw [decide_eq_true zp, if_pos rfl, pkd_o (by omega) hp]
          obtain ⟨s2, d1, d2⟩ := rG.elem (N := N) (i := p) G0 (by show n + 0 < 9000; omega) (by omega) k4 (by omega)
          have d2 : rG s s2 n f f [(pts x)[p]'(by omega)] := d2
          have E2 : mf_325_121 N (mf_325_L14 N (N2 + 1)) (Int32.ofNat (kn x)) (Int32.ofNat 0) (Int32.ofNat n) (Int32.ofNat a) (Int32.ofNat p) (Int32.ofNat 1) (Int32.ofNat 0) (Int32.ofNat p) s1 = mf_325_167 N (Int32.ofNat n) s2 := by
            have st2 : mf_325_L14 N (N2 + 1) 0 (Int32.ofNat (kn x)) (Int32.ofNat 0) (Int32.ofNat n) (Int32.ofNat a) (Int32.ofNat p) (Int32.ofNat 1) (Int32.ofNat 1) s1 = mf_325_167 N (Int32.ofNat n) s2 := by
              show mf_325_93 N (mf_325_L14 N N2) (Int32.ofNat (kn x)) (Int32.ofNat 0) (Int32.ofNat n) (Int32.ofNat a) (Int32.ofNat p) (Int32.ofNat 1) (Int32.ofNat 1) s1 = _
              unfold mf_325_93 mf_325_155 mf_325_159
              simp (disch := omega) only [ev_S, ev_P, ↓reduceIte, Nat.reduceEqDiff, Nat.reduceLeDiff, Nat.reduceAdd, Nat.reduceMul, Nat.reduceSub, reduceCtorEq, l32_0, l32_1, l32_2, l32_3, l32_4, l32_5, l32_6, l32_7, l32_8, l32_9, l32_10, l32_11, l32_12, l32_13, l32_14, l32_15, l32_16, l32_17, l32_18, l32_19, l32_20, l32_21, l32_22, l32_23, l32_24, l32_25, l32_26, l32_27, l32_28, l32_29, l32_33, l32_40, l32_41, l32_44, l32_45, l32_59, l32_61, l32_91, l32_93, l32_123, l32_125, d1]
            clear st' st
            unfold mf_325_121 mf_325_128 mf_325_136 mf_325_149
            simp (disch := omega) only [ev_S, ev_P, ↓reduceIte, Nat.reduceEqDiff, Nat.reduceLeDiff, Nat.reduceAdd, Nat.reduceMul, Nat.reduceSub, reduceCtorEq, l32_0, l32_1, l32_2, l32_3, l32_4, l32_5, l32_6, l32_7, l32_8, l32_9, l32_10, l32_11, l32_12, l32_13, l32_14, l32_15, l32_16, l32_17, l32_18, l32_19, l32_20, l32_21, l32_22, l32_23, l32_24, l32_25, l32_26, l32_27, l32_28, l32_29, l32_33, l32_40, l32_41, l32_44, l32_45, l32_59, l32_61, l32_91, l32_93, l32_123, l32_125, hsz, zp, st2]
          rw [E2]
          have hv2 := d2.2.1 0 (Nat.lt_succ_self 0)
          have hv2 : rvl (s2.2.2.1 47) f (s2.2.2.1 49 n) (s2.2.2.1 50 n) ((pts x)[p]'(by omega)) := hv2
          rcases rvl.kz hv2 with ⟨q1, q2⟩ | ⟨q1, q2, -⟩
          · refine ⟨s2, ?_, rG.int H d2 q2⟩
            unfold mf_325_167 mf_325_176
            simp (disch := omega) only [ev_S, ev_P, ↓reduceIte, Nat.reduceEqDiff, Nat.reduceLeDiff, Nat.reduceAdd, Nat.reduceMul, Nat.reduceSub, reduceCtorEq, l32_0, l32_1, l32_2, l32_3, l32_4, l32_5, l32_6, l32_7, l32_8, l32_9, l32_10, l32_11, l32_12, l32_13, l32_14, l32_15, l32_16, l32_17, l32_18, l32_19, l32_20, l32_21, l32_22, l32_23, l32_24, l32_25, l32_26, l32_27, l32_28, l32_29, l32_33, l32_40, l32_41, l32_44, l32_45, l32_59, l32_61, l32_91, l32_93, l32_123, l32_125, q1]
          · obtain ⟨s3, b1, b2⟩ := rG.give (N := N) hN H d2 q2 (wf_pts wx _ (List.getElem_mem _))
            refine ⟨s3, ?_, b2⟩
            unfold mf_325_167 mf_325_177 mf_325_192
            simp (disch := omega) only [ev_S, ev_P, ↓reduceIte, Nat.reduceEqDiff, Nat.reduceLeDiff, Nat.reduceAdd, Nat.reduceMul, Nat.reduceSub, reduceCtorEq, l32_0, l32_1, l32_2, l32_3, l32_4, l32_5, l32_6, l32_7, l32_8, l32_9, l32_10, l32_11, l32_12, l32_13, l32_14, l32_15, l32_16, l32_17, l32_18, l32_19, l32_20, l32_21, l32_22, l32_23, l32_24, l32_25, l32_26, l32_27, l32_28, l32_29, l32_33, l32_40, l32_41, l32_44, l32_45, l32_59, l32_61, l32_91, l32_93, l32_123, l32_125, q1, b1]
        · rw [decide_eq_false zp]
          obtain ⟨b1, b2⟩ := T 5
          refine ⟨_, ?_, b2⟩
          generalize szN x = sz at *
          unfold mf_325_121 mf_325_128 mf_325_136 mf_325_139 mf_325_148
          simp (disch := omega) only [ev_S, ev_P, ↓reduceIte, Nat.reduceEqDiff, Nat.reduceLeDiff, Nat.reduceAdd, Nat.reduceMul, Nat.reduceSub, reduceCtorEq, l32_0, l32_1, l32_2, l32_3, l32_4, l32_5, l32_6, l32_7, l32_8, l32_9, l32_10, l32_11, l32_12, l32_13, l32_14, l32_15, l32_16, l32_17, l32_18, l32_19, l32_20, l32_21, l32_22, l32_23, l32_24, l32_25, l32_26, l32_27, l32_28, l32_29, l32_33, l32_40, l32_41, l32_44, l32_45, l32_59, l32_61, l32_91, l32_93, l32_123, l32_125, hsz, zp, b1]
    · rw [if_neg c4]
      have c5 : kn y = 1 := by omega
      rcases rvl.kz hy with ⟨-, z⟩ | ⟨j1, -, e, j3, j4⟩
      · exact absurd z c4
      have j4' : LayN (s1.2.2.1 47) (Rf f) e y := by rw [hs47]; exact j4
      have hlt := (LayN.lt j4).1
      rw [show wV wn (vw y) = 2 + (rvN y).length by rw [kn1 c5]; rfl] at hlt
      have hsy := r_size (N := N) (s := s1) (LayN_iff.mp j4').2 (Nat.le_trans (LayN.lt j4').1 (by omega))
      have hsy : mf_77 N (Int32.ofNat e) s1 = some (s1, some (.int (Int32.ofNat (szN y)))) := hsy
      rw [kn1_sz c5] at hsy
      have hr64 : (rvN y).length ≤ 64 := by rw [← kn1_sz c5]; exact wf64 wy
      have hrow : ∀ i (hi : i < (rvN y).length), s.2.2.1 47 (e + 2 + i) = (rvN y)[i] := fun i hi => r_row j4 c5 hi
      generalize rvN y = r at *
      have E1 : mf_325 N s = mf_325_L14 N N 0 (Int32.ofNat (kn x)) (Int32.ofNat 1) (Int32.ofNat n) (Int32.ofNat a) (Int32.ofNat e) (Int32.ofNat r.length) (Int32.ofNat 0) s1 := by
        rw [hs1] at hsy ⊢
        rw [c5] at ky
        generalize kn x = kx' at *
        unfold mf_325 mf_325_0 mf_325_10 mf_325_21 mf_325_59 mf_325_74 mf_325_82 mf_325_88
        simp (disch := omega) only [ev_S, ev_P, ↓reduceIte, Nat.reduceEqDiff, Nat.reduceLeDiff, Nat.reduceAdd, Nat.reduceMul, Nat.reduceSub, reduceCtorEq, l32_0, l32_1, l32_2, l32_3, l32_4, l32_5, l32_6, l32_7, l32_8, l32_9, l32_10, l32_11, l32_12, l32_13, l32_14, l32_15, l32_16, l32_17, l32_18, l32_19, l32_20, l32_21, l32_22, l32_23, l32_24, l32_25, l32_26, l32_27, l32_28, l32_29, l32_33, l32_40, l32_41, l32_44, l32_45, l32_59, l32_61, l32_91, l32_93, l32_123, l32_125, h51, e21, kx, ky, c2, k3, j3, hsy]
      have E2 : mf_325_L14 N N 0 (Int32.ofNat (kn x)) (Int32.ofNat 1) (Int32.ofNat n) (Int32.ofNat a) (Int32.ofNat e) (Int32.ofNat r.length) (Int32.ofNat 0) s1 = if r.all (inr (szN x)) = true then mf_325_155 N (Int32.ofNat (kn x)) (Int32.ofNat 1) (Int32.ofNat n) (Int32.ofNat a) (Int32.ofNat e) (Int32.ofNat r.length) s1 else mf_325_139 N s1 := by
        exact lp (fun F i (_ : Unit) => mf_325_L14 N F 0 (Int32.ofNat (kn x)) (Int32.ofNat 1) (Int32.ofNat n) (Int32.ofNat a) (Int32.ofNat e) (Int32.ofNat r.length) (Int32.ofNat i) s1) r.length (fun i _ => (r.take i).all (inr (szN x)) = true) (fun R => R = if r.all (inr (szN x)) = true then mf_325_155 N (Int32.ofNat (kn x)) (Int32.ofNat 1) (Int32.ofNat n) (Int32.ofNat a) (Int32.ofNat e) (Int32.ofNat r.length) s1 else mf_325_139 N s1) (by
          intro F i _ hi hP _
          have g1 : s1.2.2.1 47 (e + 2 + i) = r[i] := by rw [hs47]; exact hrow i hi
          have n1 : ¬ r.length ≤ i := by omega
          have st : mf_325_L14 N (F + 1) 0 (Int32.ofNat (kn x)) (Int32.ofNat 1) (Int32.ofNat n) (Int32.ofNat a) (Int32.ofNat e) (Int32.ofNat r.length) (Int32.ofNat i) s1 = mf_325_121 N (mf_325_L14 N F) (Int32.ofNat (kn x)) (Int32.ofNat 1) (Int32.ofNat n) (Int32.ofNat a) (Int32.ofNat e) (Int32.ofNat r.length) (Int32.ofNat i) r[i] s1 := by
            show mf_325_93 N (mf_325_L14 N F) (Int32.ofNat (kn x)) (Int32.ofNat 1) (Int32.ofNat n) (Int32.ofNat a) (Int32.ofNat e) (Int32.ofNat r.length) (Int32.ofNat i) s1 = _
            unfold mf_325_93 mf_325_100 mf_325_109
            simp (disch := omega) only [ev_S, ev_P, ↓reduceIte, Nat.reduceEqDiff, Nat.reduceLeDiff, Nat.reduceAdd, Nat.reduceMul, Nat.reduceSub, reduceCtorEq, l32_0, l32_1, l32_2, l32_3, l32_4, l32_5, l32_6, l32_7, l32_8, l32_9, l32_10, l32_11, l32_12, l32_13, l32_14, l32_15, l32_16, l32_17, l32_18, l32_19, l32_20, l32_21, l32_22, l32_23, l32_24, l32_25, l32_26, l32_27, l32_28, l32_29, l32_33, l32_40, l32_41, l32_44, l32_45, l32_59, l32_61, l32_91, l32_93, l32_123, l32_125, n1, g1]
          show (∃ a' : Unit, _ ∧ mf_325_L14 N (F + 1) 0 _ _ _ _ _ _ _ s1 = _) ∨ mf_325_L14 N (F + 1) 0 _ _ _ _ _ _ _ s1 = _
          rw [st]
          by_cases z0 : r[i] < 0
          · right
            rw [all_f hi (inr_n z0)]
            unfold mf_325_121
            rw [if_pos z0]
            rfl
          · obtain ⟨p, hp, ep⟩ := i32nn z0
            have ei : inr (szN x) r[i] = decide (p < szN x) := by rw [ep, inr_o hp]
            generalize szN x = sz at *
            by_cases zp : p < sz
            · left
              refine ⟨(), by rw [all_take hi, hP, ei, decide_eq_true zp]; rfl, ?_⟩
              rw [ep]
              unfold mf_325_121 mf_325_128 mf_325_136 mf_325_149
              simp (disch := omega) only [ev_S, ev_P, ↓reduceIte, Nat.reduceEqDiff, Nat.reduceLeDiff, Nat.reduceAdd, Nat.reduceMul, Nat.reduceSub, reduceCtorEq, l32_0, l32_1, l32_2, l32_3, l32_4, l32_5, l32_6, l32_7, l32_8, l32_9, l32_10, l32_11, l32_12, l32_13, l32_14, l32_15, l32_16, l32_17, l32_18, l32_19, l32_20, l32_21, l32_22, l32_23, l32_24, l32_25, l32_26, l32_27, l32_28, l32_29, l32_33, l32_40, l32_41, l32_44, l32_45, l32_59, l32_61, l32_91, l32_93, l32_123, l32_125, hsz, zp]
            · right
              rw [all_f hi (by rw [ei, decide_eq_false zp]), ep]
              unfold mf_325_121 mf_325_128 mf_325_136
              simp (disch := omega) only [ev_S, ev_P, ↓reduceIte, Nat.reduceEqDiff, Nat.reduceLeDiff, Nat.reduceAdd, Nat.reduceMul, Nat.reduceSub, reduceCtorEq, l32_0, l32_1, l32_2, l32_3, l32_4, l32_5, l32_6, l32_7, l32_8, l32_9, l32_10, l32_11, l32_12, l32_13, l32_14, l32_15, l32_16, l32_17, l32_18, l32_19, l32_20, l32_21, l32_22, l32_23, l32_24, l32_25, l32_26, l32_27, l32_28, l32_29, l32_33, l32_40, l32_41, l32_44, l32_45, l32_59, l32_61, l32_91, l32_93, l32_123, l32_125, hsz, zp]) (by
          intro F _ hP
          rw [List.take_length] at hP
          rw [if_pos hP]
          show mf_325_93 N (mf_325_L14 N F) (Int32.ofNat (kn x)) (Int32.ofNat 1) (Int32.ofNat n) (Int32.ofNat a) (Int32.ofNat e) (Int32.ofNat r.length) (Int32.ofNat r.length) s1 = _
          unfold mf_325_93
          simp (disch := omega) only [ev_S, ev_P, ↓reduceIte, Nat.reduceEqDiff, Nat.reduceLeDiff, Nat.reduceAdd, Nat.reduceMul, Nat.reduceSub, reduceCtorEq, l32_0, l32_1, l32_2, l32_3, l32_4, l32_5, l32_6, l32_7, l32_8, l32_9, l32_10, l32_11, l32_12, l32_13, l32_14, l32_15, l32_16, l32_17, l32_18, l32_19, l32_20, l32_21, l32_22, l32_23, l32_24, l32_25, l32_26, l32_27, l32_28, l32_29, l32_33, l32_40, l32_41, l32_44, l32_45, l32_59, l32_61, l32_91, l32_93, l32_123, l32_125]) r.length 0 N () (Nat.zero_add _) (by omega) rfl
      rw [E1, E2]
      cases hA : r.all (inr (szN x)) with
      | false =>
        obtain ⟨b1, b2⟩ := T 5
        refine ⟨_, ?_, b2⟩
        unfold mf_325_139 mf_325_148
        show mo_bv (mf_301 N (Int32.ofNat 5) (s1.1 70) s1) _ = _
        rw [b1]
        rfl
      | true =>
        rw [if_pos rfl, if_pos rfl]
        rw [List.all_eq_true] at hA
        have E3 : mf_325_155 N (Int32.ofNat (kn x)) (Int32.ofNat 1) (Int32.ofNat n) (Int32.ofNat a) (Int32.ofNat e) (Int32.ofNat r.length) s1 = mf_325_L4 N N 0 (Int32.ofNat (kn x)) (Int32.ofNat n) (Int32.ofNat a) (Int32.ofNat e) (Int32.ofNat r.length) (Int32.ofNat 0) s1 := by
          unfold mf_325_155 mf_325_193
          simp (disch := omega) only [ev_S, ev_P, ↓reduceIte, Nat.reduceEqDiff, Nat.reduceLeDiff, Nat.reduceAdd, Nat.reduceMul, Nat.reduceSub, reduceCtorEq, l32_0, l32_1, l32_2, l32_3, l32_4, l32_5, l32_6, l32_7, l32_8, l32_9, l32_10, l32_11, l32_12, l32_13, l32_14, l32_15, l32_16, l32_17, l32_18, l32_19, l32_20, l32_21, l32_22, l32_23, l32_24, l32_25, l32_26, l32_27, l32_28, l32_29, l32_33, l32_40, l32_41, l32_44, l32_45, l32_59, l32_61, l32_91, l32_93, l32_123, l32_125]
        rw [E3]
        refine lp (fun F i (s' : mS) => mf_325_L4 N F 0 (Int32.ofNat (kn x)) (Int32.ofNat n) (Int32.ofNat a) (Int32.ofNat e) (Int32.ofNat r.length) (Int32.ofNat i) s') r.length (fun i s' => rG s s' n f f ((r.take i).map (pkd x))) (fun R => ∃ s', R = some (s', none) ∧ rE s s' n f m (ansM (kn x) (r.map (pkd x)))) (by
          intro F i s' hi G _
          left
          have hll : ((r.take i).map (pkd x)).length = i := by rw [List.length_map, List.length_take]; omega
          have n1 : ¬ r.length ≤ i := by omega
          have g1 : s'.2.2.1 47 (e + 2 + i) = r[i] := by rw [G.2.2.1.2.2 _ (by omega)]; exact hrow i hi
          have hin := hA _ (List.getElem_mem hi)
          have hz0 : ¬ r[i] < 0 := fun z => by rw [inr_n z] at hin; cases hin
          obtain ⟨p, hp, ep⟩ := i32nn hz0
          rw [ep, inr_o hp, decide_eq_true_iff] at hin
          obtain ⟨s2, d1, d2⟩ := rG.elem (N := N) (i := p) G (by rw [hll]; omega) (by omega) k4 (by omega)
          refine ⟨s2, ?_, ?_⟩
          · rw [List.take_succ_eq_append_getElem hi, List.map_append, List.map_cons, List.map_nil, ep, pkd_o (by omega) hp]
            exact d2
          · show mf_325_196 N (mf_325_L4 N F) (Int32.ofNat (kn x)) (Int32.ofNat n) (Int32.ofNat a) (Int32.ofNat e) (Int32.ofNat r.length) (Int32.ofNat i) s' = _
            rw [ep] at g1
            unfold mf_325_196 mf_325_203 mf_325_221
            simp (disch := omega) only [ev_S, ev_P, ↓reduceIte, Nat.reduceEqDiff, Nat.reduceLeDiff, Nat.reduceAdd, Nat.reduceMul, Nat.reduceSub, reduceCtorEq, l32_0, l32_1, l32_2, l32_3, l32_4, l32_5, l32_6, l32_7, l32_8, l32_9, l32_10, l32_11, l32_12, l32_13, l32_14, l32_15, l32_16, l32_17, l32_18, l32_19, l32_20, l32_21, l32_22, l32_23, l32_24, l32_25, l32_26, l32_27, l32_28, l32_29, l32_33, l32_40, l32_41, l32_44, l32_45, l32_59, l32_61, l32_91, l32_93, l32_123, l32_125, n1, g1, d1]) (by
          intro F s' G
          rw [List.take_length] at G
          have hmem : ∀ y ∈ r.map (pkd x), y ∈ pts x := fun y hy => by
            obtain ⟨z, hz, rfl⟩ := List.mem_map.mp hy
            exact pkd_mem (hA z hz)
          obtain ⟨s2, b1, b2⟩ := rA.builds (N := N) (k := kn x) hN H G (pts_ok c2 hmem) (fun y hy => wf_pts wx y (hmem y hy)) (fun y hy => Nat.le_trans (pts_lv y (hmem y hy)) dx) (by omega) (by omega) (by rw [List.length_map]; omega) (by rw [List.length_map]; omega)
          refine ⟨s2, ?_, b2⟩
          show mf_325_196 N (mf_325_L4 N F) (Int32.ofNat (kn x)) (Int32.ofNat n) (Int32.ofNat a) (Int32.ofNat e) (Int32.ofNat r.length) (Int32.ofNat r.length) s' = _
          unfold mf_325_196 mf_325_227 mf_325_233
          simp (disch := omega) only [ev_S, ev_P, ↓reduceIte, Nat.reduceEqDiff, Nat.reduceLeDiff, Nat.reduceAdd, Nat.reduceMul, Nat.reduceSub, reduceCtorEq, l32_0, l32_1, l32_2, l32_3, l32_4, l32_5, l32_6, l32_7, l32_8, l32_9, l32_10, l32_11, l32_12, l32_13, l32_14, l32_15, l32_16, l32_17, l32_18, l32_19, l32_20, l32_21, l32_22, l32_23, l32_24, l32_25, l32_26, l32_27, l32_28, l32_29, l32_33, l32_40, l32_41, l32_44, l32_45, l32_59, l32_61, l32_91, l32_93, l32_123, l32_125, b1]) r.length 0 N s1 (Nat.zero_add _) (by omega) G0
end IDX
