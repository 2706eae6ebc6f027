/-! ===== PURE: run (77): a number in a row of a table (the reference) ===== -/
section PT2
variable {N : Nat} {s : mS} {n f m k : Nat} {x yi yj z : Nod} {kx vx tg : Int32}
/-- a table with one number changed -/
def setC (x : Nod) (i j : Nat) (v : Int32) : List Nod := setP x i (nR (((tvN x).getD i []).set j v))
theorem setC_grw {i : Nat} {r : Nod} : szN r ≤ ((setP x i r).map szN).sum ∧ 2 + szN r ≤ grw 2 (setP x i r) := by
  have h : grw 2 (setP x i r) = ((setP x i r).map fun x => 2 + szN x).sum := rfl
  rw [h]
  unfold setP
  rw [List.map_append, List.map_append, List.map_append, List.map_append, List.sum_append, List.sum_append, List.sum_append, List.sum_append]
  show _ ≤ _ + (szN r + 0) + _ ∧ _ ≤ _ + (2 + szN r + 0) + _
  omega
/-- how it ends -/
def rPc (N : Nat) (s s1 : mS) (n f m k : Nat) (tg : Int32) (x yi yj z : Nod) (R : mO) : Prop := if celT x yi yj z = 0 then (if ivN yj < 0 ∨ ¬ ivN yj < Int32.ofNat ((tvN x).getD (ivN yi).toNatClampNeg []).length then R = some (trb s1 (Int32.ofNat 5) (s.2.2.1 25 k), none) else rPt N s n f m tg (ansM 2 (setC x (ivN yi).toNatClampNeg (ivN yj).toNatClampNeg (ivN z))) R) else rPt N s n f m tg (.inl (celT x yi yj z)) R
theorem r_put2 (hN : 170000 ≤ N) (hk : k < 8000) (H : rA s n f m [yi, yj, z]) (hx : rvl (s.2.2.1 47) f kx vx x) (wx : wfN x) (dx : x.1 ≤ 4) (h308 : mf_308 N tg (mI s 51 (Int32.ofNat n)) = some (mI s 51 (Int32.ofNat n), some (.int kx))) (h309 : mf_309 N tg (mI s 51 (Int32.ofNat n)) = some (mI s 51 (Int32.ofNat n), some (.int vx))) : rPc N s (mI s 51 (Int32.ofNat n)) n f m k tg x yi yj z (mf_318_80 N (Int32.ofNat k) (Int32.ofNat 1) tg (Int32.ofNat (n + 2)) (Int32.ofNat n) (mI s 51 (Int32.ofNat n))) := by
  have H' := H
  obtain ⟨⟨h51, hv⟩, H2, H3, H4, H5, H6, H7, H8, H9, H10⟩ := H'
  have hi : rvl (s.2.2.1 47) f (s.2.2.1 49 n) (s.2.2.1 50 n) yi := hv 0 (by show 0 < 3; omega)
  have hj : rvl (s.2.2.1 47) f (s.2.2.1 49 (n + 1)) (s.2.2.1 50 (n + 1)) yj := hv 1 (by show 1 < 3; omega)
  have hz : rvl (s.2.2.1 47) f (s.2.2.1 49 (n + 2)) (s.2.2.1 50 (n + 2)) z := hv 2 (by show 2 < 3; omega)
  have lx := kn_le (x := x)
  have s64 := wf64 wx
  have G0 : rG s (mI s 51 (Int32.ofNat n)) n f f [] := rG.nil H2
  obtain ⟨s1, hs1⟩ : ∃ s1, s1 = mI s 51 (Int32.ofNat n) := ⟨_, rfl⟩
  rw [← hs1] at G0 h308 h309 ⊢
  have hs47 : s1.2.2.1 = s.2.2.1 := by rw [hs1]; rfl
  have h66 : s1.1 66 = Int32.ofNat 0 := by rw [hs1]; exact H3
  rw [← hs47] at hx hi hj hz
  have T := fun q => rG.trb (N := N) H G0 (by omega) q
  have F3 : ∀ {a' kk' : Int32}, rPt N s n f m tg (.inl 3) (mf_318_236 N (Int32.ofNat k) (Int32.ofNat 1) tg (Int32.ofNat (n + 2)) (Int32.ofNat n) a' kk' (Int32.ofNat 0) s1) := fun {a' kk'} => by
    obtain ⟨b1, b2⟩ := T 3
    refine Or.inl ⟨3, _, rfl, ?_, b2⟩
    unfold mf_318_236 mf_318_241 mf_318_250
    simp (disch := omega) only [ev_S, ev_P, ↓reduceIte, Nat.reduceEqDiff, Nat.reduceLeDiff, Nat.reduceAdd, Nat.reduceMul, Nat.reduceSub, reduceCtorEq, l32_0, l32_1, l32_2, l32_3, l32_4, l32_5, l32_6, l32_7, l32_8, l32_9, l32_10, l32_11, l32_12, l32_13, l32_14, l32_15, l32_16, l32_17, l32_18, l32_19, l32_20, l32_21, l32_22, l32_23, l32_24, l32_25, l32_26, l32_27, l32_28, l32_29, l32_33, l32_40, l32_41, l32_44, l32_45, l32_59, l32_61, l32_91, l32_93, l32_123, l32_125, b1]
  have F5 : rPt N s n f m tg (.inl 5) (mf_318_276 N s1) := by
    obtain ⟨b1, b2⟩ := T 5
    refine Or.inl ⟨5, _, rfl, ?_, b2⟩
    unfold mf_318_276 mf_318_285
    simp (disch := omega) only [ev_S, ev_P, ↓reduceIte, Nat.reduceEqDiff, Nat.reduceLeDiff, Nat.reduceAdd, Nat.reduceMul, Nat.reduceSub, reduceCtorEq, l32_0, l32_1, l32_2, l32_3, l32_4, l32_5, l32_6, l32_7, l32_8, l32_9, l32_10, l32_11, l32_12, l32_13, l32_14, l32_15, l32_16, l32_17, l32_18, l32_19, l32_20, l32_21, l32_22, l32_23, l32_24, l32_25, l32_26, l32_27, l32_28, l32_29, l32_33, l32_40, l32_41, l32_44, l32_45, l32_59, l32_61, l32_91, l32_93, l32_123, l32_125, b1]
  unfold rPc
  by_cases cc : kn x = 2 ∧ kn yi = 0 ∧ kn yj = 0 ∧ kn z = 0
  · obtain ⟨c1, c2, c3, c4⟩ := cc
    have hcT : celT x yi yj z = if ivN yi < 0 ∨ ¬ ivN yi < Int32.ofNat (szN x) then 5 else 0 := if_pos ⟨c1, c2, c3, c4⟩
    rw [hcT]
    clear hcT
    obtain ⟨e1, a, e2, La⟩ := hx.th (by omega)
    have hka := lay_kn La (by omega)
    rw [c1] at hka
    have hla := LayN.lt La
    rw [e1] at h308
    rw [e2] at h309
    have q1 := (hi.iv c2).1
    have q2 := (hj.iv c3).1
    have q3 := (hz.iv c4).1
    have e5 := (hi.iv c2).2
    have e6 := (hj.iv c3).2
    have e7 := (hz.iv c4).2
    have E : mf_318_80 N (Int32.ofNat k) (Int32.ofNat 1) tg (Int32.ofNat (n + 2)) (Int32.ofNat n) s1 = mf_318_251 N (Int32.ofNat k) (Int32.ofNat 1) tg (Int32.ofNat (n + 2)) (Int32.ofNat n) (Int32.ofNat a) (Int32.ofNat 2) s1 := by
      unfold mf_318_80 mf_318_85 mf_318_92 mf_318_99 mf_318_106 mf_318_113 mf_318_123 mf_318_128 mf_318_134 mf_318_139 mf_318_145 mf_318_157 mf_318_167 mf_318_172 mf_318_236
      simp (disch := omega) only [ev_S, ev_P, ↓reduceIte, Nat.reduceEqDiff, Nat.reduceLeDiff, Nat.reduceAdd, Nat.reduceMul, Nat.reduceSub, reduceCtorEq, l32_0, l32_1, l32_2, l32_3, l32_4, l32_5, l32_6, l32_7, l32_8, l32_9, l32_10, l32_11, l32_12, l32_13, l32_14, l32_15, l32_16, l32_17, l32_18, l32_19, l32_20, l32_21, l32_22, l32_23, l32_24, l32_25, l32_26, l32_27, l32_28, l32_29, l32_33, l32_40, l32_41, l32_44, l32_45, l32_59, l32_61, l32_91, l32_93, l32_123, l32_125, h308, h309, hka, l32_166300, q1, q2, q3]
    rw [E]
    have hsz : mf_77 N (Int32.ofNat a) s1 = some (s1, some (.int (Int32.ofNat (szN x)))) := r_size (N := N) (s := s1) (LayN_iff.mp La).2 (Nat.le_trans (LayN.lt La).1 (by omega))
    by_cases cn : ivN yi < 0
    · rw [if_pos (Or.inl cn), if_neg (by omega)]
      have E5 : mf_318_251 N (Int32.ofNat k) (Int32.ofNat 1) tg (Int32.ofNat (n + 2)) (Int32.ofNat n) (Int32.ofNat a) (Int32.ofNat 2) s1 = mf_318_276 N s1 := by
        have cn : (ivN yi < Int32.ofNat 0) = True := eq_true cn
        unfold mf_318_251
        simp (disch := omega) only [ev_S, ev_P, ↓reduceIte, Nat.reduceEqDiff, Nat.reduceLeDiff, Nat.reduceAdd, Nat.reduceMul, Nat.reduceSub, reduceCtorEq, l32_0, l32_1, l32_2, l32_3, l32_4, l32_5, l32_6, l32_7, l32_8, l32_9, l32_10, l32_11, l32_12, l32_13, l32_14, l32_15, l32_16, l32_17, l32_18, l32_19, l32_20, l32_21, l32_22, l32_23, l32_24, l32_25, l32_26, l32_27, l32_28, l32_29, l32_33, l32_40, l32_41, l32_44, l32_45, l32_59, l32_61, l32_91, l32_93, l32_123, l32_125, e5, cn]
      rw [E5]
      exact F5
    · obtain ⟨i, hi', e⟩ := i32nn cn
      rw [e] at cn e5 ⊢
      by_cases cl : i < szN x
      · have g2 : ¬ (Int32.ofNat i < 0 ∨ ¬ Int32.ofNat i < Int32.ofNat (szN x)) := by
          intro q
          rcases q with q | q
          · exact cn q
          · refine q ?_
            rw [ev_lt (by omega) (by omega)]
            exact cl
        rw [if_neg g2, if_pos rfl]
        have tni : (Int32.ofNat i).toNatClampNeg = i := clamp_of rfl (by omega)
        rw [tni]
        have htl : (tvN x).length = szN x := (kn2_sz c1).symm
        obtain ⟨b, p1, p2⟩ := rG.partT (N := N) (i := i) G0 (by rw [← hs47]; exact La) (by omega) c1 (by omega)
        have hgd : (tvN x).getD i [] = (tvN x)[i]'(by omega) := by rw [List.getD_eq_getElem?_getD, List.getElem?_eq_getElem (by omega)]; rfl
        have hr64 : ((tvN x)[i]'(by omega)).length ≤ 64 := (tv_wf c1 wx).2.2 _ (List.getElem_mem _)
        unfold setC
        rw [hgd]
        generalize hr : (tvN x)[i]'(by omega) = r at *
        have hsr : mf_77 N (Int32.ofNat b) s1 = some (s1, some (.int (Int32.ofNat r.length))) := rG.size (N := N) G0 p2 (by omega)
        have E2 : mf_318_251 N (Int32.ofNat k) (Int32.ofNat 1) tg (Int32.ofNat (n + 2)) (Int32.ofNat n) (Int32.ofNat a) (Int32.ofNat 2) s1 = mf_318_316 N (Int32.ofNat k) tg (Int32.ofNat n) (Int32.ofNat a) (Int32.ofNat 2) (Int32.ofNat i) (ivN z) (Int32.ofNat b) s1 := by
          clear hgd htl hr
          generalize szN x = sx at *
          unfold mf_318_251 mf_318_265 mf_318_273 mf_318_286 mf_318_308
          simp (disch := omega) only [ev_S, ev_P, ↓reduceIte, Nat.reduceEqDiff, Nat.reduceLeDiff, Nat.reduceAdd, Nat.reduceMul, Nat.reduceSub, reduceCtorEq, l32_0, l32_1, l32_2, l32_3, l32_4, l32_5, l32_6, l32_7, l32_8, l32_9, l32_10, l32_11, l32_12, l32_13, l32_14, l32_15, l32_16, l32_17, l32_18, l32_19, l32_20, l32_21, l32_22, l32_23, l32_24, l32_25, l32_26, l32_27, l32_28, l32_29, l32_33, l32_40, l32_41, l32_44, l32_45, l32_59, l32_61, l32_91, l32_93, l32_123, l32_125, e5, hsz, cl, p1, e7]
        rw [E2]
        have T5 : mf_318_345 N (Int32.ofNat k) s1 = some (trb s1 (Int32.ofNat 5) (s.2.2.1 25 k), none) := by
          have b1 : mf_301 N (Int32.ofNat 5) (s.2.2.1 25 k) s1 = some (trb s1 (Int32.ofNat 5) (s.2.2.1 25 k), none) := r_trb h66
          rw [← hs47] at b1 ⊢
          unfold mf_318_345 mf_318_356
          simp (disch := omega) only [ev_S, ev_P, ↓reduceIte, Nat.reduceEqDiff, Nat.reduceLeDiff, Nat.reduceAdd, Nat.reduceMul, Nat.reduceSub, reduceCtorEq, l32_0, l32_1, l32_2, l32_3, l32_4, l32_5, l32_6, l32_7, l32_8, l32_9, l32_10, l32_11, l32_12, l32_13, l32_14, l32_15, l32_16, l32_17, l32_18, l32_19, l32_20, l32_21, l32_22, l32_23, l32_24, l32_25, l32_26, l32_27, l32_28, l32_29, l32_33, l32_40, l32_41, l32_44, l32_45, l32_59, l32_61, l32_91, l32_93, l32_123, l32_125, b1, l32_8000]
        by_cases jn : ivN yj < 0
        · rw [if_pos (Or.inl jn)]
          have jn : (ivN yj < Int32.ofNat 0) = True := eq_true jn
          unfold mf_318_316
          simp (disch := omega) only [ev_S, ev_P, ↓reduceIte, Nat.reduceEqDiff, Nat.reduceLeDiff, Nat.reduceAdd, Nat.reduceMul, Nat.reduceSub, reduceCtorEq, l32_0, l32_1, l32_2, l32_3, l32_4, l32_5, l32_6, l32_7, l32_8, l32_9, l32_10, l32_11, l32_12, l32_13, l32_14, l32_15, l32_16, l32_17, l32_18, l32_19, l32_20, l32_21, l32_22, l32_23, l32_24, l32_25, l32_26, l32_27, l32_28, l32_29, l32_33, l32_40, l32_41, l32_44, l32_45, l32_59, l32_61, l32_91, l32_93, l32_123, l32_125, e6, jn, T5]
        · obtain ⟨j, hj', e'⟩ := i32nn jn
          rw [e'] at jn e6 ⊢
          by_cases jl : j < r.length
          · have g3 : ¬ (Int32.ofNat j < 0 ∨ ¬ Int32.ofNat j < Int32.ofNat r.length) := by
              intro q
              rcases q with q | q
              · exact jn q
              · refine q ?_
                rw [ev_lt (by omega) (by omega)]
                exact jl
            rw [if_neg g3]
            have tnj : (Int32.ofNat j).toNatClampNeg = j := clamp_of rfl (by omega)
            rw [tnj]
            obtain ⟨s2, u1, u2, u3⟩ := r_putR (N := N) (tg := tg) (kx := Int32.ofNat 2) (vz := ivN z) (ax := Int32.ofNat a) (kp := Int32.ofNat i) hN G0 (by omega) p2 hr64 H8 jl
            obtain ⟨s3, v1, v2⟩ := r_putL (N := N) (tg := tg) (kx := Int32.ofNat 2) hN u2 (by omega) (by rw [← hs47]; exact La) s64 H8 u3 cl
            have E3 : mf_318_316 N (Int32.ofNat k) tg (Int32.ofNat n) (Int32.ofNat a) (Int32.ofNat 2) (Int32.ofNat i) (ivN z) (Int32.ofNat b) s1 = mf_318_476 N tg (Int32.ofNat n) (Int32.ofNat 2) s3 := by
              rw [v1] at u1
              clear v1 v2 u2 u3 hgd htl hr
              generalize r.length = sr at *
              unfold mf_318_316 mf_318_334 mf_318_342
              simp (disch := omega) only [ev_S, ev_P, ↓reduceIte, Nat.reduceEqDiff, Nat.reduceLeDiff, Nat.reduceAdd, Nat.reduceMul, Nat.reduceSub, reduceCtorEq, l32_0, l32_1, l32_2, l32_3, l32_4, l32_5, l32_6, l32_7, l32_8, l32_9, l32_10, l32_11, l32_12, l32_13, l32_14, l32_15, l32_16, l32_17, l32_18, l32_19, l32_20, l32_21, l32_22, l32_23, l32_24, l32_25, l32_26, l32_27, l32_28, l32_29, l32_33, l32_40, l32_41, l32_44, l32_45, l32_59, l32_61, l32_91, l32_93, l32_123, l32_125, e6, hsr, jl, u1]
            rw [E3]
            have hls : (r.set j (ivN z)).length = r.length := List.length_set
            have hg := (setC_grw (x := x) (i := i) (r := nR (r.set j (ivN z)))).2
            have hgs : szN (nR (r.set j (ivN z))) = r.length := hls
            rw [hgs] at hg
            have hfit : fitP x (nR (r.set j (ivN z))) := Or.inr ⟨by omega, by rw [c1]; rfl⟩
            have hok := setP_ok (i := i) hfit
            rw [c1] at hok
            have wr : wfN (nR (r.set j (ivN z))) := by
              show (r.set j (ivN z)).length ≤ 64
              omega
            exact r_put9 hN H v2 hok (fun p hp => by rcases setP_mem hp with q | q; exact wf_pts wx p q; rw [q]; exact wr) (fun p hp => by rcases setP_mem hp with q | q; exact Nat.le_trans (pts_lv p q) dx; rw [q]; exact Nat.zero_le _) (by omega) (by omega) (by rw [setP_len cl]; omega) (by rw [setP_len cl]; omega)
          · have g3 : Int32.ofNat j < 0 ∨ ¬ Int32.ofNat j < Int32.ofNat r.length := by
              right
              rw [ev_lt (by omega) (by omega)]
              exact jl
            rw [if_pos g3]
            clear hgd htl hr
            generalize r.length = sr at *
            unfold mf_318_316 mf_318_334 mf_318_342
            simp (disch := omega) only [ev_S, ev_P, ↓reduceIte, Nat.reduceEqDiff, Nat.reduceLeDiff, Nat.reduceAdd, Nat.reduceMul, Nat.reduceSub, reduceCtorEq, l32_0, l32_1, l32_2, l32_3, l32_4, l32_5, l32_6, l32_7, l32_8, l32_9, l32_10, l32_11, l32_12, l32_13, l32_14, l32_15, l32_16, l32_17, l32_18, l32_19, l32_20, l32_21, l32_22, l32_23, l32_24, l32_25, l32_26, l32_27, l32_28, l32_29, l32_33, l32_40, l32_41, l32_44, l32_45, l32_59, l32_61, l32_91, l32_93, l32_123, l32_125, e6, hsr, jl, T5]
      · have g2 : Int32.ofNat i < 0 ∨ ¬ Int32.ofNat i < Int32.ofNat (szN x) := by
          right
          rw [ev_lt (by omega) (by omega)]
          exact cl
        rw [if_pos g2, if_neg (by omega)]
        have E5 : mf_318_251 N (Int32.ofNat k) (Int32.ofNat 1) tg (Int32.ofNat (n + 2)) (Int32.ofNat n) (Int32.ofNat a) (Int32.ofNat 2) s1 = mf_318_276 N s1 := by
          generalize szN x = sx at *
          unfold mf_318_251 mf_318_265 mf_318_273
          simp (disch := omega) only [ev_S, ev_P, ↓reduceIte, Nat.reduceEqDiff, Nat.reduceLeDiff, Nat.reduceAdd, Nat.reduceMul, Nat.reduceSub, reduceCtorEq, l32_0, l32_1, l32_2, l32_3, l32_4, l32_5, l32_6, l32_7, l32_8, l32_9, l32_10, l32_11, l32_12, l32_13, l32_14, l32_15, l32_16, l32_17, l32_18, l32_19, l32_20, l32_21, l32_22, l32_23, l32_24, l32_25, l32_26, l32_27, l32_28, l32_29, l32_33, l32_40, l32_41, l32_44, l32_45, l32_59, l32_61, l32_91, l32_93, l32_123, l32_125, e5, hsz, cl]
        rw [E5]
        exact F5
  · have hcT : celT x yi yj z = 3 := if_neg cc
    rw [hcT, if_neg (by omega)]
    have key : ∃ a' kk', mf_318_80 N (Int32.ofNat k) (Int32.ofNat 1) tg (Int32.ofNat (n + 2)) (Int32.ofNat n) s1 = mf_318_236 N (Int32.ofNat k) (Int32.ofNat 1) tg (Int32.ofNat (n + 2)) (Int32.ofNat n) a' kk' (Int32.ofNat 0) s1 := by
      by_cases c0 : kn x = 0
      · have e1 := (hx.iv c0).1
        rw [e1] at h308
        refine ⟨vx, Int32.ofNat 0, ?_⟩
        unfold mf_318_80 mf_318_85 mf_318_92 mf_318_95 mf_318_106 mf_318_127 mf_318_128 mf_318_134 mf_318_171 mf_318_172
        simp (disch := omega) only [ev_S, ev_P, ↓reduceIte, Nat.reduceEqDiff, Nat.reduceLeDiff, Nat.reduceAdd, Nat.reduceMul, Nat.reduceSub, reduceCtorEq, l32_0, l32_1, l32_2, l32_3, l32_4, l32_5, l32_6, l32_7, l32_8, l32_9, l32_10, l32_11, l32_12, l32_13, l32_14, l32_15, l32_16, l32_17, l32_18, l32_19, l32_20, l32_21, l32_22, l32_23, l32_24, l32_25, l32_26, l32_27, l32_28, l32_29, l32_33, l32_40, l32_41, l32_44, l32_45, l32_59, l32_61, l32_91, l32_93, l32_123, l32_125, h308, h309]
      · obtain ⟨e1, a, e2, La⟩ := hx.th c0
        have hka := lay_kn La c0
        have hla := LayN.lt La
        rw [e1] at h308
        rw [e2] at h309
        refine ⟨Int32.ofNat a, Int32.ofNat (kn x), ?_⟩
        have c1 : ¬ kn x ≤ 0 := by omega
        clear T F3 F5 hcT
        rcases hi.kz with ⟨q1, q2⟩ | ⟨q1, q2, -⟩
        · by_cases c2 : kn x = 2
          · rcases hj.kz with ⟨q3, q4⟩ | ⟨q3, q4, -⟩
            · rcases hz.kz with ⟨q5, q6⟩ | ⟨q5, q6, -⟩
              · exact absurd ⟨c2, q2, q4, q6⟩ cc
              · clear cc
                rw [c2] at hka ⊢
                unfold mf_318_80 mf_318_85 mf_318_92 mf_318_99 mf_318_106 mf_318_113 mf_318_123 mf_318_128 mf_318_134 mf_318_139 mf_318_145 mf_318_157 mf_318_171 mf_318_172
                simp (disch := omega) only [ev_S, ev_P, ↓reduceIte, Nat.reduceEqDiff, Nat.reduceLeDiff, Nat.reduceAdd, Nat.reduceMul, Nat.reduceSub, reduceCtorEq, l32_0, l32_1, l32_2, l32_3, l32_4, l32_5, l32_6, l32_7, l32_8, l32_9, l32_10, l32_11, l32_12, l32_13, l32_14, l32_15, l32_16, l32_17, l32_18, l32_19, l32_20, l32_21, l32_22, l32_23, l32_24, l32_25, l32_26, l32_27, l32_28, l32_29, l32_33, l32_40, l32_41, l32_44, l32_45, l32_59, l32_61, l32_91, l32_93, l32_123, l32_125, h308, h309, hka, l32_166300, q1, q3, q5]
            · clear cc
              rw [c2] at hka ⊢
              unfold mf_318_80 mf_318_85 mf_318_92 mf_318_99 mf_318_106 mf_318_113 mf_318_123 mf_318_128 mf_318_134 mf_318_139 mf_318_145 mf_318_171 mf_318_172
              simp (disch := omega) only [ev_S, ev_P, ↓reduceIte, Nat.reduceEqDiff, Nat.reduceLeDiff, Nat.reduceAdd, Nat.reduceMul, Nat.reduceSub, reduceCtorEq, l32_0, l32_1, l32_2, l32_3, l32_4, l32_5, l32_6, l32_7, l32_8, l32_9, l32_10, l32_11, l32_12, l32_13, l32_14, l32_15, l32_16, l32_17, l32_18, l32_19, l32_20, l32_21, l32_22, l32_23, l32_24, l32_25, l32_26, l32_27, l32_28, l32_29, l32_33, l32_40, l32_41, l32_44, l32_45, l32_59, l32_61, l32_91, l32_93, l32_123, l32_125, h308, h309, hka, l32_166300, q1, q3]
          · clear cc
            generalize kn x = kk at *
            unfold mf_318_80 mf_318_85 mf_318_92 mf_318_99 mf_318_106 mf_318_113 mf_318_123 mf_318_128 mf_318_134 mf_318_139 mf_318_171 mf_318_172
            simp (disch := omega) only [ev_S, ev_P, ↓reduceIte, Nat.reduceEqDiff, Nat.reduceLeDiff, Nat.reduceAdd, Nat.reduceMul, Nat.reduceSub, reduceCtorEq, l32_0, l32_1, l32_2, l32_3, l32_4, l32_5, l32_6, l32_7, l32_8, l32_9, l32_10, l32_11, l32_12, l32_13, l32_14, l32_15, l32_16, l32_17, l32_18, l32_19, l32_20, l32_21, l32_22, l32_23, l32_24, l32_25, l32_26, l32_27, l32_28, l32_29, l32_33, l32_40, l32_41, l32_44, l32_45, l32_59, l32_61, l32_91, l32_93, l32_123, l32_125, h308, h309, hka, l32_166300, c1, q1, c2]
        · clear cc
          generalize kn x = kk at *
          unfold mf_318_80 mf_318_85 mf_318_92 mf_318_99 mf_318_106 mf_318_113 mf_318_127 mf_318_128 mf_318_134 mf_318_171 mf_318_172
          simp (disch := omega) only [ev_S, ev_P, ↓reduceIte, Nat.reduceEqDiff, Nat.reduceLeDiff, Nat.reduceAdd, Nat.reduceMul, Nat.reduceSub, reduceCtorEq, l32_0, l32_1, l32_2, l32_3, l32_4, l32_5, l32_6, l32_7, l32_8, l32_9, l32_10, l32_11, l32_12, l32_13, l32_14, l32_15, l32_16, l32_17, l32_18, l32_19, l32_20, l32_21, l32_22, l32_23, l32_24, l32_25, l32_26, l32_27, l32_28, l32_29, l32_33, l32_40, l32_41, l32_44, l32_45, l32_59, l32_61, l32_91, l32_93, l32_123, l32_125, h308, h309, hka, l32_166300, c1, q1]
    obtain ⟨a', kk', E⟩ := key
    rw [E]
    exact F3
end PT2
