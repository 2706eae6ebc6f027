/-! ===== PURE: run (75): a part in another's stead, one index (the reference) ===== -/
section PT1
variable {N : Nat} {s : mS} {n f m k : Nat} {x y y2 z : Nod} {kx vx tg pl : Int32}
theorem r_put1 (hN : 170000 ≤ N) (H : rA s n f m [y, z]) (hx : rvl (s.2.2.1 47) f kx vx x) (wx : wfN x) (dx : x.1 ≤ 4) (h308 : mf_308 N tg (mI s 51 (Int32.ofNat n)) = some (mI s 51 (Int32.ofNat n), some (.int kx))) (h309 : mf_309 N tg (mI s 51 (Int32.ofNat n)) = some (mI s 51 (Int32.ofNat n), some (.int vx))) : rPt N s n f m tg (ansPut x y z) (mf_318_80 N (Int32.ofNat k) (Int32.ofNat 0) tg (Int32.ofNat (n + 1)) (Int32.ofNat n) (mI s 51 (Int32.ofNat n))) := by
  have H' := H
  obtain ⟨⟨h51, hv⟩, H2, H3, H4, H5, H6, H7, H8, H9, H10⟩ := H'
  have hy : rvl (s.2.2.1 47) f (s.2.2.1 49 n) (s.2.2.1 50 n) y := hv 0 (by show 0 < 2; omega)
  have hz : rvl (s.2.2.1 47) f (s.2.2.1 49 (n + 1)) (s.2.2.1 50 (n + 1)) z := hv 1 (by show 1 < 2; omega)
  have wz : wfN z := H9 z (List.mem_cons_of_mem _ List.mem_cons_self)
  have dz : z.1 ≤ 4 := H10 z (List.mem_cons_of_mem _ List.mem_cons_self)
  have lx := kn_le (x := x)
  have ly := kn_le (x := y)
  have lz := kn_le (x := z)
  have s64 := wf64 wx
  have G0 : rG s (mI s 51 (Int32.ofNat n)) n f f [] := rG.nil H2
  obtain ⟨s1, hs1⟩ : ∃ s1, s1 = mI s 51 (Int32.ofNat n) := ⟨_, rfl⟩
  rw [← hs1] at G0 h308 h309 ⊢
  have hs47 : s1.2.2.1 = s.2.2.1 := by rw [hs1]; rfl
  rw [← hs47] at hx hy hz
  have T := fun q => rG.trb (N := N) H G0 (by omega) q
  have kz := r_kindAt (N := N) hz (by omega) (by omega)
  rw [kd_kn] at kz
  -- a trouble that is told
  have F3 : ∀ {fl : Int32} {a' kk' : Int32}, fl = Int32.ofNat 0 → rPt N s n f m tg (.inl 3) (mf_318_236 N (Int32.ofNat k) (Int32.ofNat 0) tg (Int32.ofNat (n + 1)) (Int32.ofNat n) a' kk' fl s1) := fun {fl a' kk'} e => by
    obtain ⟨b1, b2⟩ := T 3
    refine Or.inl ⟨3, _, rfl, ?_, b2⟩
    subst e
    unfold mf_318_236 mf_318_241 mf_318_250
    simp (disch := omega) only [ev_S, ev_P, ↓reduceIte, Nat.reduceEqDiff, Nat.reduceLeDiff, Nat.reduceAdd, Nat.reduceMul, Nat.reduceSub, reduceCtorEq, l32_0, l32_1, l32_2, l32_3, l32_4, l32_5, l32_6, l32_7, l32_8, l32_9, l32_10, l32_11, l32_12, l32_13, l32_14, l32_15, l32_16, l32_17, l32_18, l32_19, l32_20, l32_21, l32_22, l32_23, l32_24, l32_25, l32_26, l32_27, l32_28, l32_29, l32_33, l32_40, l32_41, l32_44, l32_45, l32_59, l32_61, l32_91, l32_93, l32_123, l32_125, b1]
  have F5 : rPt N s n f m tg (.inl 5) (mf_318_276 N s1) := by
    obtain ⟨b1, b2⟩ := T 5
    refine Or.inl ⟨5, _, rfl, ?_, b2⟩
    unfold mf_318_276 mf_318_285
    simp (disch := omega) only [ev_S, ev_P, ↓reduceIte, Nat.reduceEqDiff, Nat.reduceLeDiff, Nat.reduceAdd, Nat.reduceMul, Nat.reduceSub, reduceCtorEq, l32_0, l32_1, l32_2, l32_3, l32_4, l32_5, l32_6, l32_7, l32_8, l32_9, l32_10, l32_11, l32_12, l32_13, l32_14, l32_15, l32_16, l32_17, l32_18, l32_19, l32_20, l32_21, l32_22, l32_23, l32_24, l32_25, l32_26, l32_27, l32_28, l32_29, l32_33, l32_40, l32_41, l32_44, l32_45, l32_59, l32_61, l32_91, l32_93, l32_123, l32_125, b1]
  by_cases c0 : kn x = 0
  · have hf : ¬ (fitP x z ∧ kn y = 0) := fun q => by
      rcases q.1 with r | r <;> omega
    unfold ansPut
    rw [if_neg hf]
    have e1 := (hx.iv c0).1
    have E : mf_318_80 N (Int32.ofNat k) (Int32.ofNat 0) tg (Int32.ofNat (n + 1)) (Int32.ofNat n) s1 = mf_318_236 N (Int32.ofNat k) (Int32.ofNat 0) tg (Int32.ofNat (n + 1)) (Int32.ofNat n) vx (Int32.ofNat 0) (Int32.ofNat 0) s1 := by
      rw [e1] at h308
      unfold mf_318_80 mf_318_85 mf_318_92 mf_318_95 mf_318_106 mf_318_127 mf_318_128 mf_318_177 mf_318_208
      simp (disch := omega) only [ev_S, ev_P, ↓reduceIte, Nat.reduceEqDiff, Nat.reduceLeDiff, Nat.reduceAdd, Nat.reduceMul, Nat.reduceSub, reduceCtorEq, l32_0, l32_1, l32_2, l32_3, l32_4, l32_5, l32_6, l32_7, l32_8, l32_9, l32_10, l32_11, l32_12, l32_13, l32_14, l32_15, l32_16, l32_17, l32_18, l32_19, l32_20, l32_21, l32_22, l32_23, l32_24, l32_25, l32_26, l32_27, l32_28, l32_29, l32_33, l32_40, l32_41, l32_44, l32_45, l32_59, l32_61, l32_91, l32_93, l32_123, l32_125, h308, h309]
    rw [E]
    exact F3 rfl
  · obtain ⟨e1, a, e2, La⟩ := hx.th c0
    have hka := lay_kn La c0
    have hla := LayN.lt La
    rw [e1] at h308
    rw [e2] at h309
    have EA : mf_318_80 N (Int32.ofNat k) (Int32.ofNat 0) tg (Int32.ofNat (n + 1)) (Int32.ofNat n) s1 = mf_318_177 N (Int32.ofNat k) (Int32.ofNat 0) tg (Int32.ofNat (n + 1)) (Int32.ofNat n) (Int32.ofNat a) (Int32.ofNat (kn x)) (if kn y = 0 then Int32.ofNat 1 else Int32.ofNat 0) s1 := by
      have c1 : ¬ kn x ≤ 0 := by omega
      clear kz T F3 F5
      generalize kn x = kk at *
      rcases hy.kz with ⟨q1, q2⟩ | ⟨q1, q2, -⟩
      · rw [if_pos q2]
        unfold mf_318_80 mf_318_85 mf_318_92 mf_318_99 mf_318_106 mf_318_113 mf_318_123 mf_318_128
        simp (disch := omega) only [ev_S, ev_P, ↓reduceIte, Nat.reduceEqDiff, Nat.reduceLeDiff, Nat.reduceAdd, Nat.reduceMul, Nat.reduceSub, reduceCtorEq, l32_0, l32_1, l32_2, l32_3, l32_4, l32_5, l32_6, l32_7, l32_8, l32_9, l32_10, l32_11, l32_12, l32_13, l32_14, l32_15, l32_16, l32_17, l32_18, l32_19, l32_20, l32_21, l32_22, l32_23, l32_24, l32_25, l32_26, l32_27, l32_28, l32_29, l32_33, l32_40, l32_41, l32_44, l32_45, l32_59, l32_61, l32_91, l32_93, l32_123, l32_125, h308, h309, hka, l32_166300, c1, q1]
      · rw [if_neg q2]
        unfold mf_318_80 mf_318_85 mf_318_92 mf_318_99 mf_318_106 mf_318_113 mf_318_127 mf_318_128
        simp (disch := omega) only [ev_S, ev_P, ↓reduceIte, Nat.reduceEqDiff, Nat.reduceLeDiff, Nat.reduceAdd, Nat.reduceMul, Nat.reduceSub, reduceCtorEq, l32_0, l32_1, l32_2, l32_3, l32_4, l32_5, l32_6, l32_7, l32_8, l32_9, l32_10, l32_11, l32_12, l32_13, l32_14, l32_15, l32_16, l32_17, l32_18, l32_19, l32_20, l32_21, l32_22, l32_23, l32_24, l32_25, l32_26, l32_27, l32_28, l32_29, l32_33, l32_40, l32_41, l32_44, l32_45, l32_59, l32_61, l32_91, l32_93, l32_123, l32_125, h308, h309, hka, l32_166300, c1, q1]
    rw [EA]
    have EB : ∀ c : Nat, c = 0 ∨ c = 1 → mf_318_177 N (Int32.ofNat k) (Int32.ofNat 0) tg (Int32.ofNat (n + 1)) (Int32.ofNat n) (Int32.ofNat a) (Int32.ofNat (kn x)) (Int32.ofNat c) s1 = mf_318_236 N (Int32.ofNat k) (Int32.ofNat 0) tg (Int32.ofNat (n + 1)) (Int32.ofNat n) (Int32.ofNat a) (Int32.ofNat (kn x)) (if fitP x z ∧ c = 1 then Int32.ofNat 1 else Int32.ofNat 0) s1 := fun c hc => by
      have hvx : kn x = 1 ∨ kn x = 2 ∨ kn x = 3 := by omega
      rcases hc with hc | hc <;> subst hc
      · rw [if_neg (fun q => by omega)]
        rcases hvx with g | g | g
        · rw [g]
          unfold mf_318_177 mf_318_183 mf_318_202 mf_318_203
          simp (disch := omega) only [ev_S, ev_P, ↓reduceIte, Nat.reduceEqDiff, Nat.reduceLeDiff, Nat.reduceAdd, Nat.reduceMul, Nat.reduceSub, reduceCtorEq, l32_0, l32_1, l32_2, l32_3, l32_4, l32_5, l32_6, l32_7, l32_8, l32_9, l32_10, l32_11, l32_12, l32_13, l32_14, l32_15, l32_16, l32_17, l32_18, l32_19, l32_20, l32_21, l32_22, l32_23, l32_24, l32_25, l32_26, l32_27, l32_28, l32_29, l32_33, l32_40, l32_41, l32_44, l32_45, l32_59, l32_61, l32_91, l32_93, l32_123, l32_125]
        · rw [g]
          unfold mf_318_177 mf_318_208 mf_318_214 mf_318_233 mf_318_234
          simp (disch := omega) only [ev_S, ev_P, ↓reduceIte, Nat.reduceEqDiff, Nat.reduceLeDiff, Nat.reduceAdd, Nat.reduceMul, Nat.reduceSub, reduceCtorEq, l32_0, l32_1, l32_2, l32_3, l32_4, l32_5, l32_6, l32_7, l32_8, l32_9, l32_10, l32_11, l32_12, l32_13, l32_14, l32_15, l32_16, l32_17, l32_18, l32_19, l32_20, l32_21, l32_22, l32_23, l32_24, l32_25, l32_26, l32_27, l32_28, l32_29, l32_33, l32_40, l32_41, l32_44, l32_45, l32_59, l32_61, l32_91, l32_93, l32_123, l32_125]
        · rw [g]
          unfold mf_318_177 mf_318_208
          simp (disch := omega) only [ev_S, ev_P, ↓reduceIte, Nat.reduceEqDiff, Nat.reduceLeDiff, Nat.reduceAdd, Nat.reduceMul, Nat.reduceSub, reduceCtorEq, l32_0, l32_1, l32_2, l32_3, l32_4, l32_5, l32_6, l32_7, l32_8, l32_9, l32_10, l32_11, l32_12, l32_13, l32_14, l32_15, l32_16, l32_17, l32_18, l32_19, l32_20, l32_21, l32_22, l32_23, l32_24, l32_25, l32_26, l32_27, l32_28, l32_29, l32_33, l32_40, l32_41, l32_44, l32_45, l32_59, l32_61, l32_91, l32_93, l32_123, l32_125]
      · rcases hvx with g | g | g
        · rcases hz.kz with ⟨q1, q2⟩ | ⟨q1, q2, -⟩
          · rw [if_pos ⟨by unfold fitP; omega, rfl⟩, g]
            unfold mf_318_177 mf_318_183 mf_318_188 mf_318_198 mf_318_203
            simp (disch := omega) only [ev_S, ev_P, ↓reduceIte, Nat.reduceEqDiff, Nat.reduceLeDiff, Nat.reduceAdd, Nat.reduceMul, Nat.reduceSub, reduceCtorEq, l32_0, l32_1, l32_2, l32_3, l32_4, l32_5, l32_6, l32_7, l32_8, l32_9, l32_10, l32_11, l32_12, l32_13, l32_14, l32_15, l32_16, l32_17, l32_18, l32_19, l32_20, l32_21, l32_22, l32_23, l32_24, l32_25, l32_26, l32_27, l32_28, l32_29, l32_33, l32_40, l32_41, l32_44, l32_45, l32_59, l32_61, l32_91, l32_93, l32_123, l32_125, q1]
          · rw [if_neg (fun q => by unfold fitP at q; omega), g]
            unfold mf_318_177 mf_318_183 mf_318_188 mf_318_202 mf_318_203
            simp (disch := omega) only [ev_S, ev_P, ↓reduceIte, Nat.reduceEqDiff, Nat.reduceLeDiff, Nat.reduceAdd, Nat.reduceMul, Nat.reduceSub, reduceCtorEq, l32_0, l32_1, l32_2, l32_3, l32_4, l32_5, l32_6, l32_7, l32_8, l32_9, l32_10, l32_11, l32_12, l32_13, l32_14, l32_15, l32_16, l32_17, l32_18, l32_19, l32_20, l32_21, l32_22, l32_23, l32_24, l32_25, l32_26, l32_27, l32_28, l32_29, l32_33, l32_40, l32_41, l32_44, l32_45, l32_59, l32_61, l32_91, l32_93, l32_123, l32_125, q1]
        · by_cases q2 : kn z = 1
          · rw [if_pos ⟨by unfold fitP; omega, rfl⟩, g]
            rw [q2] at kz
            unfold mf_318_177 mf_318_208 mf_318_214 mf_318_219 mf_318_225 mf_318_229 mf_318_234
            simp (disch := omega) only [ev_S, ev_P, ↓reduceIte, Nat.reduceEqDiff, Nat.reduceLeDiff, Nat.reduceAdd, Nat.reduceMul, Nat.reduceSub, reduceCtorEq, l32_0, l32_1, l32_2, l32_3, l32_4, l32_5, l32_6, l32_7, l32_8, l32_9, l32_10, l32_11, l32_12, l32_13, l32_14, l32_15, l32_16, l32_17, l32_18, l32_19, l32_20, l32_21, l32_22, l32_23, l32_24, l32_25, l32_26, l32_27, l32_28, l32_29, l32_33, l32_40, l32_41, l32_44, l32_45, l32_59, l32_61, l32_91, l32_93, l32_123, l32_125, kz]
          · rw [if_neg (fun q => by unfold fitP at q; omega), g]
            generalize kn z = kk at *
            unfold mf_318_177 mf_318_208 mf_318_214 mf_318_219 mf_318_225 mf_318_233 mf_318_234
            simp (disch := omega) only [ev_S, ev_P, ↓reduceIte, Nat.reduceEqDiff, Nat.reduceLeDiff, Nat.reduceAdd, Nat.reduceMul, Nat.reduceSub, reduceCtorEq, l32_0, l32_1, l32_2, l32_3, l32_4, l32_5, l32_6, l32_7, l32_8, l32_9, l32_10, l32_11, l32_12, l32_13, l32_14, l32_15, l32_16, l32_17, l32_18, l32_19, l32_20, l32_21, l32_22, l32_23, l32_24, l32_25, l32_26, l32_27, l32_28, l32_29, l32_33, l32_40, l32_41, l32_44, l32_45, l32_59, l32_61, l32_91, l32_93, l32_123, l32_125, kz, q2]
        · rw [if_pos ⟨by unfold fitP; omega, rfl⟩, g]
          unfold mf_318_177 mf_318_208
          simp (disch := omega) only [ev_S, ev_P, ↓reduceIte, Nat.reduceEqDiff, Nat.reduceLeDiff, Nat.reduceAdd, Nat.reduceMul, Nat.reduceSub, reduceCtorEq, l32_0, l32_1, l32_2, l32_3, l32_4, l32_5, l32_6, l32_7, l32_8, l32_9, l32_10, l32_11, l32_12, l32_13, l32_14, l32_15, l32_16, l32_17, l32_18, l32_19, l32_20, l32_21, l32_22, l32_23, l32_24, l32_25, l32_26, l32_27, l32_28, l32_29, l32_33, l32_40, l32_41, l32_44, l32_45, l32_59, l32_61, l32_91, l32_93, l32_123, l32_125]
    unfold ansPut
    by_cases cf : fitP x z ∧ kn y = 0
    · rw [if_pos cf, if_pos cf.2, EB 1 (Or.inr rfl), if_pos ⟨cf.1, rfl⟩]
      have e5 := (hy.iv cf.2).2
      have hsz : mf_77 N (Int32.ofNat a) s1 = some (s1, some (.int (Int32.ofNat (szN x)))) := r_size (N := N) (s := s1) (LayN_iff.mp La).2 (Nat.le_trans (LayN.lt La).1 (by omega))
      unfold ansPt
      by_cases cn : ivN y < 0
      · rw [if_pos (Or.inl cn)]
        have E5 : mf_318_236 N (Int32.ofNat k) (Int32.ofNat 0) tg (Int32.ofNat (n + 1)) (Int32.ofNat n) (Int32.ofNat a) (Int32.ofNat (kn x)) (Int32.ofNat 1) s1 = mf_318_276 N s1 := by
          clear kz EB EA T F3 F5
          generalize kn x = kk at *
          have cn : (ivN y < Int32.ofNat 0) = True := eq_true cn
          unfold mf_318_236 mf_318_251
          simp (disch := omega) only [ev_S, ev_P, ↓reduceIte, Nat.reduceEqDiff, Nat.reduceLeDiff, Nat.reduceAdd, Nat.reduceMul, Nat.reduceSub, reduceCtorEq, l32_0, l32_1, l32_2, l32_3, l32_4, l32_5, l32_6, l32_7, l32_8, l32_9, l32_10, l32_11, l32_12, l32_13, l32_14, l32_15, l32_16, l32_17, l32_18, l32_19, l32_20, l32_21, l32_22, l32_23, l32_24, l32_25, l32_26, l32_27, l32_28, l32_29, l32_33, l32_40, l32_41, l32_44, l32_45, l32_59, l32_61, l32_91, l32_93, l32_123, l32_125, e5, cn]
        rw [E5]
        exact F5
      · obtain ⟨i, hi, e⟩ := i32nn cn
        rw [e] at cn e5 ⊢
        by_cases cl : i < szN x
        · have g2 : ¬ (Int32.ofNat i < 0 ∨ ¬ Int32.ofNat i < Int32.ofNat (szN x)) := by
            intro q
            rcases q with q | q
            · exact cn q
            · refine q ?_
              rw [ev_lt (by omega) (by omega)]
              exact cl
          rw [if_neg g2]
          have tni : (Int32.ofNat i).toNatClampNeg = i := clamp_of rfl (by omega)
          rw [tni]
          obtain ⟨s2, p1, p2⟩ := r_putL (N := N) (tg := tg) (kx := Int32.ofNat (kn x)) hN G0 (by omega) (by rw [← hs47]; exact La) s64 H8 hz cl
          have E6 : mf_318_236 N (Int32.ofNat k) (Int32.ofNat 0) tg (Int32.ofNat (n + 1)) (Int32.ofNat n) (Int32.ofNat a) (Int32.ofNat (kn x)) (Int32.ofNat 1) s1 = mf_318_476 N tg (Int32.ofNat n) (Int32.ofNat (kn x)) s2 := by
            clear kz EB EA T F3 F5 p2
            generalize kn x = kk at *
            generalize szN x = sx at *
            unfold mf_318_236 mf_318_251 mf_318_265 mf_318_273 mf_318_286
            simp (disch := omega) only [ev_S, ev_P, ↓reduceIte, Nat.reduceEqDiff, Nat.reduceLeDiff, Nat.reduceAdd, Nat.reduceMul, Nat.reduceSub, reduceCtorEq, l32_0, l32_1, l32_2, l32_3, l32_4, l32_5, l32_6, l32_7, l32_8, l32_9, l32_10, l32_11, l32_12, l32_13, l32_14, l32_15, l32_16, l32_17, l32_18, l32_19, l32_20, l32_21, l32_22, l32_23, l32_24, l32_25, l32_26, l32_27, l32_28, l32_29, l32_33, l32_40, l32_41, l32_44, l32_45, l32_59, l32_61, l32_91, l32_93, l32_123, l32_125, e5, hsz, cl, p1]
          rw [E6]
          exact r_put9 hN H p2 (setP_ok cf.1) (fun p hp => by rcases setP_mem hp with q | q; exact wf_pts wx p q; rw [q]; exact wz) (fun p hp => by rcases setP_mem hp with q | q; exact Nat.le_trans (pts_lv p q) dx; rw [q]; exact dz) (by omega) (by omega) (by rw [setP_len cl]; omega) (by rw [setP_len cl]; omega)
        · have g2 : Int32.ofNat i < 0 ∨ ¬ Int32.ofNat i < Int32.ofNat (szN x) := by
            right
            rw [ev_lt (by omega) (by omega)]
            exact cl
          rw [if_pos g2]
          have E5 : mf_318_236 N (Int32.ofNat k) (Int32.ofNat 0) tg (Int32.ofNat (n + 1)) (Int32.ofNat n) (Int32.ofNat a) (Int32.ofNat (kn x)) (Int32.ofNat 1) s1 = mf_318_276 N s1 := by
            clear kz EB EA T F3 F5
            generalize kn x = kk at *
            generalize szN x = sx at *
            unfold mf_318_236 mf_318_251 mf_318_265 mf_318_273
            simp (disch := omega) only [ev_S, ev_P, ↓reduceIte, Nat.reduceEqDiff, Nat.reduceLeDiff, Nat.reduceAdd, Nat.reduceMul, Nat.reduceSub, reduceCtorEq, l32_0, l32_1, l32_2, l32_3, l32_4, l32_5, l32_6, l32_7, l32_8, l32_9, l32_10, l32_11, l32_12, l32_13, l32_14, l32_15, l32_16, l32_17, l32_18, l32_19, l32_20, l32_21, l32_22, l32_23, l32_24, l32_25, l32_26, l32_27, l32_28, l32_29, l32_33, l32_40, l32_41, l32_44, l32_45, l32_59, l32_61, l32_91, l32_93, l32_123, l32_125, e5, hsz, cl]
          rw [E5]
          exact F5
    · rw [if_neg cf]
      by_cases cy : kn y = 0
      · rw [if_pos cy, EB 1 (Or.inr rfl), if_neg (fun q => cf ⟨q.1, cy⟩)]
        exact F3 rfl
      · rw [if_neg cy, EB 0 (Or.inl rfl), if_neg (fun q => by omega)]
        exact F3 rfl
end PT1
