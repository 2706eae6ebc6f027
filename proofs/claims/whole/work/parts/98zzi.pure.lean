/-! ===== PURE: run (138): a number in a row of a table: the machine's act (the class) ===== -/
section PUC
variable {N : Nat} {X : Nat → Option zz_C} {t t2 t3 : cS} {u w : Nat} {pl py : Int32} {vx vi vj vz : Int64} {x yi yj z : Nod}
theorem celT_5 : celT x yi yj z ≤ 5 := by
  unfold celT
  split
  · split <;> omega
  · omega
theorem celT_0 (h : celT x yi yj z = 0) : (kn x = 2 ∧ kn yi = 0 ∧ kn yj = 0 ∧ kn z = 0) ∧ ¬ ivN yi < 0 ∧ ivN yi < Int32.ofNat (szN x) := by
  unfold celT at h
  split at h
  · rename_i c
    split at h
    · cases h
    · rename_i c2
      exact ⟨c, fun q => c2 (Or.inl q), Classical.not_not.mp (fun q => c2 (Or.inr q))⟩
  · cases h
theorem pts2 (h : kn x = 2) : pts x = (tvN x).map nR := by
  unfold pts
  rw [kn2' h]
  rfl
theorem c_putC (hN : 170000 ≤ N) (hh : cHp t u w) (hx : cN (cel t) u vx x) (hi : cN (cel t) u vi yi) (hj : cN (cel t) u vj yj) (hz : cN (cel t) u vz z) (wx : wfN x) (dx : x.1 ≤ 4) (hu : u ≤ 162000 - 100) (hw : w ≤ 900)
    (p1 : cf_167 N X (Int32.ofNat 1) t = some (t, .inl (some (.long vx)))) (p2 : cf_167 N X (Int32.ofNat 2) t = some (t, .inl (some (.long vz)))) (p3 : cf_167 N X (Int32.ofNat 3) t = some (t, .inl (some (.long vj)))) (p4 : cf_167 N X (Int32.ofNat 4) t = some (t, .inl (some (.long vi)))) :
    (¬ celT x yi yj z = 0 → ∀ t3, cf_156 N X (Int32.ofNat (celT x yi yj z)) pl (Int32.ofNat 0) t = some (t3, .inl none) → cf_159 N X pl py t = some (t3, .inl none)) ∧
    (celT x yi yj z = 0 → (ivN yj < 0 ∨ ¬ ivN yj < Int32.ofNat ((tvN x).getD (ivN yi).toNatClampNeg []).length → ∀ t3, cf_156 N X (Int32.ofNat 5) py (Int32.ofNat 0) t = some (t3, .inl none) → cf_159 N X pl py t = some (t3, .inl none)) ∧
    (¬ (ivN yj < 0 ∨ ¬ ivN yj < Int32.ofNat ((tvN x).getD (ivN yi).toNatClampNeg []).length) → ∃ t2 v, cF t t2 u v (ansM 2 (setC x (ivN yi).toNatClampNeg (ivN yj).toNatClampNeg (ivN z))) ∧ ∀ t3, cf_144 N X v (Int32.ofNat 4) pl t2 = some (t3, .inl none) → cf_159 N X pl py t = some (t3, .inl none))) := by
  have T := c_celT (N := N) (X := X) hh hx hi hj hz
  refine ⟨fun h0 t3 ht => ?_, fun h0 => ?_⟩
  · have h5 := celT_5 (x := x) (yi := yi) (yj := yj) (z := z)
    generalize celT x yi yj z = ct at *
    unfold cf_159 cf_159_0 cf_159_5 cf_159_11 cf_159_18 cf_159_25 cf_159_41 cf_159_48 cf_159_56
    simp (disch := omega) only [ev_S, ev_C, ↓reduceIte, Nat.reduceEqDiff, Nat.reduceLeDiff, Nat.reduceAdd, Nat.reduceMul, Nat.reduceSub, reduceCtorEq, l32_0, l32_1, l32_2, l32_3, l32_4, l32_5, l32_6, l32_7, l32_8, l32_9, l32_10, l32_11, l32_12, l32_13, l32_14, l32_15, l32_16, l32_17, l32_18, l32_19, l32_20, l32_21, l32_22, l32_23, l32_24, l32_25, l32_26, l32_27, l32_28, l32_29, l32_33, l32_40, l32_41, l32_44, l32_45, l32_59, l32_61, l32_91, l32_93, l32_123, l32_125, p1, p2, p3, p4, T, h0, ht]
  · obtain ⟨⟨c1, c2, c3, c4⟩, cn, cl⟩ := celT_0 h0
    rw [h0] at T
    have lo := c_lowOf (N := N) (X := X) (t := t) (k := 0) (a := ivN yi)
    rw [← hi.z c2] at lo
    obtain ⟨i, hi', e⟩ := i32nn cn
    have s64 := wf64 wx
    rw [e] at lo cl ⊢
    rw [ev_lt (by omega) (by omega)] at cl
    have tni : (Int32.ofNat i).toNatClampNeg = i := clamp_of rfl (by omega)
    rw [tni]
    have hil : i < (pts x).length := by rw [pts_len]; exact cl
    obtain ⟨vr, r1, r2⟩ := c_part (N := N) (X := X) hh hx hil
    have htl : (tvN x).length = szN x := (kn2_sz c1).symm
    have eP : (pts x)[i]'hil = nR ((tvN x).getD i []) := by
      have h1 : (pts x)[i]? = some (nR ((tvN x).getD i [])) := by
        rw [pts2 c1, List.getElem?_map, List.getElem?_eq_getElem (by omega), List.getD_eq_getElem?_getD, List.getElem?_eq_getElem (by omega)]
        rfl
      rw [List.getElem?_eq_getElem hil] at h1
      exact Option.some.inj h1
    rw [eP] at r2
    have hr64 : ((tvN x).getD i []).length ≤ 64 := by
      rw [List.getD_eq_getElem?_getD, List.getElem?_eq_getElem (by omega)]
      exact (tv_wf c1 wx).2.2 _ (List.getElem_mem _)
    unfold setC
    generalize (tvN x).getD i [] = r at *
    refine ⟨fun hb t3 ht => ?_, fun hb => ?_⟩
    · have q5 := c_pt5 (N := N) (X := X) r2 hj hz hh c3 c4 hr64 hb
      have k5 : cf_255 N X (rf (Int32.ofNat 5)) t = some (t, .inl (some (.int (Int32.ofNat 4)))) := by
        rw [rf_tg (by omega)]
        exact c_kindOf
      have l5 : cf_256 N X (rf (Int32.ofNat 5)) t = some (t, .inl (some (.int (Int32.ofNat 5)))) := by
        rw [rf_tg (by omega)]
        exact c_lowOf
      clear e hb
      unfold cf_159 cf_159_0 cf_159_5 cf_159_11 cf_159_18 cf_159_25 cf_159_41 cf_159_57 cf_159_71 cf_159_74 cf_159_81 cf_159_88 cf_159_92 cf_159_98 cf_159_103 cf_159_124
      simp (disch := omega) only [ev_S, ev_C, ↓reduceIte, Nat.reduceEqDiff, Nat.reduceLeDiff, Nat.reduceAdd, Nat.reduceMul, Nat.reduceSub, reduceCtorEq, l32_0, l32_1, l32_2, l32_3, l32_4, l32_5, l32_6, l32_7, l32_8, l32_9, l32_10, l32_11, l32_12, l32_13, l32_14, l32_15, l32_16, l32_17, l32_18, l32_19, l32_20, l32_21, l32_22, l32_23, l32_24, l32_25, l32_26, l32_27, l32_28, l32_29, l32_33, l32_40, l32_41, l32_44, l32_45, l32_59, l32_61, l32_91, l32_93, l32_123, l32_125, p1, p2, p3, p4, T, lo, r1, q5, k5, l5, ht]
    · have jn : ¬ ivN yj < 0 := fun q => hb (Or.inl q)
      have jl : ivN yj < Int32.ofNat r.length := Classical.not_not.mp (fun q => hb (Or.inr q))
      obtain ⟨j, hj', e'⟩ := i32nn jn
      rw [e', ev_lt (by omega) (by omega)] at jl
      have tnj : (ivN yj).toNatClampNeg = j := by
        rw [e']
        exact clamp_of rfl (by omega)
      rw [tnj]
      obtain ⟨t2, v2, g1, g2, g3⟩ := c_ptr (N := N) (X := X) hN r2 hj hz hh c3 c4 hr64 e' jl (by omega) (by omega)
      have hls : (r.set j (ivN z)).length = r.length := List.length_set
      have wr : wfN (nR (r.set j (ivN z))) := by
        show (r.set j (ivN z)).length ≤ 64
        omega
      obtain ⟨t3, v3, k1, k2⟩ := c_ptp (N := N) (X := X) (z := nR (r.set j (ivN z))) hN g2.1 (g2.up hx) (g2.up hi) g3 wx wr dx (Nat.zero_le _) (by omega) (by show w + 0 ≤ 1000; omega)
      have eA : ansPut x yi (nR (r.set j (ivN z))) = ansM 2 (setP x i (nR (r.set j (ivN z)))) := by
        unfold ansPut
        rw [if_pos ⟨Or.inr ⟨by omega, by rw [c1]; rfl⟩, c2⟩]
        unfold ansPt
        rw [e, if_neg (by
          intro q
          rcases q with q | q
          · rw [e] at cn; exact cn q
          · refine q ?_
            rw [ev_lt (by omega) (by omega)]
            exact cl), tni, c1]
      rw [eA] at k2
      have kk := c_kn (N := N) (X := X) g3
      have kk : cf_255 N X v2 t2 = some (t2, .inl (some (.int (Int32.ofNat 1)))) := kk
      refine ⟨t3, v3, cG.F g2 k2 (by omega) (fun a ha => mk_n0 ha), fun t4 h4 => ?_⟩
      clear e hb eA k2 g2 g3 e'
      unfold cf_159 cf_159_0 cf_159_5 cf_159_11 cf_159_18 cf_159_25 cf_159_41 cf_159_57 cf_159_71 cf_159_74 cf_159_81 cf_159_88 cf_159_106 cf_159_119 cf_159_124
      simp (disch := omega) only [ev_S, ev_C, ↓reduceIte, Nat.reduceEqDiff, Nat.reduceLeDiff, Nat.reduceAdd, Nat.reduceMul, Nat.reduceSub, reduceCtorEq, l32_0, l32_1, l32_2, l32_3, l32_4, l32_5, l32_6, l32_7, l32_8, l32_9, l32_10, l32_11, l32_12, l32_13, l32_14, l32_15, l32_16, l32_17, l32_18, l32_19, l32_20, l32_21, l32_22, l32_23, l32_24, l32_25, l32_26, l32_27, l32_28, l32_29, l32_33, l32_40, l32_41, l32_44, l32_45, l32_59, l32_61, l32_91, l32_93, l32_123, l32_125, p1, p2, p3, p4, T, lo, r1, g1, kk, k1, h4]
end PUC
