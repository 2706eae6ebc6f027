/-! ===== PURE: run (73): a part in another's stead (the reference): its loops ===== -/
section PTL
variable {N : Nat} {s s1 : mS} {n f f' m a p : Nat} {x z : Nod} {k0 v0 tg kx : Int32}
theorem setP_set (hp : p < szN x) : setP x p z = (pts x).set p z := by
  unfold setP
  rw [List.set_eq_take_append_cons_drop, if_pos (by rw [pts_len]; exact hp), List.append_assoc]
  rfl
theorem rG.pop {xs : List Nod} (H : rG s s1 n f f' xs) : rG s (mI s1 51 (Int32.ofNat n)) n f f' [] := by
  obtain ⟨⟨h1, h2, h3⟩, h4, h5, h6⟩ := H
  exact ⟨⟨rfl, h2, h3⟩, fun i hi => absurd hi (Nat.not_lt_zero _), h5.tr (rG.nil (s := s1) (n := n) h2).2.2.1 h3, h6⟩
theorem r_putL (hN : 170000 ≤ N) (G : rG s s1 n f f' []) (hf : f' ≤ 166300) (La : LayN (s.2.2.1 47) (Rf f) a x) (h64 : szN x ≤ 64) (hn : n + 200 < 9000) (hz : rvl (s1.2.2.1 47) f' k0 v0 z) (hp : p < szN x) : ∃ s2, mf_318_430 N tg (Int32.ofNat n) (Int32.ofNat a) kx (Int32.ofNat p) k0 v0 s1 = mf_318_476 N tg (Int32.ofNat n) kx s2 ∧ rG s s2 n f f' (setP x p z) := by
  have hff := G.1.2.2
  have hl := setP_len (z := z) hp
  have hpl : (pts x).length = szN x := pts_len
  have E1 : mf_318_430 N tg (Int32.ofNat n) (Int32.ofNat a) kx (Int32.ofNat p) k0 v0 s1 = mf_318_L6 N N 0 k0 v0 (Int32.ofNat 0) tg (Int32.ofNat n) (Int32.ofNat a) kx (Int32.ofNat p) s1 := rfl
  rw [E1]
  refine lp (fun F i (c : mS) => mf_318_L6 N F 0 k0 v0 (Int32.ofNat i) tg (Int32.ofNat n) (Int32.ofNat a) kx (Int32.ofNat p) c) (szN x) (fun i c => rG s c n f f' ((setP x p z).take i) ∧ c.2.2.1 47 = s1.2.2.1 47) (fun R => ∃ s2, R = mf_318_476 N tg (Int32.ofNat n) kx s2 ∧ rG s s2 n f f' (setP x p z)) ?_ ?_ (szN x) 0 N s1 (Nat.zero_add _) (by omega) ⟨by rw [List.take_zero]; exact G, rfl⟩
  · intro F i c hi hP _
    obtain ⟨P1, P2⟩ := hP
    left
    have hit : i < (setP x p z).length := by omega
    have ht : (setP x p z).take (i + 1) = (setP x p z).take i ++ [(setP x p z)[i]] := (List.take_append_getElem hit).symm
    have hti : ((setP x p z).take i).length = i := by rw [List.length_take]; show min i _ = i; omega
    have hsz := rG.size (N := N) P1 La (by omega)
    have hge : (setP x p z)[i] = if p = i then z else (pts x)[i]'(by omega) := by
      have : (setP x p z)[i]? = ((pts x).set p z)[i]? := by rw [setP_set hp]
      rw [List.getElem?_eq_getElem hit, List.getElem?_eq_getElem (by rw [List.length_set]; omega), List.getElem_set] at this
      exact Option.some.inj this
    rw [ht, hge]
    by_cases c0 : p = i
    · rw [if_pos c0]
      have pu := rG.push (N := N) P1 (by rw [hti]; omega) (k := k0) (v := v0) (x := z) (by rw [P2]; exact hz)
      rw [hti] at pu
      refine ⟨_, ⟨pu.2, P2⟩, ?_⟩
      have pu1 := pu.1
      show mf_318_433 N (mf_318_L6 N F) tg (Int32.ofNat n) (Int32.ofNat a) kx (Int32.ofNat p) k0 v0 (Int32.ofNat i) c = mf_318_L6 N F 0 k0 v0 (Int32.ofNat (i + 1)) tg (Int32.ofNat n) (Int32.ofNat a) kx (Int32.ofNat p) _
      clear hge hit hti ht pu E1 hl hpl
      generalize szN x = sx at *
      subst c0
      unfold mf_318_433 mf_318_441 mf_318_444 mf_318_451 mf_318_459 mf_318_470
      simp (disch := omega) only [ev_S, ev_P, ↓reduceIte, Nat.reduceEqDiff, Nat.reduceLeDiff, Nat.reduceAdd, Nat.reduceMul, Nat.reduceSub, reduceCtorEq, l32_0, l32_1, l32_2, l32_3, l32_4, l32_5, l32_6, l32_7, l32_8, l32_9, l32_10, l32_11, l32_12, l32_13, l32_14, l32_15, l32_16, l32_17, l32_18, l32_19, l32_20, l32_21, l32_22, l32_23, l32_24, l32_25, l32_26, l32_27, l32_28, l32_29, l32_33, l32_40, l32_41, l32_44, l32_45, l32_59, l32_61, l32_91, l32_93, l32_123, l32_125, hsz, pu1]
    · rw [if_neg c0]
      obtain ⟨k1, v1, e1, e2⟩ := r_elem (N := N) (s := c) (f := f) (i := i) (n := n + i) (P1.lay La) (by omega) (by omega) (by have := P1.1.1; rw [hti] at this; exact this) (by omega)
      have pu := rG.push (N := N) P1 (by rw [hti]; omega) (k := k1) (v := v1) (x := (pts x)[i]'(by omega)) (e2.up hff (fun _ _ => rfl))
      rw [hti] at pu
      refine ⟨_, ⟨pu.2, P2⟩, ?_⟩
      show mf_318_433 N (mf_318_L6 N F) tg (Int32.ofNat n) (Int32.ofNat a) kx (Int32.ofNat p) k0 v0 (Int32.ofNat i) c = mf_318_L6 N F 0 k0 v0 (Int32.ofNat (i + 1)) tg (Int32.ofNat n) (Int32.ofNat a) kx (Int32.ofNat p) _
      clear hge hit hti ht pu E1 hl e2
      have c1 : ¬ i = p := fun q => c0 q.symm
      clear hpl
      generalize szN x = sx at *
      unfold mf_318_433 mf_318_441 mf_318_444 mf_318_462 mf_318_470
      simp (disch := omega) only [ev_S, ev_P, ↓reduceIte, Nat.reduceEqDiff, Nat.reduceLeDiff, Nat.reduceAdd, Nat.reduceMul, Nat.reduceSub, reduceCtorEq, l32_0, l32_1, l32_2, l32_3, l32_4, l32_5, l32_6, l32_7, l32_8, l32_9, l32_10, l32_11, l32_12, l32_13, l32_14, l32_15, l32_16, l32_17, l32_18, l32_19, l32_20, l32_21, l32_22, l32_23, l32_24, l32_25, l32_26, l32_27, l32_28, l32_29, l32_33, l32_40, l32_41, l32_44, l32_45, l32_59, l32_61, l32_91, l32_93, l32_123, l32_125, hsz, e1, c1]
  · intro F c hP
    obtain ⟨P1, P2⟩ := hP
    have hsz := rG.size (N := N) P1 La (by omega)
    refine ⟨c, ?_, ?_⟩
    · show mf_318_433 N (mf_318_L6 N F) tg (Int32.ofNat n) (Int32.ofNat a) kx (Int32.ofNat p) k0 v0 (Int32.ofNat (szN x)) c = _
      clear hl hpl P1
      generalize szN x = sx at *
      unfold mf_318_433 mf_318_441
      simp (disch := omega) only [ev_S, ev_P, ↓reduceIte, Nat.reduceEqDiff, Nat.reduceLeDiff, Nat.reduceAdd, Nat.reduceMul, Nat.reduceSub, reduceCtorEq, l32_0, l32_1, l32_2, l32_3, l32_4, l32_5, l32_6, l32_7, l32_8, l32_9, l32_10, l32_11, l32_12, l32_13, l32_14, l32_15, l32_16, l32_17, l32_18, l32_19, l32_20, l32_21, l32_22, l32_23, l32_24, l32_25, l32_26, l32_27, l32_28, l32_29, l32_33, l32_40, l32_41, l32_44, l32_45, l32_59, l32_61, l32_91, l32_93, l32_123, l32_125, hsz]
    · rw [List.take_of_length_le (by omega)] at P1
      exact P1
/-- the row of a table with one number changed -/
theorem r_putR {q : Nat} {r : List Int32} {vz : Int32} (hN : 170000 ≤ N) (G : rG s s1 n f f []) (hf : 154240 ≤ f ∧ f + 100 ≤ 166300) (La : LayN (s.2.2.1 47) (Rf f) a (nR r)) (hr : r.length ≤ 64) (hn : n + 200 < 9000) (hq : q < r.length) {ax kp : Int32} : ∃ s2, mf_318_357 N tg (Int32.ofNat n) ax kx kp vz (Int32.ofNat a) (Int32.ofNat q) s1 = mf_318_430 N tg (Int32.ofNat n) ax kx kp (Int32.ofNat 1) (s2.2.2.1 50 n) (mI s2 51 (Int32.ofNat n)) ∧ rG s (mI s2 51 (Int32.ofNat n)) n f (f + 2 + r.length) [] ∧ rvl (s2.2.2.1 47) (f + 2 + r.length) (Int32.ofNat 1) (s2.2.2.1 50 n) (nR (r.set q vz)) := by
  have hl : (r.set q vz).length = r.length := List.length_set
  have E1 : mf_318_357 N tg (Int32.ofNat n) ax kx kp vz (Int32.ofNat a) (Int32.ofNat q) s1 = mf_318_L12 N N 0 vz (Int32.ofNat a) (Int32.ofNat q) (Int32.ofNat 0) tg (Int32.ofNat n) ax kx kp s1 := rfl
  rw [E1]
  refine lp (fun F i (c : mS) => mf_318_L12 N F 0 vz (Int32.ofNat a) (Int32.ofNat q) (Int32.ofNat i) tg (Int32.ofNat n) ax kx kp c) r.length (fun i c => rG s c n f f (((r.set q vz).take i).map nZ)) (fun R => ∃ s2, R = mf_318_430 N tg (Int32.ofNat n) ax kx kp (Int32.ofNat 1) (s2.2.2.1 50 n) (mI s2 51 (Int32.ofNat n)) ∧ rG s (mI s2 51 (Int32.ofNat n)) n f (f + 2 + r.length) [] ∧ rvl (s2.2.2.1 47) (f + 2 + r.length) (Int32.ofNat 1) (s2.2.2.1 50 n) (nR (r.set q vz))) ?_ ?_ r.length 0 N s1 (Nat.zero_add _) (by omega) G
  · intro F i c hi P1 _
    left
    have hit : i < (r.set q vz).length := by omega
    have ht : (r.set q vz).take (i + 1) = (r.set q vz).take i ++ [(r.set q vz)[i]] := (List.take_append_getElem hit).symm
    have hti : (((r.set q vz).take i).map nZ).length = i := by rw [List.length_map, List.length_take]; show min i _ = i; omega
    have hsz : mf_77 N (Int32.ofNat a) c = some (c, some (.int (Int32.ofNat r.length))) := rG.size (N := N) P1 La (by omega)
    have hce := rG.cell P1 La hi
    rw [ht, List.map_append, List.getElem_set]
    obtain ⟨s2, p1, p2⟩ := rG.pushZ (N := N) P1 (by rw [hti]; omega) (if q = i then vz else r[i])
    refine ⟨s2, p2, ?_⟩
    show mf_318_360 N (mf_318_L12 N F) tg (Int32.ofNat n) ax kx kp vz (Int32.ofNat a) (Int32.ofNat q) (Int32.ofNat i) c = mf_318_L12 N F 0 vz (Int32.ofNat a) (Int32.ofNat q) (Int32.ofNat (i + 1)) tg (Int32.ofNat n) ax kx kp s2
    have ha := (LayN.lt La).1
    have ha : a + (2 + r.length) ≤ f := ha
    by_cases c0 : q = i
    · rw [if_pos c0] at p1
      clear hit hti ht p2 hce E1 hl
      subst c0
      generalize r.length = sx at *
      unfold mf_318_360 mf_318_368 mf_318_371 mf_318_380 mf_318_397 mf_318_400
      simp (disch := omega) only [ev_S, ev_P, ↓reduceIte, Nat.reduceEqDiff, Nat.reduceLeDiff, Nat.reduceAdd, Nat.reduceMul, Nat.reduceSub, reduceCtorEq, l32_0, l32_1, l32_2, l32_3, l32_4, l32_5, l32_6, l32_7, l32_8, l32_9, l32_10, l32_11, l32_12, l32_13, l32_14, l32_15, l32_16, l32_17, l32_18, l32_19, l32_20, l32_21, l32_22, l32_23, l32_24, l32_25, l32_26, l32_27, l32_28, l32_29, l32_33, l32_40, l32_41, l32_44, l32_45, l32_59, l32_61, l32_91, l32_93, l32_123, l32_125, hsz, p1]
    · rw [if_neg c0] at p1
      have c1 : ¬ i = q := fun z => c0 z.symm
      generalize r[i] = ri at *
      clear hit hti ht p2 E1 hl
      generalize r.length = sx at *
      unfold mf_318_360 mf_318_368 mf_318_371 mf_318_385 mf_318_397 mf_318_400
      simp (disch := omega) only [ev_S, ev_P, ↓reduceIte, Nat.reduceEqDiff, Nat.reduceLeDiff, Nat.reduceAdd, Nat.reduceMul, Nat.reduceSub, reduceCtorEq, l32_0, l32_1, l32_2, l32_3, l32_4, l32_5, l32_6, l32_7, l32_8, l32_9, l32_10, l32_11, l32_12, l32_13, l32_14, l32_15, l32_16, l32_17, l32_18, l32_19, l32_20, l32_21, l32_22, l32_23, l32_24, l32_25, l32_26, l32_27, l32_28, l32_29, l32_33, l32_40, l32_41, l32_44, l32_45, l32_59, l32_61, l32_91, l32_93, l32_123, l32_125, hsz, p1, c1, hce, l32_166300]
  · intro F c P1
    have hsz : mf_77 N (Int32.ofNat a) c = some (c, some (.int (Int32.ofNat r.length))) := rG.size (N := N) P1 La (by omega)
    rw [List.take_of_length_le (by omega)] at P1
    obtain ⟨s2, b1, b2⟩ := rG.row (N := N) (s := s) (s' := c) (xs := []) (zs := r.set q vz) hN P1 (by show n + 0 + _ < 9000; omega) (by omega)
    have b1 : mf_306 N (Int32.ofNat n) c = some (s2, none) := b1
    rw [hl] at b2
    have b2 : rG s s2 n f (f + 2 + r.length) [nR (r.set q vz)] := b2
    have hv := b2.2.1 0 (Nat.zero_lt_one)
    have hv : rvl (s2.2.2.1 47) (f + 2 + r.length) (s2.2.2.1 49 n) (s2.2.2.1 50 n) (nR (r.set q vz)) := hv
    have hv1 := (hv.th (by show ¬ (1 : Nat) = 0; omega)).1
    rw [hv1] at hv
    refine ⟨s2, ?_, b2.pop, hv⟩
    show mf_318_360 N (mf_318_L12 N F) tg (Int32.ofNat n) ax kx kp vz (Int32.ofNat a) (Int32.ofNat q) (Int32.ofNat r.length) c = _
    clear P1 hl E1 b2 hv
    generalize r.length = sx at *
    unfold mf_318_360 mf_318_368 mf_318_406 mf_318_412
    simp (disch := omega) only [ev_S, ev_P, ↓reduceIte, Nat.reduceEqDiff, Nat.reduceLeDiff, Nat.reduceAdd, Nat.reduceMul, Nat.reduceSub, reduceCtorEq, l32_0, l32_1, l32_2, l32_3, l32_4, l32_5, l32_6, l32_7, l32_8, l32_9, l32_10, l32_11, l32_12, l32_13, l32_14, l32_15, l32_16, l32_17, l32_18, l32_19, l32_20, l32_21, l32_22, l32_23, l32_24, l32_25, l32_26, l32_27, l32_28, l32_29, l32_33, l32_40, l32_41, l32_44, l32_45, l32_59, l32_61, l32_91, l32_93, l32_123, l32_125, hsz, b1]
end PTL
