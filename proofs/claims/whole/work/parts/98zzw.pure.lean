/-! ===== PURE: run (152): a THING is laid on a shelf (the class): all kinds ===== -/
section WRS
variable {N : Nat} {X : Nat → Option zz_C} {t t' t1 t2 : cS} {u w σ j B : Nat} {ξ ζ : List Int32} {v : Int64} {x : Nod}
theorem flat_tk {sr : Nod → List Int32} {xs : List Nod} {i : Nat} (hi : i < xs.length) : (xs.take (i + 1)).flatMap sr = (xs.take i).flatMap sr ++ sr xs[i] := by
  rw [← List.take_append_getElem hi, List.flatMap_append]
  simp
theorem flat_le {sr : Nod → List Int32} {xs : List Nod} {i : Nat} : ((xs.take i).flatMap sr).length ≤ (xs.flatMap sr).length := by
  have : xs.flatMap sr = (xs.take i).flatMap sr ++ (xs.drop i).flatMap sr := by rw [← List.flatMap_append, List.take_append_drop]
  rw [this, List.length_append]
  omega
/-- parts, one after the other: call writes each of them -/
theorem c_wrL {rk : Nat → List Value → cS → kO} {call : Int64 → cS → kO} {k dp : Nat} {xs : List Nod} {sr : Nod → List Int32} (hk : (k = 2 ∧ call = (fun v => cf_221 N X σ (Int32.ofNat j) v)) ∨ (k = 3 ∧ call = (fun v => rk 220 [.ref σ, .int (Int32.ofNat j), .long v, .int (Int32.ofNat (dp + 1))]))) (hl : xs.length ≤ 20) (hxs : pts x = xs) (hx : cN (cel t1) u v x) (hc : ∀ y ∈ xs, wrP B σ j u w call y (sr y)) (hlen : ξ.length + (xs.flatMap sr).length ≤ 1300) : ∀ (d i q : Nat) (t2 : cS), i + d = xs.length → Wst B σ j t2 (ξ ++ (xs.take i).flatMap sr) u w → wfr σ j t1 t2 → ∃ t', cf_220_L4 N X rk (q + (d + 1)) 0 σ (Int32.ofNat j) v (Int32.ofNat dp) (Int32.ofNat k) (Int32.ofNat xs.length) (Int32.ofNat i) t2 = some (t', .inl none) ∧ Wst B σ j t' (ξ ++ xs.flatMap sr) u w ∧ wfr σ j t1 t' := by
  intro d
  induction d with
  | zero =>
    intro i q t2 hi W2 f2
    have hi : i = xs.length := hi
    subst hi
    rw [List.take_length] at W2
    refine ⟨t2, ?_, W2, f2⟩
    show cf_220_65 N X rk (cf_220_L4 N X rk q) σ (Int32.ofNat j) v (Int32.ofNat dp) (Int32.ofNat k) (Int32.ofNat xs.length) (Int32.ofNat xs.length) t2 = _
    unfold cf_220_65 cf_220_117
    simp (disch := omega) only [ev_S, ev_C, ↓reduceIte, Nat.reduceEqDiff, Nat.reduceLeDiff, Nat.reduceAdd, Nat.reduceMul, Nat.reduceSub, reduceCtorEq, l32_0, l32_1, l32_2, l32_3, l32_4, l32_5, l32_6, l32_7, l32_8, l32_9, l32_10, l32_11, l32_12, l32_13, l32_14, l32_15, l32_16, l32_17, l32_18, l32_19, l32_20, l32_21, l32_22, l32_23, l32_24, l32_25, l32_26, l32_27, l32_28, l32_29, l32_33, l32_40, l32_41, l32_44, l32_45, l32_59, l32_61, l32_91, l32_93, l32_123, l32_125]
  | succ d ih =>
    intro i q t2 hi W2 f2
    have hi1 : i < xs.length := by omega
    have hx2 : cN (cel t2) u v x := by rw [f2.ce]; exact hx
    have hip : i < (pts x).length := by rw [hxs]; exact hi1
    obtain ⟨v', p1, p2⟩ := c_part (N := N) (X := X) W2.2.2.2.1 hx2 hip
    have ep : (pts x)[i] = xs[i] := by simp only [hxs]
    rw [ep] at p2
    have hle := flat_le (sr := sr) (xs := xs) (i := i + 1)
    rw [flat_tk hi1, List.length_append] at hle
    obtain ⟨t3, b1, b2, b3⟩ := hc _ (List.getElem_mem hi1) t2 v' _ W2 p2 (by rw [List.length_append]; omega)
    rw [List.append_assoc, ← flat_tk hi1] at b2
    obtain ⟨t', c1, c2, c3⟩ := ih (i + 1) q t3 (by omega) b2 (f2.tr b3)
    refine ⟨t', ?_, c2, c3⟩
    rw [← c1]
    show cf_220_65 N X rk (cf_220_L4 N X rk (q + (d + 1))) σ (Int32.ofNat j) v (Int32.ofNat dp) (Int32.ofNat k) (Int32.ofNat xs.length) (Int32.ofNat i) t2 = _
    have n1 : ¬ xs.length ≤ i := by omega
    have kh := W2.1.1
    clear c1 c2 c3 b2 W2 ih hc hle hxs p2 ep
    generalize xs.length = xl at *
    rcases hk with ⟨rfl, rfl⟩ | ⟨rfl, rfl⟩
    · have b1 : cf_221 N X σ (Int32.ofNat j) v' t2 = some (t3, .inl none) := b1
      unfold cf_220_65 cf_220_72 cf_220_78 cf_220_88 cf_220_91 cf_220_111
      simp (disch := omega) only [ev_S, ev_C, ↓reduceIte, Nat.reduceEqDiff, Nat.reduceLeDiff, Nat.reduceAdd, Nat.reduceMul, Nat.reduceSub, reduceCtorEq, l32_0, l32_1, l32_2, l32_3, l32_4, l32_5, l32_6, l32_7, l32_8, l32_9, l32_10, l32_11, l32_12, l32_13, l32_14, l32_15, l32_16, l32_17, l32_18, l32_19, l32_20, l32_21, l32_22, l32_23, l32_24, l32_25, l32_26, l32_27, l32_28, l32_29, l32_33, l32_40, l32_41, l32_44, l32_45, l32_59, l32_61, l32_91, l32_93, l32_123, l32_125, n1, p1, kh, b1]
    · have b1 : rk 220 [.ref σ, .int (Int32.ofNat j), .long v', .int (Int32.ofNat (dp + 1))] t2 = some (t3, .inl none) := b1
      unfold cf_220_65 cf_220_72 cf_220_94 cf_220_104 cf_220_111
      simp (disch := omega) only [ev_S, ev_C, ↓reduceIte, Nat.reduceEqDiff, Nat.reduceLeDiff, Nat.reduceAdd, Nat.reduceMul, Nat.reduceSub, reduceCtorEq, l32_0, l32_1, l32_2, l32_3, l32_4, l32_5, l32_6, l32_7, l32_8, l32_9, l32_10, l32_11, l32_12, l32_13, l32_14, l32_15, l32_16, l32_17, l32_18, l32_19, l32_20, l32_21, l32_22, l32_23, l32_24, l32_25, l32_26, l32_27, l32_28, l32_29, l32_33, l32_40, l32_41, l32_44, l32_45, l32_59, l32_61, l32_91, l32_93, l32_123, l32_125, n1, p1, kh, b1]
theorem c_wrStep {rk : Nat → List Value → cS → kO} {dp : Nat} (hN : 170000 ≤ N) (hw : wfN x) (hdp : dp ≤ 4) (hc : ∀ m l, vw x = vP m l → ∀ y ∈ l, wrP B σ j u w (fun v => rk 220 [.ref σ, .int (Int32.ofNat j), .long v, .int (Int32.ofNat (dp + 1))]) ⟨m, y⟩ (ser m y)) : wrP B σ j u w (fun v => cf_220 N X rk σ (Int32.ofNat j) v (Int32.ofNat dp)) x (serN x) := by
  intro t v ξ H hx hl
  have hser : serN x = serV (vw x) := vw_ser x
  have hwv := vw_wf x hw
  have hkn := c_kn (N := N) (X := X) hx
  have hcn := fun (y : Nod) g u v (e : vw y = vw x) => cN_vw (g := g) (u := u) (v := v) e
  have hsz := fun (t1 : cS) (h1 : cHp t1 u w) (h2 : cN (cel t1) u v x) => c_sizeN (N := N) (X := X) h1 h2
  have hpt : ∀ V, vw x = V → pts x = ptsV V := fun V e => by unfold pts; rw [e]
  have kh := H.1.1
  rw [hser] at hl ⊢
  obtain ⟨V, hV⟩ : ∃ V, V = vw x := ⟨_, rfl⟩
  rw [← hV] at hl hwv ⊢
  obtain z | r | q | ⟨n, l⟩ := V
  · have hk0 : kn x = 0 := by
      show knV (vw x) = 0
      rw [← hV]; rfl
    have hiv : ivN x = z := by
      show (intV (vw x)).getD 0 = z
      rw [← hV]; rfl
    rw [hk0] at hkn
    have hl : ξ.length + 2 ≤ 1300 := hl
    obtain ⟨t1, a1, a2, a3⟩ := H.put (N := N) (X := X) (by omega) (Int32.ofNat 0)
    obtain ⟨t2, b1, b2, b3⟩ := a2.put (N := N) (X := X) (by rw [List.length_append, List.length_singleton]; omega) z
    have kh1 := a2.1.1
    have lo := c_lowOf (N := N) (X := X) (t := t1) (k := 0) (a := ivN x)
    rw [← hx.z hk0, hiv] at lo
    refine ⟨t2, ?_, by rw [List.append_assoc] at b2; exact b2, a3.tr b3⟩
    show cf_220 N X rk σ (Int32.ofNat j) v (Int32.ofNat dp) t = _
    unfold cf_220 cf_220_0 cf_220_4 cf_220_13 cf_220_24 cf_220_30 cf_220_33
    simp (disch := omega) only [ev_S, ev_C, ↓reduceIte, Nat.reduceEqDiff, Nat.reduceLeDiff, Nat.reduceAdd, Nat.reduceMul, Nat.reduceSub, reduceCtorEq, l32_0, l32_1, l32_2, l32_3, l32_4, l32_5, l32_6, l32_7, l32_8, l32_9, l32_10, l32_11, l32_12, l32_13, l32_14, l32_15, l32_16, l32_17, l32_18, l32_19, l32_20, l32_21, l32_22, l32_23, l32_24, l32_25, l32_26, l32_27, l32_28, l32_29, l32_33, l32_40, l32_41, l32_44, l32_45, l32_59, l32_61, l32_91, l32_93, l32_123, l32_125, hkn, kh, a1, lo, kh1, b1]
  · have hk1 : kn x = 1 := by
      show knV (vw x) = 1
      rw [← hV]; rfl
    rw [hk1] at hkn
    have hr : r.length ≤ 64 := hwv
    have hl : ξ.length + (r.length + 1 + 1) ≤ 1300 := hl
    obtain ⟨t1, a1, a2, a3⟩ := H.put (N := N) (X := X) (by omega) (Int32.ofNat 1)
    have kh1 := a2.1.1
    have hx1 : cN (cel t1) u v (nR r) := by
      rw [a3.ce]
      exact (hcn (nR r) _ _ _ hV).mpr hx
    obtain ⟨t2, b1, b2, b3⟩ := c_wrRow (N := N) (X := X) hN hr t1 v _ a2 hx1 (by rw [List.length_append, List.length_singleton]; show _ + (r.length + 1) ≤ _; omega)
    refine ⟨t2, ?_, by rw [List.append_assoc] at b2; exact b2, a3.tr b3⟩
    show cf_220 N X rk σ (Int32.ofNat j) v (Int32.ofNat dp) t = _
    have b1 : cf_221 N X σ (Int32.ofNat j) v t1 = some (t2, .inl none) := b1
    unfold cf_220 cf_220_0 cf_220_4 cf_220_13 cf_220_18 cf_220_34 cf_220_40 cf_220_47
    simp (disch := omega) only [ev_S, ev_C, ↓reduceIte, Nat.reduceEqDiff, Nat.reduceLeDiff, Nat.reduceAdd, Nat.reduceMul, Nat.reduceSub, reduceCtorEq, l32_0, l32_1, l32_2, l32_3, l32_4, l32_5, l32_6, l32_7, l32_8, l32_9, l32_10, l32_11, l32_12, l32_13, l32_14, l32_15, l32_16, l32_17, l32_18, l32_19, l32_20, l32_21, l32_22, l32_23, l32_24, l32_25, l32_26, l32_27, l32_28, l32_29, l32_33, l32_40, l32_41, l32_44, l32_45, l32_59, l32_61, l32_91, l32_93, l32_123, l32_125, hkn, kh, a1, hdp, kh1, b1]
  · have hk2 : kn x = 2 := by
      show knV (vw x) = 2
      rw [← hV]; rfl
    rw [hk2] at hkn
    obtain ⟨w1, w2, w3⟩ := (show q.length ≤ 20 ∧ (q.map List.length).sum ≤ 200 ∧ ∀ r ∈ q, r.length ≤ 64 from hwv)
    have ef : (q.map nR).flatMap (fun x => serRow (rvN x)) = q.flatMap serRow := by
      rw [List.flatMap_def, List.flatMap_def, List.map_map]
      rfl
    have hl : ξ.length + ((q.flatMap serRow).length + 1 + 1) ≤ 1300 := hl
    have elq : (q.map nR).length = q.length := List.length_map _
    have hpx : pts x = q.map nR := hpt _ hV.symm
    have hszq : szN x = q.length := by rw [← pts_len, hpx, elq]
    obtain ⟨t1, a1, a2, a3⟩ := H.put (N := N) (X := X) (by omega) (Int32.ofNat 2)
    have kh1 := a2.1.1
    have hx1 : cN (cel t1) u v x := by rw [a3.ce]; exact hx
    have sz := hsz t1 a2.2.2.2.1 hx1
    rw [hszq] at sz
    obtain ⟨t2, b1, b2, b3⟩ := a2.put (N := N) (X := X) (by rw [List.length_append, List.length_singleton]; omega) (Int32.ofNat q.length)
    have hx2 : cN (cel t2) u v x := by rw [b3.ce]; exact hx1
    obtain ⟨t3, c1, c2, c3⟩ := c_wrL (N := N) (X := X) (σ := σ) (j := j) (rk := rk) (k := 2) (dp := dp) (xs := q.map nR) (sr := fun x => serRow (rvN x)) (B := B) (w := w) (ξ := ξ ++ [Int32.ofNat 2] ++ [Int32.ofNat q.length]) (Or.inl ⟨rfl, rfl⟩) (by omega) hpx hx2 (fun y hy => by
      obtain ⟨r, hr, rfl⟩ := List.mem_map.mp hy
      exact c_wrRow hN (w3 r hr)) (by rw [ef, List.length_append, List.length_append, List.length_singleton, List.length_singleton]; omega) (q.map nR).length 0 (N - ((q.map nR).length + 1)) t2 (Nat.zero_add _) (by rw [List.take_zero, List.flatMap_nil, List.append_nil]; exact b2) wfr.rf
    rw [show N - ((q.map nR).length + 1) + ((q.map nR).length + 1) = N by omega, elq] at c1
    refine ⟨t3, ?_, ?_, (a3.tr b3).tr c3⟩
    · show cf_220 N X rk σ (Int32.ofNat j) v (Int32.ofNat dp) t = _
      clear c2 c3 b2 a2 H ef hl hpx hszq elq hsz hcn hpt
      generalize q.length = ql at *
      unfold cf_220 cf_220_0 cf_220_4 cf_220_13 cf_220_18 cf_220_34 cf_220_48 cf_220_53 cf_220_62
      simp (disch := omega) only [ev_S, ev_C, ↓reduceIte, Nat.reduceEqDiff, Nat.reduceLeDiff, Nat.reduceAdd, Nat.reduceMul, Nat.reduceSub, reduceCtorEq, l32_0, l32_1, l32_2, l32_3, l32_4, l32_5, l32_6, l32_7, l32_8, l32_9, l32_10, l32_11, l32_12, l32_13, l32_14, l32_15, l32_16, l32_17, l32_18, l32_19, l32_20, l32_21, l32_22, l32_23, l32_24, l32_25, l32_26, l32_27, l32_28, l32_29, l32_33, l32_40, l32_41, l32_44, l32_45, l32_59, l32_61, l32_91, l32_93, l32_123, l32_125, hkn, kh, a1, hdp, sz, kh1, b1, c1]
    · rw [ef, List.append_assoc, List.append_assoc] at c2
      exact c2
  · have hk3 : kn x = 3 := by
      show knV (vw x) = 3
      rw [← hV]; rfl
    rw [hk3] at hkn
    obtain ⟨w1, w2, w3⟩ := (show l.length ≤ 20 ∧ 1 + (l.map (bulk n)).sum ≤ 600 ∧ ∀ y ∈ l, wfT n y from hwv)
    have hl : ξ.length + ((l.flatMap (ser n)).length + 1 + 1) ≤ 1300 := hl
    have elq := nod_len (l := l)
    have hpx : pts x = l.map fun y => (⟨n, y⟩ : Nod) := hpt _ hV.symm
    have hszq : szN x = l.length := by rw [← pts_len, hpx, elq]
    obtain ⟨t1, a1, a2, a3⟩ := H.put (N := N) (X := X) (by omega) (Int32.ofNat 3)
    have kh1 := a2.1.1
    have hx1 : cN (cel t1) u v x := by rw [a3.ce]; exact hx
    have sz := hsz t1 a2.2.2.2.1 hx1
    rw [hszq] at sz
    obtain ⟨t2, b1, b2, b3⟩ := a2.put (N := N) (X := X) (by rw [List.length_append, List.length_singleton]; omega) (Int32.ofNat l.length)
    have hx2 : cN (cel t2) u v x := by rw [b3.ce]; exact hx1
    obtain ⟨t3, c1, c2, c3⟩ := c_wrL (N := N) (X := X) (σ := σ) (j := j) (rk := rk) (k := 3) (dp := dp) (xs := l.map fun y => (⟨n, y⟩ : Nod)) (sr := serN) (B := B) (w := w) (ξ := ξ ++ [Int32.ofNat 3] ++ [Int32.ofNat l.length]) (Or.inr ⟨rfl, rfl⟩) (by omega) hpx hx2 (fun y hy => by
      obtain ⟨r, hr, rfl⟩ := List.mem_map.mp hy
      exact hc n l hV.symm r hr) (by rw [flat_nod, List.length_append, List.length_append, List.length_singleton, List.length_singleton]; omega) (l.map fun y => (⟨n, y⟩ : Nod)).length 0 (N - ((l.map fun y => (⟨n, y⟩ : Nod)).length + 1)) t2 (Nat.zero_add _) (by rw [List.take_zero, List.flatMap_nil, List.append_nil]; exact b2) wfr.rf
    rw [show N - ((l.map fun y => (⟨n, y⟩ : Nod)).length + 1) + ((l.map fun y => (⟨n, y⟩ : Nod)).length + 1) = N by omega, elq] at c1
    refine ⟨t3, ?_, ?_, (a3.tr b3).tr c3⟩
    · show cf_220 N X rk σ (Int32.ofNat j) v (Int32.ofNat dp) t = _
      clear c2 c3 b2 a2 H hl hpx hszq elq hsz hcn hpt hc
      generalize l.length = ql at *
      unfold cf_220 cf_220_0 cf_220_4 cf_220_13 cf_220_18 cf_220_34 cf_220_48 cf_220_53 cf_220_62
      simp (disch := omega) only [ev_S, ev_C, ↓reduceIte, Nat.reduceEqDiff, Nat.reduceLeDiff, Nat.reduceAdd, Nat.reduceMul, Nat.reduceSub, reduceCtorEq, l32_0, l32_1, l32_2, l32_3, l32_4, l32_5, l32_6, l32_7, l32_8, l32_9, l32_10, l32_11, l32_12, l32_13, l32_14, l32_15, l32_16, l32_17, l32_18, l32_19, l32_20, l32_21, l32_22, l32_23, l32_24, l32_25, l32_26, l32_27, l32_28, l32_29, l32_33, l32_40, l32_41, l32_44, l32_45, l32_59, l32_61, l32_91, l32_93, l32_123, l32_125, hkn, kh, a1, hdp, sz, kh1, b1, c1]
    · rw [flat_nod, List.append_assoc, List.append_assoc] at c2
      exact c2
theorem c_wrThing (hN : 170000 ≤ N) : ∀ (n m dp : Nat) (x : Th n), wfT n x → dp + n ≤ 4 → wrP B σ j u w (fun v => cf_S5 N X (n + 1 + m) 220 [.ref σ, .int (Int32.ofNat j), .long v, .int (Int32.ofNat dp)]) ⟨n, x⟩ (ser n x) := by
  intro n
  induction n with
  | zero =>
    intro m dp x hw hd
    have e : 0 + 1 + m = (0 + m) + 1 := by omega
    rw [e]
    have key : wrP B σ j u w (fun v => cf_220 N X (cf_S5 N X (0 + m)) σ (Int32.ofNat j) v (Int32.ofNat dp)) ⟨0, x⟩ (ser 0 x) := by
      refine c_wrStep hN hw (by omega) (fun m' l hv y hy => ?_)
      obtain z | r | q := x <;> cases hv
    exact key
  | succ n ih =>
    intro m dp x hw hd
    have e : n + 1 + 1 + m = (n + 1 + m) + 1 := by omega
    rw [e]
    have key : wrP B σ j u w (fun v => cf_220 N X (cf_S5 N X (n + 1 + m)) σ (Int32.ofNat j) v (Int32.ofNat dp)) ⟨n + 1, x⟩ (ser (n + 1) x) := by
      refine c_wrStep hN hw (by omega) (fun m' l hv y hy => ?_)
      have hm : n = m' := by
        obtain p | l' := x
        · obtain z | r | q := p <;> cases hv
        · cases hv
          rfl
      subst hm
      obtain p | l' := x
      · obtain z | r | q := p <;> cases hv
      · cases hv
        exact ih m (dp + 1) y (hw.2.2 y hy) (by omega)
    exact key
/-- a THING is laid on a shelf -/
theorem c_layT (hN : 170000 ≤ N) (h0 : cS0 t σ) (hj : j < 8) (hh : cHp t u w) (hx : cN (cel t) u v x) (hw : wfN x) (hd : x.1 ≤ 4) (hB : kN t + 3300 < zz_out) : ∃ t', cf_216 N X σ (Int32.ofNat j) v t = some (t', .inl none) ∧ cS0 t' σ ∧ cS1 t' σ j (serN x) ∧ wfr σ j t t' ∧ cHp t' u w := by
  obtain ⟨z1, z2, z3, z4⟩ := c_zero (t := t) h0 hj
  have hT1 : ∃ t1, t1 = jA t (2000000 + 20 * σ + 10) (upd (kA t (2000000 + 20 * σ + 10)).2 j 0) := ⟨_, rfl⟩
  obtain ⟨t1, ht1⟩ := hT1
  rw [← ht1] at z1 z2 z3 z4
  have er : rwK t1 σ j = rwK t σ j := by
    unfold rwK
    rw [ht1]
    show (if 2000000 + 20 * σ + 1 + 1 + j = 2000000 + 20 * σ + 10 then _ else kA t _).1 = _
    rw [if_neg (by omega)]
  have eN : kN t1 = kN t := by rw [ht1]; rfl
  have eQ : kQ t1 = kQ t := by rw [ht1]; rfl
  have f1 : wfr σ j t t1 := ⟨z3, by rw [er, eN]; exact Nat.le_refl _, by rw [er, eQ]; exact Nat.le_refl _, by rw [er]; exact Nat.le_refl _⟩
  have hh1 := f1.hp hh (by rw [eN]; omega)
  have W1 : Wst (kN t) σ j t1 [] u w := ⟨z1, z2, by rw [eN]; exact Nat.le_add_right _ _, hh1, hB, hj⟩
  have hx1 : cN (cel t1) u v x := by rw [f1.ce]; exact hx
  obtain ⟨n, y⟩ := x
  have hd : n ≤ 4 := hd
  have hsl : (ser n y).length ≤ 1200 := by
    have h1 := ser_len n y
    have h2 := bulk_wf n y hw
    omega
  obtain ⟨t2, a1, a2, a3⟩ := c_wrThing (N := N) (X := X) (B := kN t) (σ := σ) (j := j) (u := u) (w := w) hN n (11 - n) 0 y hw (by omega) t1 v [] W1 hx1 (by show 0 + _ ≤ _; omega)
  have a1 : cf_S5 N X 12 220 [.ref σ, .int (Int32.ofNat j), .long v, .int (Int32.ofNat 0)] t1 = some (t2, .inl none) := by
    rw [show n + 1 + (11 - n) = 12 by omega] at a1
    exact a1
  have hkn := c_kn (N := N) (X := X) hx1
  have hk3 := kn_le (x := (⟨n, y⟩ : Nod))
  have kh := h0.1
  have kh1 := z1.1
  have l10 := h0.2.1
  refine ⟨t2, ?_, a2.1, ?_, f1.tr a3, a2.2.2.2.1⟩
  · have hcl : Int32.toNatClampNeg (Int32.ofNat j) = j := i32c (by omega)
    generalize kn (⟨n, y⟩ : Nod) = kq at *
    unfold cf_216 cf_216_0
    rw [if_pos kh, l10, hcl, if_pos (fun q => q.elim (i32n (by omega)) (by omega)), ← ht1, hkn]
    show cf_216_11 N X σ (Int32.ofNat j) v (Int32.ofNat kq) t1 = _
    unfold cf_216_11 cf_216_15 cf_216_23
    simp (disch := omega) only [ev_S, ev_C, ↓reduceIte, Nat.reduceEqDiff, Nat.reduceLeDiff, Nat.reduceAdd, Nat.reduceMul, Nat.reduceSub, reduceCtorEq, l32_0, l32_1, l32_2, l32_3, l32_4, l32_5, l32_6, l32_7, l32_8, l32_9, l32_10, l32_11, l32_12, l32_13, l32_14, l32_15, l32_16, l32_17, l32_18, l32_19, l32_20, l32_21, l32_22, l32_23, l32_24, l32_25, l32_26, l32_27, l32_28, l32_29, l32_33, l32_40, l32_41, l32_44, l32_45, l32_59, l32_61, l32_91, l32_93, l32_123, l32_125, kh1, a1]
  · have := a2.2.1
    rw [List.nil_append] at this
    exact this
/-- one that has nothing -/
theorem c_layB (h0 : cS0 t σ) (hj : j < 8) (hh : cHp t u w) (hB : kN t + 3300 < zz_out) : ∃ t', cf_216 N X σ (Int32.ofNat j) bare t = some (t', .inl none) ∧ cS0 t' σ ∧ cS1 t' σ j [] ∧ wfr σ j t t' ∧ cHp t' u w := by
  obtain ⟨z1, z2, z3, z4⟩ := c_zero (t := t) h0 hj
  have hT1 : ∃ t1, t1 = jA t (2000000 + 20 * σ + 10) (upd (kA t (2000000 + 20 * σ + 10)).2 j 0) := ⟨_, rfl⟩
  obtain ⟨t1, ht1⟩ := hT1
  rw [← ht1] at z1 z2 z3 z4
  have er : rwK t1 σ j = rwK t σ j := by
    unfold rwK
    rw [ht1]
    show (if 2000000 + 20 * σ + 1 + 1 + j = 2000000 + 20 * σ + 10 then _ else kA t _).1 = _
    rw [if_neg (by omega)]
  have eN : kN t1 = kN t := by rw [ht1]; rfl
  have eQ : kQ t1 = kQ t := by rw [ht1]; rfl
  have f1 : wfr σ j t t1 := ⟨z3, by rw [er, eN]; exact Nat.le_refl _, by rw [er, eQ]; exact Nat.le_refl _, by rw [er]; exact Nat.le_refl _⟩
  have hh1 := f1.hp hh (by rw [eN]; omega)
  have kh := h0.1
  have l10 := h0.2.1
  have ek : cf_255 N X bare t1 = some (t1, .inl (some (.int (-Int32.ofNat 1)))) := c_kindOf
  refine ⟨t1, ?_, z1, z2, f1, hh1⟩
  have hcl : Int32.toNatClampNeg (Int32.ofNat j) = j := i32c (by omega)
  unfold cf_216 cf_216_0
  rw [if_pos kh, l10, hcl, if_pos (fun q => q.elim (i32n (by omega)) (by omega)), ← ht1, ek]
  show cf_216_11 N X σ (Int32.ofNat j) bare (-Int32.ofNat 1) t1 = _
  unfold cf_216_11 cf_216_23
  simp (disch := omega) only [ev_S, ev_C, ↓reduceIte, Nat.reduceEqDiff, Nat.reduceLeDiff, Nat.reduceAdd, Nat.reduceMul, Nat.reduceSub, reduceCtorEq, l32_0, l32_1, l32_2, l32_3, l32_4, l32_5, l32_6, l32_7, l32_8, l32_9, l32_10, l32_11, l32_12, l32_13, l32_14, l32_15, l32_16, l32_17, l32_18, l32_19, l32_20, l32_21, l32_22, l32_23, l32_24, l32_25, l32_26, l32_27, l32_28, l32_29, l32_33, l32_40, l32_41, l32_44, l32_45, l32_59, l32_61, l32_91, l32_93, l32_123, l32_125]
end WRS
