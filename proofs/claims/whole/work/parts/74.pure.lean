/-! ===== PURE: the class reads a THING ===== -/
section RDT
variable {N : Nat} {X : Nat → Option zz_C} {σ j : Nat} {ξ : List Int32}
/-- parts, one after the other: call reads each of them -/
theorem c_thingL {rk : Nat → List Value → cS → kO} {call : cS → kO} {k dp f W : Nat} {xs : List Nod} {sr : Nod → List Int32} (hk : k = 2 ∧ call = cf_218 N X σ (Int32.ofNat j) ∨ k = 3 ∧ call = rk 217 [.ref σ, .int (Int32.ofNat j), .int (Int32.ofNat (dp + 1))]) (hl : xs.length ≤ 20) (hf : f + 20 ≤ W) (hW : W ≤ 60000) (hc : ∀ x ∈ xs, rdP σ j ξ call x (sr x) W) : ∀ (d i q : Nat) (t : cS) (u p : Nat) (rest : List Int32), i + d = xs.length → cRd t σ j ξ p → cHp t u (f + i) → ξ.drop p = (xs.drop i).flatMap sr ++ rest → u + 4 * ((xs.drop i).map bulkN).sum ≤ 162000 → reps (cel t) u (prt t) f (xs.take i) → ∃ t' u', cf_217_L5 N X rk (q + (d + 1)) 0 σ (Int32.ofNat j) (Int32.ofNat dp) (Int32.ofNat k) (Int32.ofNat f) (Int32.ofNat xs.length) (Int32.ofNat i) t = cf_217_97 N X rk (Int32.ofNat k) (Int32.ofNat f) t' ∧ cRd t' σ j ξ (p + ((xs.drop i).flatMap sr).length) ∧ ξ.drop (p + ((xs.drop i).flatMap sr).length) = rest ∧ cHp t' u' (f + xs.length) ∧ reps (cel t') u' (prt t') f xs ∧ rfr σ t t' ∧ u ≤ u' ∧ u' + d ≤ u + 4 * ((xs.drop i).map bulkN).sum ∧ (∀ y, y < u → cel t' y = cel t y) ∧ (∀ y, y < f → prt t' y = prt t y) := by
  intro d
  induction d with
  | zero =>
    intro i q t u p rest hi h1 h2 h3 h4 h5
    have hi : i = xs.length := hi
    subst hi
    rw [List.drop_length] at h3 ⊢
    rw [List.take_length] at h5
    refine ⟨t, u, ?_, h1, h3, h2, h5, rfr.rf, Nat.le_refl _, Nat.le_add_right _ _, fun _ _ => rfl, fun _ _ => rfl⟩
    show cf_217_56 N X rk (cf_217_L5 N X rk q) σ (Int32.ofNat j) (Int32.ofNat dp) (Int32.ofNat k) (Int32.ofNat f) (Int32.ofNat xs.length) (Int32.ofNat xs.length) t = _
    unfold cf_217_56
    simp (disch := omega) only [ev_S, ev_C, ↓reduceIte, Nat.reduceEqDiff, Nat.reduceLeDiff, Nat.reduceAdd, Nat.reduceMul, Nat.reduceSub, reduceCtorEq, l32_0, l32_1, l32_2, l32_3, l32_4, l32_5, l32_6, l32_7, l32_8, l32_9, l32_10, h2]
  | succ d ih =>
    intro i q t u p rest hi h1 h2 h3 h4 h5
    have hi1 : i < xs.length := by omega
    have hm := List.getElem_mem hi1
    rw [List.drop_eq_getElem_cons hi1] at h3 h4 ⊢
    rw [List.flatMap_cons, List.append_assoc] at h3
    rw [List.map_cons, List.sum_cons] at h4 ⊢
    obtain ⟨t1, v, u1, a1, a2, a3, a4, a5, a6, a7, a8, a9, a10⟩ := hc _ hm t u (f + i) p _ h1 h2 h3 (by omega) (by omega)
    obtain ⟨t2, b1, b2, b3, b4, b5, b6⟩ := c_put1 (N := N) (X := X) (v := v) a3 (by omega)
    have e43 : cel t2 = cel t1 := congrArg Prod.snd b4
    have g1 := h1.1.1
    obtain ⟨t', u', k1, k2, k3, k4, k5, k6, k7, k8, k9, k10⟩ := ih (i + 1) q t2 u1 (p + (sr xs[i]).length) rest (by omega) (a5.keep b3) b2 a6 (by omega) (fun m hm => by
      have hm' : m < i + 1 := by
        rw [List.length_take] at hm
        omega
      rw [List.getElem_take, e43]
      by_cases c : m = i
      · subst c
        rw [b5]
        exact a2
      · rw [b6 _ (by omega), a10 _ (by omega)]
        have := h5 m (by rw [List.length_take]; omega)
        rw [List.getElem_take] at this
        exact this.mono a9 a7)
    refine ⟨t', u', ?_, ?_, ?_, k4, k5, rfr.tr (rfr.tr a4 (rfr.of b3)) k6, by omega, by omega, fun y hy => (k9 y (by omega)).trans ((congrFun e43 y).trans (a9 y hy)), fun y hy => (k10 y hy).trans ((b6 y (by omega)).trans (a10 y (by omega)))⟩
    · rw [← k1]
      show cf_217_56 N X rk (cf_217_L5 N X rk (q + (d + 1))) σ (Int32.ofNat j) (Int32.ofNat dp) (Int32.ofNat k) (Int32.ofNat f) (Int32.ofNat xs.length) (Int32.ofNat i) t = _
      rcases hk with ⟨rfl, rfl⟩ | ⟨rfl, rfl⟩
      · repeat ((first | unfold cf_217 | unfold cf_217_0 | unfold cf_217_5 | unfold cf_217_12 | unfold cf_217_17 | unfold cf_217_23 | unfold cf_217_26 | unfold cf_217_27 | unfold cf_217_33 | unfold cf_217_39 | unfold cf_217_40 | unfold cf_217_44 | unfold cf_217_51 | unfold cf_217_56 | unfold cf_217_63 | unfold cf_217_70 | unfold cf_217_76 | unfold cf_217_79 | unfold cf_217_88 | unfold cf_217_91 | unfold cf_217_97 | unfold cf_217_105); try simp (disch := omega) only [ev_S, ev_C, ↓reduceIte, Nat.reduceEqDiff, Nat.reduceLeDiff, Nat.reduceAdd, Nat.reduceMul, Nat.reduceSub, reduceCtorEq, l32_0, l32_1, l32_2, l32_3, l32_4, l32_7, g1, a1, b1])
      · repeat ((first | unfold cf_217 | unfold cf_217_0 | unfold cf_217_5 | unfold cf_217_12 | unfold cf_217_17 | unfold cf_217_23 | unfold cf_217_26 | unfold cf_217_27 | unfold cf_217_33 | unfold cf_217_39 | unfold cf_217_40 | unfold cf_217_44 | unfold cf_217_51 | unfold cf_217_56 | unfold cf_217_63 | unfold cf_217_70 | unfold cf_217_76 | unfold cf_217_79 | unfold cf_217_88 | unfold cf_217_91 | unfold cf_217_97 | unfold cf_217_105); try simp (disch := omega) only [ev_S, ev_C, ↓reduceIte, Nat.reduceEqDiff, Nat.reduceLeDiff, Nat.reduceAdd, Nat.reduceMul, Nat.reduceSub, reduceCtorEq, l32_0, l32_1, l32_2, l32_3, l32_4, l32_7, g1, a1, b1])
    · rw [List.flatMap_cons, List.length_append, ← Nat.add_assoc]
      exact k2
    · rw [List.flatMap_cons, List.length_append, ← Nat.add_assoc]
      exact k3
theorem sum_nod {n : Nat} {l : List (Th n)} : ((l.map fun y => (⟨n, y⟩ : Nod)).map bulkN).sum = (l.map (bulk n)).sum := by
  rw [List.map_map]
  rfl
theorem flat_nod {n : Nat} {l : List (Th n)} : (l.map fun y => (⟨n, y⟩ : Nod)).flatMap serN = l.flatMap (ser n) := by
  rw [List.flatMap_def, List.flatMap_def, List.map_map]
  rfl
theorem nod_len {n : Nat} {l : List (Th n)} : (l.map fun y => (⟨n, y⟩ : Nod)).length = l.length := List.length_map _
/-- one reading, by what the THING is -/
theorem c_readStep {rk : Nat → List Value → cS → kO} {n dp W : Nat} {x : Nod} (hN : 170000 ≤ N) (hw : wfN x) (hd : dN x ≤ 4) (hdp : dp ≤ 4) (hW : W + 20 ≤ 60000) (hc : ∀ m l, vw x = vP m l → dp < 4 → ∀ y ∈ l, rdP σ j ξ (rk 217 [.ref σ, .int (Int32.ofNat j), .int (Int32.ofNat (dp + 1))]) ⟨m, y⟩ (ser m y) (W + 20)) (hdp2 : kdN x = 3 → dp < 4) : rdP σ j ξ (cf_217 N X rk σ (Int32.ofNat j) (Int32.ofNat dp)) x (serN x) W := by
  intro t u w p rest h1 h2 h3 hwW hu
  have g1 := h1.1.1
  have hmk := fun k h1 h2 h3 => mk_pts (x := x) (k := k) hw hd h1 h2 h3
  have hwv := vw_wf x hw
  have hds := hd
  have hbk := vw_bulk x
  have hcn := fun (y : Nod) g u v (e : vw y = vw x) => cN_vw (g := g) (u := u) (v := v) e
  have hser : serN x = serV (vw x) := vw_ser x
  have hk2 : kdV (vw x) = 3 → dp < 4 := hdp2
  have hcd := fun (m : Nat) (l : List (Th m)) (e : vw x = vP m l) => dN_P e
  have hmk : ∀ k : Nat, kdV (vw x) = Int32.ofNat k → 1 ≤ k → k ≤ 3 → mkOk k (ptsV (vw x)) ∧ ∃ y, mk k (ptsV (vw x)) = some y ∧ ∀ g u v, cN g u v y ↔ cN g u v x := hmk
  rw [hser] at h3 ⊢
  generalize vw x = V at *
  obtain z | r | q | ⟨n, l⟩ := V
  · have h3 : ξ.drop p = 0 :: z :: rest := h3
    obtain ⟨n1, n2, n3⟩ := c_next (N := N) (X := X) h1 h3
    obtain ⟨m1, m2, m3⟩ := c_next (N := N) (X := X) n2 n3
    have g2 := n2.1.1
    have hbk : bulkN x = 1 := hbk
    refine ⟨_, tg 0 z, u, ?_, ?_, cHp_ix (by omega) (cHp_ix (by omega) h2), rfr.tr rfr.ix rfr.ix, m2, m3, Nat.le_refl _, by omega, fun _ _ => rfl, fun _ _ => rfl⟩
    · repeat ((first | unfold cf_217 | unfold cf_217_0 | unfold cf_217_5 | unfold cf_217_12 | unfold cf_217_17 | unfold cf_217_23 | unfold cf_217_26 | unfold cf_217_27 | unfold cf_217_33 | unfold cf_217_39 | unfold cf_217_40 | unfold cf_217_44 | unfold cf_217_51 | unfold cf_217_56 | unfold cf_217_63 | unfold cf_217_70 | unfold cf_217_76 | unfold cf_217_79 | unfold cf_217_88 | unfold cf_217_91 | unfold cf_217_97 | unfold cf_217_105); try simp (disch := omega) only [ev_S, ev_C, ↓reduceIte, Nat.reduceEqDiff, Nat.reduceLeDiff, Nat.reduceAdd, Nat.reduceMul, Nat.reduceSub, reduceCtorEq, l32_0, l32_1, l32_2, l32_3, l32_4, l32_7, g1, n1, m1, g2, c_thing])
    · exact (hcn (nZ z) _ _ _ rfl).mp rfl
  · have h3 : ξ.drop p = 1 :: (serRow r ++ rest) := h3
    have hr : r.length ≤ 64 := hwv
    have hbk : bulkN x = 1 + r.length := hbk
    obtain ⟨n1, n2, n3⟩ := c_next (N := N) (X := X) h1 h3
    have g2 := n2.1.1
    obtain ⟨t', v, u', a1, a2, a3, a4, a5, a6, a7, a8, a9, a10⟩ := c_readRow (N := N) (X := X) hN hr _ u w (p + 1) rest n2 (cHp_ix (by omega) h2) n3 (by omega) (by show u + 4 * (1 + r.length) ≤ _; omega)
    have a8 : u' + 1 ≤ u + 4 * (1 + r.length) := a8
    have el : p + (serV (vR r)).length = p + 1 + (serRow r).length := by
      show p + (r.length + 1 + 1) = p + 1 + (r.length + 1)
      omega
    refine ⟨t', v, u', ?_, (hcn (nR r) _ _ _ rfl).mp a2, a3, rfr.tr rfr.ix a4, by rw [el]; exact a5, by rw [el]; exact a6, a7, by omega, a9, a10⟩
    repeat ((first | unfold cf_217 | unfold cf_217_0 | unfold cf_217_5 | unfold cf_217_12 | unfold cf_217_17 | unfold cf_217_23 | unfold cf_217_26 | unfold cf_217_27 | unfold cf_217_33 | unfold cf_217_39 | unfold cf_217_40 | unfold cf_217_44 | unfold cf_217_51 | unfold cf_217_56 | unfold cf_217_63 | unfold cf_217_70 | unfold cf_217_76 | unfold cf_217_79 | unfold cf_217_88 | unfold cf_217_91 | unfold cf_217_97 | unfold cf_217_105); try simp (disch := omega) only [ev_S, ev_C, ↓reduceIte, Nat.reduceEqDiff, Nat.reduceLeDiff, Nat.reduceAdd, Nat.reduceMul, Nat.reduceSub, reduceCtorEq, l32_0, l32_1, l32_2, l32_3, l32_4, l32_7, g1, n1, a1, g2])
  · have h3 : ξ.drop p = 2 :: Int32.ofNat q.length :: (q.flatMap serRow ++ rest) := h3
    have hbk : bulkN x = 1 + (q.map fun r => 1 + r.length).sum := hbk
    obtain ⟨w1, w2, w3⟩ := (show q.length ≤ 20 ∧ (q.map List.length).sum ≤ 200 ∧ ∀ r ∈ q, r.length ≤ 64 from hwv)
    obtain ⟨hok, y0, em, ey⟩ := hmk 2 rfl (by omega) (by omega)
    have hok : mkOk 2 (q.map nR) := hok
    have em : mk 2 (q.map nR) = some y0 := em
    obtain ⟨n1, n2, n3⟩ := c_next (N := N) (X := X) h1 h3
    obtain ⟨m1, m2, m3⟩ := c_next (N := N) (X := X) n2 n3
    have g2 := n2.1.1
    have g3 := m2.1.1
    have c2 := c_gathered (N := N) (X := X) (cHp_ix (k := 3000000 + σ) (f := 2) (x := Int32.ofNat (p + 1)) (by omega) h2)
    have eb : ((q.map nR).map bulkN).sum = (q.map fun r => 1 + r.length).sum := by
      rw [List.map_map]
      rfl
    have ef : (q.map nR).flatMap (fun x => serRow (rvN x)) = q.flatMap serRow := by
      rw [List.flatMap_def, List.flatMap_def, List.map_map]
      rfl
    have elq : (q.map nR).length = q.length := List.length_map _
    obtain ⟨t1, u1, a1, a2, a3, a4, a5, a6, a7, a8, a9, a10⟩ := c_thingL (N := N) (X := X) (σ := σ) (j := j) (ξ := ξ) (rk := rk) (k := 2) (dp := dp) (f := w) (W := W + 20) (xs := q.map nR) (sr := fun x => serRow (rvN x)) (Or.inl ⟨rfl, rfl⟩) (by omega) (by omega) hW (fun x hx => by
      obtain ⟨r, hr, rfl⟩ := List.mem_map.mp hx
      intro t u w p rest b1 b2 b3 b4 b5
      exact c_readRow hN (w3 r hr) t u w p rest b1 b2 b3 (by omega) b5) (q.map nR).length 0 (N - ((q.map nR).length + 1)) _ u (p + 1 + 1) rest (Nat.zero_add _) m2 (cHp_ix (by omega) (cHp_ix (by omega) h2)) (by rw [List.drop_zero, ef]; exact m3) (by rw [List.drop_zero, eb]; omega) (fun m hm => by rw [List.take_zero] at hm; exact absurd hm (Nat.not_lt_zero _))
    rw [show N - ((q.map nR).length + 1) + ((q.map nR).length + 1) = N by omega, elq] at a1
    rw [List.drop_zero, ef] at a2 a3
    rw [List.drop_zero, eb] at a8
    rcases c_build (N := N) (X := X) (k := 2) (xs := q.map nR) (t := t1) (u := u1) (f := w) hN hok a4 a5 (fun x hx => by
      obtain ⟨r, hr, rfl⟩ := List.mem_map.mp hx
      exact w3 r hr) (fun x hx => by
      obtain ⟨r, hr, rfl⟩ := List.mem_map.mp hx
      exact Nat.zero_le _) (by omega) (by omega) (by omega) with ⟨y, m1', t', v, c1, ⟨d1, d2, d3, d4, d5⟩, c3⟩ | ⟨m1', -⟩
    · rw [em] at m1'
      cases m1'
      have el : p + (serV (vT q)).length = p + 1 + 1 + (q.flatMap serRow).length := by
        show p + ((q.flatMap serRow).length + 1 + 1) = _
        omega
      refine ⟨t', v, u1 + 2 + (q.map nR).length, ?_, (ey _ _ _).mp c3, d1, rfr.tr (rfr.tr (rfr.tr rfr.ix rfr.ix) a6) (rfr.of d2), by rw [el]; exact a2.keep d2, by rw [el]; exact a3, by omega, by omega, fun y hy => (d4 y (by omega)).trans (a9 y hy), fun y hy => (d5 y hy).trans (a10 y hy)⟩
      repeat ((first | unfold cf_217 | unfold cf_217_0 | unfold cf_217_5 | unfold cf_217_12 | unfold cf_217_17 | unfold cf_217_23 | unfold cf_217_26 | unfold cf_217_27 | unfold cf_217_33 | unfold cf_217_39 | unfold cf_217_40 | unfold cf_217_44 | unfold cf_217_51 | unfold cf_217_56 | unfold cf_217_63 | unfold cf_217_70 | unfold cf_217_76 | unfold cf_217_79 | unfold cf_217_88 | unfold cf_217_91 | unfold cf_217_97 | unfold cf_217_105); try simp (disch := omega) only [ev_S, ev_C, ↓reduceIte, Nat.reduceEqDiff, Nat.reduceLeDiff, Nat.reduceAdd, Nat.reduceMul, Nat.reduceSub, reduceCtorEq, l32_0, l32_1, l32_2, l32_3, l32_4, l32_7, g1, n1, c2, g2, m1, a1, c1])
    · rw [em] at m1'
      cases m1'
  · have h3 : ξ.drop p = 3 :: Int32.ofNat l.length :: (l.flatMap (ser n) ++ rest) := h3
    have hbk : bulkN x = 1 + (l.map (bulk n)).sum := hbk
    obtain ⟨w1, w2, w3⟩ := (show l.length ≤ 20 ∧ 1 + (l.map (bulk n)).sum ≤ 600 ∧ ∀ y ∈ l, wfT n y from hwv)
    obtain ⟨hok, y0, em, ey⟩ := hmk 3 rfl (by omega) (by omega)
    have em : mk 3 (l.map fun y => (⟨n, y⟩ : Nod)) = some y0 := em
    have hdp := hk2 rfl
    have hdl := hcd n l rfl
    obtain ⟨n1, n2, n3⟩ := c_next (N := N) (X := X) h1 h3
    obtain ⟨m1, m2, m3⟩ := c_next (N := N) (X := X) n2 n3
    have g2 := n2.1.1
    have g3 := m2.1.1
    have c2 := c_gathered (N := N) (X := X) (cHp_ix (k := 3000000 + σ) (f := 2) (x := Int32.ofNat (p + 1)) (by omega) h2)
    have elq := nod_len (l := l)
    obtain ⟨t1, u1, a1, a2, a3, a4, a5, a6, a7, a8, a9, a10⟩ := c_thingL (N := N) (X := X) (σ := σ) (j := j) (ξ := ξ) (rk := rk) (k := 3) (dp := dp) (f := w) (W := W + 20) (xs := l.map fun y => (⟨n, y⟩ : Nod)) (sr := serN) (Or.inr ⟨rfl, rfl⟩) (by omega) (by omega) hW (fun x hx => by
      obtain ⟨r, hr, rfl⟩ := List.mem_map.mp hx
      exact hc n l rfl hdp r hr) (l.map fun y => (⟨n, y⟩ : Nod)).length 0 (N - ((l.map fun y => (⟨n, y⟩ : Nod)).length + 1)) _ u (p + 1 + 1) rest (Nat.zero_add _) m2 (cHp_ix (by omega) (cHp_ix (by omega) h2)) (by rw [List.drop_zero, flat_nod]; exact m3) (by rw [List.drop_zero, sum_nod]; omega) (fun m hm => by rw [List.take_zero] at hm; exact absurd hm (Nat.not_lt_zero _))
    rw [show N - ((l.map fun y => (⟨n, y⟩ : Nod)).length + 1) + ((l.map fun y => (⟨n, y⟩ : Nod)).length + 1) = N by omega, elq] at a1
    rw [List.drop_zero, flat_nod] at a2 a3
    rw [List.drop_zero, sum_nod] at a8
    rcases c_build (N := N) (X := X) (k := 3) (xs := l.map fun y => (⟨n, y⟩ : Nod)) (t := t1) (u := u1) (f := w) hN hok a4 a5 (fun x hx => by
      obtain ⟨r, hr, rfl⟩ := List.mem_map.mp hx
      exact w3 r hr) (fun x hx => by
      obtain ⟨r, hr, rfl⟩ := List.mem_map.mp hx
      have : mxL (l.map (dT n)) ≤ 4 := by omega
      exact mxL_le.mp this _ (List.mem_map.mpr ⟨r, hr, rfl⟩)) (by omega) (by omega) (by omega) with ⟨y, m1', t', v, c1, ⟨d1, d2, d3, d4, d5⟩, c3⟩ | ⟨m1', -⟩
    · rw [em] at m1'
      cases m1'
      have el : p + (serV (vP n l)).length = p + 1 + 1 + (l.flatMap (ser n)).length := by
        show p + ((l.flatMap (ser n)).length + 1 + 1) = _
        omega
      refine ⟨t', v, u1 + 3 + (l.map fun y => (⟨n, y⟩ : Nod)).length, ?_, (ey _ _ _).mp c3, d1, rfr.tr (rfr.tr (rfr.tr rfr.ix rfr.ix) a6) (rfr.of d2), by rw [el]; exact a2.keep d2, by rw [el]; exact a3, by omega, by omega, fun y hy => (d4 y (by omega)).trans (a9 y hy), fun y hy => (d5 y hy).trans (a10 y hy)⟩
      repeat ((first | unfold cf_217 | unfold cf_217_0 | unfold cf_217_5 | unfold cf_217_12 | unfold cf_217_17 | unfold cf_217_23 | unfold cf_217_26 | unfold cf_217_27 | unfold cf_217_33 | unfold cf_217_39 | unfold cf_217_40 | unfold cf_217_44 | unfold cf_217_51 | unfold cf_217_56 | unfold cf_217_63 | unfold cf_217_70 | unfold cf_217_76 | unfold cf_217_79 | unfold cf_217_88 | unfold cf_217_91 | unfold cf_217_97 | unfold cf_217_105); try simp (disch := omega) only [ev_S, ev_C, ↓reduceIte, Nat.reduceEqDiff, Nat.reduceLeDiff, Nat.reduceAdd, Nat.reduceMul, Nat.reduceSub, reduceCtorEq, l32_0, l32_1, l32_2, l32_3, l32_4, l32_7, g1, n1, c2, g2, m1, a1, c1])
    · rw [em] at m1'
      cases m1'
theorem c_readThing (hN : 170000 ≤ N) : ∀ (n m dp : Nat) (x : Th n), wfT n x → dp + n ≤ 4 → rdP σ j ξ (cf_S4 N X (n + 1 + m) 217 [.ref σ, .int (Int32.ofNat j), .int (Int32.ofNat dp)]) ⟨n, x⟩ (ser n x) (50000 - 100 * n) := by
  intro n
  induction n with
  | zero =>
    intro m dp x hw hd
    have e : 0 + 1 + m = (0 + m) + 1 := by omega
    rw [e]
    have key : rdP σ j ξ (cf_217 N X (cf_S4 N X (0 + m)) σ (Int32.ofNat j) (Int32.ofNat dp)) ⟨0, x⟩ (ser 0 x) (50000 - 100 * 0) := by
      refine c_readStep (n := 0) hN hw (Nat.zero_le _) (by omega) (by omega) (fun m' l hv hdp y hy => ?_) (fun hk => ?_)
      · obtain z | r | q := x <;> cases hv
      · obtain z | r | q := x
        · exact absurd hk (show ¬ (0 : Int32) = 3 by decide)
        · exact absurd hk (show ¬ (1 : Int32) = 3 by decide)
        · exact absurd hk (show ¬ (2 : Int32) = 3 by decide)
    exact key
  | succ n ih =>
    intro m dp x hw hd
    have e : n + 1 + 1 + m = (n + 1 + m) + 1 := by omega
    rw [e]
    have key : rdP σ j ξ (cf_217 N X (cf_S4 N X (n + 1 + m)) σ (Int32.ofNat j) (Int32.ofNat dp)) ⟨n + 1, x⟩ (ser (n + 1) x) (50000 - 100 * (n + 1)) := by
      refine c_readStep (n := n + 1) hN hw (Nat.le_trans (dT_le (n + 1) x) (by omega)) (by omega) (by omega) (fun m' l hv hdp y hy => ?_) (fun hk => by omega)
      have hm : n = m' := by
        obtain p | l' := x
        · obtain z | r | q := p <;> cases hv
        · cases hv
          rfl
      subst hm
      obtain p | l' := x
      · obtain z | r | q := p <;> cases hv
      · cases hv
        have := ih m (dp + 1) y (hw.2.2 y hy) (by omega)
        intro t u w p rest b1 b2 b3 b4 b5
        exact this t u w p rest b1 b2 b3 (by omega) b5
    exact key
end RDT
