/-! ===== PURE: run (112): a call begins (the reference) ===== -/
section ENR
variable {N : Nat} {s0 s s1 s2 : mS} {f p h fu m m' d d' n k fi : Nat} {code : List Ins} {Fs : List Fn} {T : Ty} {out : List Int32} {G F : List Fm} {sh : Nat → Option Nod} {vs : List (Option Nod)} {I' J : List It} {q x1 bk : Int32} {xs : List Nod}
/-- the variables are laid -/
theorem r_vars (hN : 170000 ≤ N) {D nb r : Nat} (h73 : s.1 73 = Int32.ofNat D) (hD : D ≤ 9) (hnb : nb + r < 9000) (hr : r ≤ 14) : ∃ s2, mf_310_L4 N N 0 x1 (Int32.ofNat r) bk (Int32.ofNat nb) (Int32.ofNat 0) s = mf_310_114 N x1 bk (Int32.ofNat nb) s2 ∧ s2.1 = s.1 ∧ s2.2.1 = s.2.1 ∧ s2.2.2.2 = s.2.2.2 ∧ (∀ q, ¬ q = 77 → ¬ q = 78 → s2.2.2.1 q = s.2.2.1 q) ∧ (∀ v, v < 14 → s2.2.2.1 77 (14 * D + v) = (if v < r then s.2.2.1 49 (nb + v) else Int32.ofNat 2) ∧ s2.2.2.1 78 (14 * D + v) = (if v < r then s.2.2.1 50 (nb + v) else Int32.ofNat 0)) ∧ ∀ y, y < 14 * D → s2.2.2.1 77 y = s.2.2.1 77 y ∧ s2.2.2.1 78 y = s.2.2.1 78 y := by
  refine lp (fun F i (c : mS) => mf_310_L4 N F 0 x1 (Int32.ofNat r) bk (Int32.ofNat nb) (Int32.ofNat i) c) 14 (fun i c => c.1 = s.1 ∧ c.2.1 = s.2.1 ∧ c.2.2.2 = s.2.2.2 ∧ (∀ q, ¬ q = 77 → ¬ q = 78 → c.2.2.1 q = s.2.2.1 q) ∧ (∀ v, v < i → c.2.2.1 77 (14 * D + v) = (if v < r then s.2.2.1 49 (nb + v) else Int32.ofNat 2) ∧ c.2.2.1 78 (14 * D + v) = (if v < r then s.2.2.1 50 (nb + v) else Int32.ofNat 0)) ∧ ∀ y, y < 14 * D → c.2.2.1 77 y = s.2.2.1 77 y ∧ c.2.2.1 78 y = s.2.2.1 78 y) (fun R => ∃ s2, R = mf_310_114 N x1 bk (Int32.ofNat nb) s2 ∧ s2.1 = s.1 ∧ s2.2.1 = s.2.1 ∧ s2.2.2.2 = s.2.2.2 ∧ (∀ q, ¬ q = 77 → ¬ q = 78 → s2.2.2.1 q = s.2.2.1 q) ∧ (∀ v, v < 14 → s2.2.2.1 77 (14 * D + v) = (if v < r then s.2.2.1 49 (nb + v) else Int32.ofNat 2) ∧ s2.2.2.1 78 (14 * D + v) = (if v < r then s.2.2.1 50 (nb + v) else Int32.ofNat 0)) ∧ ∀ y, y < 14 * D → s2.2.2.1 77 y = s.2.2.1 77 y ∧ s2.2.2.1 78 y = s.2.2.1 78 y) ?_ ?_ 14 0 N s (by omega) (by omega) ⟨rfl, rfl, rfl, fun _ _ _ => rfl, fun v hv => by omega, fun _ _ => ⟨rfl, rfl⟩⟩
  · intro F i c hi hP _
    obtain ⟨p1, p2, p3, p4, p5, p6⟩ := hP
    left
    have c73 : c.1 73 = Int32.ofNat D := by rw [p1]; exact h73
    have ix : Int32.ofNat 14 * Int32.ofNat D + Int32.ofNat i = Int32.ofNat (14 * D + i) := by rw [i32mul, i32add]
    have hix : 14 * D + i < 140 := by omega
    have n14 : ¬ 14 ≤ i := by omega
    have step : ∀ k v, mf_310_L4 N (F + 1) 0 x1 (Int32.ofNat r) bk (Int32.ofNat nb) (Int32.ofNat i) c = mf_310_L4 N F 0 x1 (Int32.ofNat r) bk (Int32.ofNat nb) (Int32.ofNat (i + 1)) (mA (mA c 77 (upd (c.2.2.1 77) (14 * D + i) k)) 78 (upd (c.2.2.1 78) (14 * D + i) v)) → k = (if i < r then s.2.2.1 49 (nb + i) else Int32.ofNat 2) → v = (if i < r then s.2.2.1 50 (nb + i) else Int32.ofNat 0) → ∃ a', (a'.1 = s.1 ∧ a'.2.1 = s.2.1 ∧ a'.2.2.2 = s.2.2.2 ∧ (∀ q, ¬ q = 77 → ¬ q = 78 → a'.2.2.1 q = s.2.2.1 q) ∧ (∀ v, v < i + 1 → a'.2.2.1 77 (14 * D + v) = (if v < r then s.2.2.1 49 (nb + v) else Int32.ofNat 2) ∧ a'.2.2.1 78 (14 * D + v) = (if v < r then s.2.2.1 50 (nb + v) else Int32.ofNat 0)) ∧ ∀ y, y < 14 * D → a'.2.2.1 77 y = s.2.2.1 77 y ∧ a'.2.2.1 78 y = s.2.2.1 78 y) ∧ mf_310_L4 N (F + 1) 0 x1 (Int32.ofNat r) bk (Int32.ofNat nb) (Int32.ofNat i) c = mf_310_L4 N F 0 x1 (Int32.ofNat r) bk (Int32.ofNat nb) (Int32.ofNat (i + 1)) a' := by
      intro k v e1 e2 e3
      refine ⟨mA (mA c 77 (upd (c.2.2.1 77) (14 * D + i) k)) 78 (upd (c.2.2.1 78) (14 * D + i) v), ⟨p1, p2, p3, fun q q1 q2 => ?_, fun v' hv' => ⟨?_, ?_⟩, fun y hy => ⟨?_, ?_⟩⟩, e1⟩
      · show (if q = 78 then _ else if q = 77 then _ else c.2.2.1 q) = _
        rw [if_neg q2, if_neg q1]
        exact p4 q q1 q2
      · show (if 14 * D + v' = 14 * D + i then k else c.2.2.1 77 (14 * D + v')) = _
        by_cases c0 : v' = i
        · rw [if_pos (by omega), c0, e2]
        · rw [if_neg (by omega)]
          exact (p5 v' (by omega)).1
      · show (if 14 * D + v' = 14 * D + i then v else c.2.2.1 78 (14 * D + v')) = _
        by_cases c0 : v' = i
        · rw [if_pos (by omega), c0, e3]
        · rw [if_neg (by omega)]
          exact (p5 v' (by omega)).2
      · show (if y = 14 * D + i then _ else _) = _
        rw [if_neg (by omega)]
        exact (p6 y hy).1
      · show (if y = 14 * D + i then _ else _) = _
        rw [if_neg (by omega)]
        exact (p6 y hy).2
    by_cases cr : r ≤ i
    · refine step (Int32.ofNat 2) (Int32.ofNat 0) ?_ (by rw [if_neg (by omega)]) (by rw [if_neg (by omega)])
      show mf_310_31 N (mf_310_L4 N F) x1 (Int32.ofNat r) bk (Int32.ofNat nb) (Int32.ofNat i) c = _
      have c73' : (mA c 77 (upd (c.2.2.1 77) (14 * D + i) (Int32.ofNat 2))).1 73 = Int32.ofNat D := c73
      unfold mf_310_31 mf_310_38 mf_310_71 mf_310_72 mf_310_106 mf_310_107
      simp (disch := omega) only [ev_S, ev_P, ↓reduceIte, Nat.reduceEqDiff, Nat.reduceLeDiff, Nat.reduceAdd, Nat.reduceMul, Nat.reduceSub, reduceCtorEq, l32_0, l32_1, l32_2, l32_3, l32_4, l32_5, l32_6, l32_7, l32_8, l32_9, l32_10, l32_11, l32_12, l32_13, l32_14, l32_15, l32_16, l32_17, l32_18, l32_19, l32_20, l32_21, l32_22, l32_23, l32_24, l32_25, l32_26, l32_27, l32_28, l32_29, l32_33, l32_40, l32_41, l32_44, l32_45, l32_59, l32_61, l32_91, l32_93, l32_123, l32_125, n14, cr, c73, c73', ix]
    · have k49 : c.2.2.1 49 (nb + i) = s.2.2.1 49 (nb + i) := by rw [p4 49 (by omega) (by omega)]
      have k50 : c.2.2.1 50 (nb + i) = s.2.2.1 50 (nb + i) := by rw [p4 50 (by omega) (by omega)]
      refine step (s.2.2.1 49 (nb + i)) (s.2.2.1 50 (nb + i)) ?_ (by rw [if_pos (by omega)]) (by rw [if_pos (by omega)])
      show mf_310_31 N (mf_310_L4 N F) x1 (Int32.ofNat r) bk (Int32.ofNat nb) (Int32.ofNat i) c = _
      have c73' : (mA c 77 (upd (c.2.2.1 77) (14 * D + i) (s.2.2.1 49 (nb + i)))).1 73 = Int32.ofNat D := c73
      have k50' : (mA c 77 (upd (c.2.2.1 77) (14 * D + i) (s.2.2.1 49 (nb + i)))).2.2.1 50 (nb + i) = s.2.2.1 50 (nb + i) := k50
      unfold mf_310_31 mf_310_38 mf_310_58 mf_310_72 mf_310_93 mf_310_107
      simp (disch := omega) only [ev_S, ev_P, ↓reduceIte, Nat.reduceEqDiff, Nat.reduceLeDiff, Nat.reduceAdd, Nat.reduceMul, Nat.reduceSub, reduceCtorEq, l32_0, l32_1, l32_2, l32_3, l32_4, l32_5, l32_6, l32_7, l32_8, l32_9, l32_10, l32_11, l32_12, l32_13, l32_14, l32_15, l32_16, l32_17, l32_18, l32_19, l32_20, l32_21, l32_22, l32_23, l32_24, l32_25, l32_26, l32_27, l32_28, l32_29, l32_33, l32_40, l32_41, l32_44, l32_45, l32_59, l32_61, l32_91, l32_93, l32_123, l32_125, n14, cr, c73, k49, c73', ix, k50']
  · intro F c hP
    refine ⟨c, ?_, hP⟩
    show mf_310_31 N (mf_310_L4 N F) x1 (Int32.ofNat r) bk (Int32.ofNat nb) (Int32.ofNat 14) c = _
    unfold mf_310_31
    simp (disch := omega) only [ev_S, ev_P, ↓reduceIte, Nat.reduceEqDiff, Nat.reduceLeDiff, Nat.reduceAdd, Nat.reduceMul, Nat.reduceSub, reduceCtorEq, l32_0, l32_1, l32_2, l32_3, l32_4, l32_5, l32_6, l32_7, l32_8, l32_9, l32_10, l32_11, l32_12, l32_13, l32_14, l32_15, l32_16, l32_17, l32_18, l32_19, l32_20, l32_21, l32_22, l32_23, l32_24, l32_25, l32_26, l32_27, l32_28, l32_29, l32_33, l32_40, l32_41, l32_44, l32_45, l32_59, l32_61, l32_91, l32_93, l32_123, l32_125]
theorem RXm.enter (hN : 170000 ≤ N) (R : RXm s0 s h code Fs fu f ((m, d, vs, J ++ I') :: G) sh T out) (hJ : rIt J = xs.reverse) (hJw : wStk ((m, d, vs, J ++ I') :: G) = wStk ((m, d', vs, I') :: G)) (hfi : fi < Fs.length) (hF12 : Fs.length ≤ 12) (hG : G.length ≤ 8) (hl : (rStk ((m, d, vs, J ++ I') :: G)).length ≤ 8800) (hnv : xs.length ≤ Fs[fi].2.2.2.1 ∧ Fs[fi].2.2.2.1 ≤ 14) (hdp : T.2.2.1 ≤ 10) : ∃ s2, mf_310 N (Int32.ofNat (fb0 h + fi)) (Int32.ofNat xs.length) (rBk h code ((m, d', vs, I') :: G)) s = some (s2, none) ∧ RXm s0 s2 h code Fs fu f ((Fs[fi].2.2.2.2.1, 0, xs.map some ++ List.replicate (Fs[fi].2.2.2.1 - xs.length) none, []) :: (m, d', vs, I') :: G) sh (opT T (G.length + 2)) out ∧ s2.1 69 = Int32.ofNat (ob0 h + posR code Fs[fi].2.2.2.2.1) := by
  obtain ⟨r1, ⟨b1, b2, b3, b4, b5, b6, b7, b8⟩, r3⟩ := R
  have b6 : s.1 73 = Int32.ofNat (G.length + 1) := b6
  have eR : rStk ((m, d, vs, J ++ I') :: G) = xs.reverse ++ rStk ((m, d', vs, I') :: G) := by rw [rStk_app (m' := m) (d' := d'), hJ]
  have hlen : (rStk ((m, d, vs, J ++ I') :: G)).length = (rStk ((m, d', vs, I') :: G)).length + xs.length := by rw [eR, List.length_append, List.length_reverse]; omega
  rw [hlen] at r3
  have hh := r1.1.1
  have hfe := r1.1.2.2 fi hfi
  have hf20 : s.2.2.1 20 (fb0 h + fi) = Int32.ofNat (ob0 h + posR code Fs[fi].2.2.2.2.1) := hfe.1
  have hfb : fb0 h + fi < 24 := by unfold fb0; omega
  obtain ⟨sv, v1, v2, v3, v4, v5, v6, v7⟩ := r_vars (N := N) (s := s) (x1 := Int32.ofNat (fb0 h + fi)) (bk := rBk h code ((m, d', vs, I') :: G)) (D := G.length + 1) (nb := (rStk ((m, d', vs, I') :: G)).length) (r := xs.length) hN b6 (by omega) (by omega) (by omega)
  have E0 : mf_310 N (Int32.ofNat (fb0 h + fi)) (Int32.ofNat xs.length) (rBk h code ((m, d', vs, I') :: G)) s = mf_310_L4 N N 0 (Int32.ofNat (fb0 h + fi)) (Int32.ofNat xs.length) (rBk h code ((m, d', vs, I') :: G)) (Int32.ofNat (rStk ((m, d', vs, I') :: G)).length) (Int32.ofNat 0) s := by
    have n10 : ¬ G.length + 1 = 10 := by omega
    have sb : Int32.ofNat ((rStk ((m, d', vs, I') :: G)).length + xs.length) - Int32.ofNat xs.length = Int32.ofNat (rStk ((m, d', vs, I') :: G)).length := by rw [← Int32.ofNat_sub _ _ (by omega), Nat.add_sub_cancel]
    clear v1
    generalize (rStk ((m, d', vs, I') :: G)).length = nr at *
    unfold mf_310 mf_310_0 mf_310_20
    simp (disch := omega) only [ev_S, ev_P, ↓reduceIte, Nat.reduceEqDiff, Nat.reduceLeDiff, Nat.reduceAdd, Nat.reduceMul, Nat.reduceSub, reduceCtorEq, l32_0, l32_1, l32_2, l32_3, l32_4, l32_5, l32_6, l32_7, l32_8, l32_9, l32_10, l32_11, l32_12, l32_13, l32_14, l32_15, l32_16, l32_17, l32_18, l32_19, l32_20, l32_21, l32_22, l32_23, l32_24, l32_25, l32_26, l32_27, l32_28, l32_29, l32_33, l32_40, l32_41, l32_44, l32_45, l32_59, l32_61, l32_91, l32_93, l32_123, l32_125, b6, n10, r3, sb]
  have h63 : s.1 63 = Int32.ofNat T.2.2.1 := r1.2.1.2.2.2.1
  obtain ⟨s2, hs2⟩ : ∃ s2, s2 = mI (mI (mI (mA (mA (mA (mI sv 51 (Int32.ofNat (rStk ((m, d', vs, I') :: G)).length)) 74 (upd (sv.2.2.1 74) (G.length + 1) (Int32.ofNat (rStk ((m, d', vs, I') :: G)).length))) 75 (upd (sv.2.2.1 75) (G.length + 1) (rBk h code ((m, d', vs, I') :: G)))) 76 (upd (sv.2.2.1 76) (G.length + 1) (Int32.ofNat (wStk ((m, d', vs, I') :: G)).length))) 73 (Int32.ofNat (G.length + 2))) 63 (Int32.ofNat (if T.2.2.1 < G.length + 2 then G.length + 2 else T.2.2.1))) 69 (Int32.ofNat (ob0 h + posR code Fs[fi].2.2.2.2.1)) := ⟨_, rfl⟩
  have e114 : mf_310_114 N (Int32.ofNat (fb0 h + fi)) (rBk h code ((m, d', vs, I') :: G)) (Int32.ofNat (rStk ((m, d', vs, I') :: G)).length) sv = some (s2, none) := by
    have w73 : sv.1 73 = Int32.ofNat (G.length + 1) := by rw [v2]; exact b6
    have w63 : sv.1 63 = Int32.ofNat T.2.2.1 := by rw [v2]; exact h63
    have w79 : sv.1 79 = Int32.ofNat (wStk ((m, d', vs, I') :: G)).length := by rw [v2, ← hJw]; exact b7
    have w20 : sv.2.2.1 20 (fb0 h + fi) = Int32.ofNat (ob0 h + posR code Fs[fi].2.2.2.2.1) := by rw [v5 20 (by omega) (by omega)]; exact hf20
    rw [hs2]
    clear v1 E0 hs2
    generalize (rStk ((m, d', vs, I') :: G)).length = nr at *
    generalize (wStk ((m, d', vs, I') :: G)).length = nw at *
    generalize rBk h code ((m, d', vs, I') :: G) = rb at *
    generalize ob0 h + posR code Fs[fi].2.2.2.2.1 = en at *
    generalize fb0 h + fi = fn at *
    by_cases c : T.2.2.1 < G.length + 2
    · have c' : ¬ G.length + 2 ≤ T.2.2.1 := by omega
      rw [if_pos c]
      unfold mf_310_114 mf_310_176 mf_310_187
      simp (disch := omega) only [ev_S, ev_P, ↓reduceIte, Nat.reduceEqDiff, Nat.reduceLeDiff, Nat.reduceAdd, Nat.reduceMul, Nat.reduceSub, reduceCtorEq, l32_0, l32_1, l32_2, l32_3, l32_4, l32_5, l32_6, l32_7, l32_8, l32_9, l32_10, l32_11, l32_12, l32_13, l32_14, l32_15, l32_16, l32_17, l32_18, l32_19, l32_20, l32_21, l32_22, l32_23, l32_24, l32_25, l32_26, l32_27, l32_28, l32_29, l32_33, l32_40, l32_41, l32_44, l32_45, l32_59, l32_61, l32_91, l32_93, l32_123, l32_125, w73, w63, c', w79, w20]
    · have c' : G.length + 2 ≤ T.2.2.1 := by omega
      rw [if_neg c]
      unfold mf_310_114 mf_310_183 mf_310_187
      simp (disch := omega) only [ev_S, ev_P, ↓reduceIte, Nat.reduceEqDiff, Nat.reduceLeDiff, Nat.reduceAdd, Nat.reduceMul, Nat.reduceSub, reduceCtorEq, l32_0, l32_1, l32_2, l32_3, l32_4, l32_5, l32_6, l32_7, l32_8, l32_9, l32_10, l32_11, l32_12, l32_13, l32_14, l32_15, l32_16, l32_17, l32_18, l32_19, l32_20, l32_21, l32_22, l32_23, l32_24, l32_25, l32_26, l32_27, l32_28, l32_29, l32_33, l32_40, l32_41, l32_44, l32_45, l32_59, l32_61, l32_91, l32_93, l32_123, l32_125, w73, w63, c', w79, w20]
  refine ⟨s2, by rw [E0, v1, e114], ⟨?_, ⟨?_, ?_, ?_, ?_, ?_, ?_, ?_, ?_⟩, ?_⟩, by rw [hs2]; rfl⟩
  · -- the base
    have iq : ∀ q, ¬ (q = 51 ∨ q = 73 ∨ q = 63 ∨ q = 69) → s2.1 q = s.1 q := fun q hq => by
      rw [hs2]
      show (if q = 69 then _ else if q = 63 then _ else if q = 73 then _ else if q = 51 then _ else sv.1 q) = _
      rw [if_neg (by omega), if_neg (by omega), if_neg (by omega), if_neg (by omega), v2]
    have aq : ∀ q, ¬ (74 ≤ q ∧ q ≤ 78) → s2.2.2.1 q = s.2.2.1 q := fun q hq => by
      rw [hs2]
      show (if q = 76 then _ else if q = 75 then _ else if q = 74 then _ else sv.2.2.1 q) = _
      rw [if_neg (by omega), if_neg (by omega), if_neg (by omega), v5 q (by omega) (by omega)]
    obtain ⟨a1, ⟨t1, t2, t3, t4, t5⟩, a3, a4, a5⟩ := r1
    refine ⟨a1.keep (fun q q1 q2 => aq q (by omega)), ⟨?_, ?_, ?_, ?_, ?_⟩, ⟨?_, ?_⟩, a4.ch (iq 87 (by omega)) (aq 86 (by omega)), a5.tr ⟨⟨fun q r => iq q (by unfold iRn at r; omega), fun q r => ?_, fun q r => aq q (by unfold aRn at r; omega), fun q r => ?_⟩, fun y hy => by rw [aq 47 (by omega)]⟩⟩
    · rw [iq 61 (by omega)]; exact t1
    · rw [iq 60 (by omega)]; exact t2
    · rw [iq 62 (by omega)]; exact t3
    · rw [hs2]; rfl
    · rw [iq 64 (by omega)]; exact t5
    · rw [iq 66 (by omega)]; exact a3.1
    · rw [iq 67 (by omega)]; exact a3.2
    · rw [hs2]; show sv.2.1 q = _; rw [v3]
    · rw [hs2]; show sv.2.2.2 q = _; rw [v4]
  · -- the stack
    have e49 : s2.2.2.1 49 = s.2.2.1 49 := by rw [hs2]; exact v5 49 (by omega) (by omega)
    have e50 : s2.2.2.1 50 = s.2.2.1 50 := by rw [hs2]; exact v5 50 (by omega) (by omega)
    have e47 : s2.2.2.1 47 = s.2.2.1 47 := by rw [hs2]; exact v5 47 (by omega) (by omega)
    rw [e49, e50, e47]
    rw [eR] at b1
    exact b1.app
  · -- the tables
    have e47 : s2.2.2.1 47 = s.2.2.1 47 := by rw [hs2]; exact v5 47 (by omega) (by omega)
    refine ⟨?_, ?_, ?_, fun i hi => ?_, ?_⟩
    · rw [hs2]; exact if_pos rfl
    · rw [hs2]; exact if_pos rfl
    · rw [hs2]; exact if_pos rfl
    · have e77 : s2.2.2.1 77 = sv.2.2.1 77 := by rw [hs2]; rfl
      have e78 : s2.2.2.1 78 = sv.2.2.1 78 := by rw [hs2]; rfl
      rw [e47, e77, e78]
      obtain ⟨u1, u2⟩ := v6 i hi
      show rvo (s.2.2.1 47) f (sv.2.2.1 77 (14 * (G.length + 1) + i)) (sv.2.2.1 78 (14 * (G.length + 1) + i)) _
      rw [u1, u2]
      by_cases c : i < xs.length
      · rw [if_pos c, if_pos c]
        have eg : (xs.map some ++ List.replicate (Fs[fi].2.2.2.1 - xs.length) none).getD i none = some (xs[i]) := by
          rw [List.getD_eq_getElem?_getD, List.getElem?_append_left (by rw [List.length_map]; exact c), List.getElem?_map, List.getElem?_eq_getElem c]
          rfl
        show rvo _ _ _ _ ((xs.map some ++ List.replicate (Fs[fi].2.2.2.1 - xs.length) none).getD i none)
        rw [eg]
        rw [eR] at b1
        have := b1.get (i := xs.length - 1 - i) (by rw [List.length_append, List.length_reverse]; omega)
        rw [List.getElem_append_left (by rw [List.length_reverse]; omega), List.getElem_reverse] at this
        simp only [List.length_append, List.length_reverse] at this
        rw [show xs.length + (rStk ((m, d', vs, I') :: G)).length - 1 - (xs.length - 1 - i) = (rStk ((m, d', vs, I') :: G)).length + i by omega] at this
        have e2 : xs[xs.length - 1 - (xs.length - 1 - i)]'(by omega) = xs[i] := by
          congr 1
          omega
        rw [e2] at this
        exact this
      · rw [if_neg c, if_neg c]
        have eg : (xs.map some ++ List.replicate (Fs[fi].2.2.2.1 - xs.length) (none : Option Nod)).getD i none = none := by
          rw [List.getD_eq_getElem?_getD, List.getElem?_append_right (by rw [List.length_map]; omega)]
          by_cases c2 : i - (xs.map some).length < Fs[fi].2.2.2.1 - xs.length
          · rw [List.getElem?_replicate, if_pos c2]
            rfl
          · rw [List.getElem?_replicate, if_neg c2]
            rfl
        show rvo _ _ _ _ ((xs.map some ++ List.replicate (Fs[fi].2.2.2.1 - xs.length) (none : Option Nod)).getD i none)
        rw [eg]
        rfl
    · refine rFr.loc (s := s) (F := (m, d', vs, I') :: G) (fun q q1 q2 y hy => ?_) (fun y hy => ⟨?_, ?_⟩) (Nat.le_refl _) (fun y _ => by rw [e47]) (rFr.hd (a := (m, d, vs, J ++ I')) rfl b2)
      · rw [hs2]
        have hy : y < G.length + 1 := hy
        show (if q = 76 then upd (sv.2.2.1 76) (G.length + 1) _ else if q = 75 then upd (sv.2.2.1 75) (G.length + 1) _ else if q = 74 then upd (sv.2.2.1 74) (G.length + 1) _ else sv.2.2.1 q) y = _
        have hq : q = 74 ∨ q = 75 ∨ q = 76 := by omega
        rcases hq with e | e | e <;> subst e
        · rw [if_neg (by omega), if_neg (by omega), if_pos rfl]
          show (if y = G.length + 1 then _ else _) = _
          rw [if_neg (by omega), v5 74 (by omega) (by omega)]
        · rw [if_neg (by omega), if_pos rfl]
          show (if y = G.length + 1 then _ else _) = _
          rw [if_neg (by omega), v5 75 (by omega) (by omega)]
        · rw [if_pos rfl]
          show (if y = G.length + 1 then _ else _) = _
          rw [if_neg (by omega), v5 76 (by omega) (by omega)]
      · rw [hs2]; exact (v7 y hy).1
      · rw [hs2]; exact (v7 y hy).2
  · have eA : ∀ q, 80 ≤ q → q ≤ 85 → s2.2.2.1 q = s.2.2.1 q := fun q q1 q2 => by
      rw [hs2]
      show (if q = 76 then _ else if q = 75 then _ else if q = 74 then _ else sv.2.2.1 q) = _
      rw [if_neg (by omega), if_neg (by omega), if_neg (by omega), v5 q (by omega) (by omega)]
    have e47 : s2.2.2.1 47 = s.2.2.1 47 := by rw [hs2]; exact v5 47 (by omega) (by omega)
    rw [eA 80 (by omega) (by omega), eA 81 (by omega) (by omega), eA 82 (by omega) (by omega), eA 83 (by omega) (by omega), eA 84 (by omega) (by omega), eA 85 (by omega) (by omega), e47]
    show stk _ _ (wStk ((m, d', vs, I') :: G))
    rw [← hJw]
    exact b3
  · have e47 : s2.2.2.1 47 = s.2.2.1 47 := by rw [hs2]; exact v5 47 (by omega) (by omega)
    have e71 : s2.2.2.1 71 = s.2.2.1 71 := by rw [hs2]; exact v5 71 (by omega) (by omega)
    have e72 : s2.2.2.1 72 = s.2.2.1 72 := by rw [hs2]; exact v5 72 (by omega) (by omega)
    rw [e47, e71, e72]
    exact b4
  · have e47 : s2.2.2.1 47 = s.2.2.1 47 := by rw [hs2]; exact v5 47 (by omega) (by omega)
    rw [e47]; exact b5
  · rw [hs2]; rfl
  · rw [hs2]
    show sv.1 79 = _
    rw [v2, b7, hJw]
    rfl
  · rw [hs2]
    show sv.1 48 = _
    rw [v2]; exact b8
  · rw [hs2]; rfl
end ENR
