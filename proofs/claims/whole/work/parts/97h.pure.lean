/-! ===== PURE: run (61): same, the class ===== -/
section SAC
variable {N : Nat} {X : Nat → Option zz_C} {t t' : cS} {u w : Nat} {x y : Nod} {vx vy : Int64}
theorem lg_e {a b : Int64} : (lg_cmp a b = Int32.ofNat 0) = (a = b) := by
  apply propext
  constructor
  · intro h
    unfold lg_cmp at h
    by_cases g : a > b
    · rw [if_pos g] at h
      exact absurd h (by decide)
    · rw [if_neg g] at h
      by_cases e : a = b
      · exact e
      · rw [if_neg e] at h
        exact absurd h (by decide)
  · rintro rfl
    unfold lg_cmp
    rw [if_neg (by rw [gt_iff_lt]; exact Int64.lt_irrefl), if_pos rfl]
    rfl
def sb1 (b : Prop) [Decidable b] : Int32 := if b then Int32.ofNat 1 else Int32.ofNat 0
theorem sb1_iff {p q : Prop} [Decidable p] [Decidable q] (h : p ↔ q) : sb1 p = sb1 q := by
  unfold sb1
  by_cases c : p
  · rw [if_pos c, if_pos (h.mp c)]
  · rw [if_neg c, if_neg (fun d => c (h.mpr d))]
abbrev alP (R : Nat → List Value → cS → kO) (dp : Nat) (x : Nod) : Prop := ∀ (y : Nod) (t : cS) (u w : Nat) (vx vy : Int64), wfN x → wfN y → x.1 ≤ 4 → y.1 ≤ 4 → cHp t u w → cN (cel t) u vx x → cN (cel t) u vy y → R 133 [.long vx, .long vy, .int (Int32.ofNat dp)] t = some (t, .inl (some (.int (sb1 (serN x = serN y)))))
theorem c_alikeStep {rk : Nat → List Value → cS → kO} {dp : Nat} (hN0 : 170000 ≤ N) (hdp : dp + hN x ≤ 6) (hc : ∀ z ∈ pts x, alP rk (dp + 1) z) (wx : wfN x) (wy : wfN y) (dx : x.1 ≤ 4) (dy : y.1 ≤ 4) (hh : cHp t u w) (hx : cN (cel t) u vx x) (hy : cN (cel t) u vy y) : cf_133 N X rk vx vy (Int32.ofNat dp) t = some (t, .inl (some (.int (sb1 (serN x = serN y))))) := by
  have z1 := c_sizeN (N := N) (X := X) hh hx
  have z2 := c_sizeN (N := N) (X := X) hh hy
  have k1 := c_kn (N := N) (X := X) hx
  have k2 := c_kn (N := N) (X := X) hy
  have lx := kn_le (x := x)
  have ly := kn_le (x := y)
  have s1 := wf64 wx
  have s2 := wf64 wy
  by_cases ck : kn x = kn y
  · by_cases cs : szN x = szN y
    · by_cases c0 : kn x = 0
      · have c0' : kn y = 0 := by omega
        have hx' := cN_iff.mp hx
        have hy' := cN_iff.mp hy
        rw [kn0 c0] at hx'
        rw [kn0 c0'] at hy'
        have hx' : vx = tg 0 (ivN x) := hx'
        have hy' : vy = tg 0 (ivN y) := hy'
        have e1 : cf_133 N X rk vx vy (Int32.ofNat dp) t = cf_133_44 N X rk vx vy t := by
          unfold cf_133 cf_133_0 cf_133_5 cf_133_11 cf_133_15 cf_133_18 cf_133_25 cf_133_30 cf_133_34
          rw [← ck] at k2
          rw [← cs] at z2
          rw [c0] at k1 k2
          generalize szN x = sx at *
          simp (disch := omega) only [ev_S, ev_C, ↓reduceIte, Nat.reduceEqDiff, Nat.reduceLeDiff, Nat.reduceAdd, Nat.reduceMul, Nat.reduceSub, reduceCtorEq, l32_0, l32_1, l32_2, l32_3, l32_4, l32_5, l32_6, l32_7, l32_8, l32_9, l32_10, l32_11, l32_12, l32_13, l32_14, l32_15, l32_16, l32_17, l32_18, l32_19, l32_20, l32_21, l32_22, l32_23, l32_24, l32_25, l32_26, l32_27, l32_28, l32_29, l32_33, l32_40, l32_41, l32_44, l32_45, l32_59, l32_61, l32_91, l32_93, l32_123, l32_125, z1, z2, k1, k2]
        rw [e1]
        have hi : (serN x = serN y) ↔ lg_cmp vx vy = Int32.ofNat 0 := by
          rw [lg_e, ser_0 c0, ser_0 c0', hx', hy']
          constructor
          · intro e
            rw [(List.cons.inj (List.cons.inj e).2).1]
          · intro e
            rw [(tg_inj e).2]
        rw [sb1_iff hi]
        unfold cf_133_44 sb1
        by_cases q : lg_cmp vx vy = Int32.ofNat 0
        · have q' : ¬ ¬ lg_cmp vx vy = 0 := fun f => f q
          rw [if_neg q', if_pos q]
          rfl
        · have q' : ¬ lg_cmp vx vy = 0 := q
          rw [if_pos q', if_neg q]
          rfl
      · have hp := h_pos (x := x) (fun e => c0 ((kd_iff (k := 0) (by omega)).mp e))
        have e1 : cf_133 N X rk vx vy (Int32.ofNat dp) t = cf_133_L6 N X rk N 0 vx vy (Int32.ofNat dp) (Int32.ofNat (szN x)) (Int32.ofNat 1) (Int32.ofNat 0) t := by
          unfold cf_133 cf_133_0 cf_133_5 cf_133_11 cf_133_15 cf_133_18 cf_133_25 cf_133_30 cf_133_34 cf_133_37 cf_133_56
          rw [← ck] at k2
          rw [← cs] at z2
          have d6 : dp ≤ 6 := by omega
          generalize kn x = kx at *
          generalize szN x = sx at *
          simp (disch := omega) only [ev_S, ev_C, ↓reduceIte, Nat.reduceEqDiff, Nat.reduceLeDiff, Nat.reduceAdd, Nat.reduceMul, Nat.reduceSub, reduceCtorEq, l32_0, l32_1, l32_2, l32_3, l32_4, l32_5, l32_6, l32_7, l32_8, l32_9, l32_10, l32_11, l32_12, l32_13, l32_14, l32_15, l32_16, l32_17, l32_18, l32_19, l32_20, l32_21, l32_22, l32_23, l32_24, l32_25, l32_26, l32_27, l32_28, l32_29, l32_33, l32_40, l32_41, l32_44, l32_45, l32_59, l32_61, l32_91, l32_93, l32_123, l32_125, z1, z2, k1, k2, d6, c0]
        rw [e1]
        have hi := ser_iff wx wy dx dy ck c0
        have hpx : (pts x).length = szN x := pts_len
        have hpy : (pts y).length = szN y := pts_len
        have hd5 : dp + 1 ≤ 6 := by omega
        refine lp (fun F i (b : Int32) => cf_133_L6 N X rk F 0 vx vy (Int32.ofNat dp) (Int32.ofNat (szN x)) b (Int32.ofNat i) t) (szN x) (fun i b => (b = Int32.ofNat 1 ∧ ∀ j (hj : j < (pts x).length) (hj' : j < (pts y).length), j < i → serN (pts x)[j] = serN (pts y)[j]) ∨ (b = Int32.ofNat 0 ∧ ¬ serN x = serN y)) (fun R => R = some (t, .inl (some (.int (sb1 (serN x = serN y)))))) ?_ ?_ (szN x) 0 N (Int32.ofNat 1) (Nat.zero_add _) (by omega) (Or.inl ⟨rfl, fun j _ _ hj => absurd hj (Nat.not_lt_zero _)⟩)
        · intro F i b hi2 hP _
          have n1 : ¬ szN x ≤ i := by omega
          rcases hP with ⟨rfl, hP⟩ | ⟨rfl, hP⟩
          · left
            have h1 : i < (pts x).length := by omega
            have h2 : i < (pts y).length := by omega
            obtain ⟨v1, p1, p2⟩ := c_part (N := N) (X := X) hh hx h1
            obtain ⟨v2, q1, q2⟩ := c_part (N := N) (X := X) hh hy h2
            have mx := List.getElem_mem h1
            have my := List.getElem_mem h2
            have r1 := hc _ mx _ t u w v1 v2 (wf_pts wx _ mx) (wf_pts wy _ my) (Nat.le_trans (pts_lv _ mx) dx) (Nat.le_trans (pts_lv _ my) dy) hh p2 q2
            refine ⟨sb1 (serN (pts x)[i] = serN (pts y)[i]), ?_, ?_⟩
            · by_cases c : serN (pts x)[i] = serN (pts y)[i]
              · left
                refine ⟨if_pos c, fun j hj hj' hji => ?_⟩
                by_cases e : j = i
                · subst e
                  exact c
                · exact hP j hj hj' (by omega)
              · right
                exact ⟨if_neg c, fun e => c ((hi.mp e).2 i h1 h2)⟩
            · show cf_133_62 N X rk (cf_133_L6 N X rk F) vx vy (Int32.ofNat dp) (Int32.ofNat (szN x)) (Int32.ofNat 1) (Int32.ofNat i) t = _
              generalize sb1 (serN (pts x)[i] = serN (pts y)[i]) = bb at *
              unfold cf_133_62 cf_133_69 cf_133_74 cf_133_82 cf_133_89 cf_133_96
              generalize szN x = sx at *
              simp (disch := omega) only [ev_S, ev_C, ↓reduceIte, Nat.reduceEqDiff, Nat.reduceLeDiff, Nat.reduceAdd, Nat.reduceMul, Nat.reduceSub, reduceCtorEq, l32_0, l32_1, l32_2, l32_3, l32_4, l32_5, l32_6, l32_7, l32_8, l32_9, l32_10, l32_11, l32_12, l32_13, l32_14, l32_15, l32_16, l32_17, l32_18, l32_19, l32_20, l32_21, l32_22, l32_23, l32_24, l32_25, l32_26, l32_27, l32_28, l32_29, l32_33, l32_40, l32_41, l32_44, l32_45, l32_59, l32_61, l32_91, l32_93, l32_123, l32_125, n1, p1, q1, r1]
          · right
            show cf_133_62 N X rk (cf_133_L6 N X rk F) vx vy (Int32.ofNat dp) (Int32.ofNat (szN x)) (Int32.ofNat 0) (Int32.ofNat i) t = _
            rw [show sb1 (serN x = serN y) = Int32.ofNat 0 from if_neg hP]
            unfold cf_133_62 cf_133_69 cf_133_104
            generalize szN x = sx at *
            simp (disch := omega) only [ev_S, ev_C, ↓reduceIte, Nat.reduceEqDiff, Nat.reduceLeDiff, Nat.reduceAdd, Nat.reduceMul, Nat.reduceSub, reduceCtorEq, l32_0, l32_1, l32_2, l32_3, l32_4, l32_5, l32_6, l32_7, l32_8, l32_9, l32_10, l32_11, l32_12, l32_13, l32_14, l32_15, l32_16, l32_17, l32_18, l32_19, l32_20, l32_21, l32_22, l32_23, l32_24, l32_25, l32_26, l32_27, l32_28, l32_29, l32_33, l32_40, l32_41, l32_44, l32_45, l32_59, l32_61, l32_91, l32_93, l32_123, l32_125, n1]
        · intro F b hP
          have hb : b = sb1 (serN x = serN y) := by
            rcases hP with ⟨rfl, hP⟩ | ⟨rfl, hP⟩
            · exact (if_pos (hi.mpr ⟨cs, fun j hj hj' => hP j hj hj' (by omega)⟩)).symm
            · exact (if_neg hP).symm
          have hb2 : zz_reti (some .boolean) b = true := by
            rcases hP with ⟨rfl, -⟩ | ⟨rfl, -⟩ <;> rfl
          rw [← hb]
          show cf_133_62 N X rk (cf_133_L6 N X rk F) vx vy (Int32.ofNat dp) (Int32.ofNat (szN x)) b (Int32.ofNat (szN x)) t = _
          unfold cf_133_62 cf_133_104
          generalize szN x = sx at *
          simp (disch := omega) only [ev_S, ev_C, ↓reduceIte, Nat.reduceEqDiff, Nat.reduceLeDiff, Nat.reduceAdd, Nat.reduceMul, Nat.reduceSub, reduceCtorEq, l32_0, l32_1, l32_2, l32_3, l32_4, l32_5, l32_6, l32_7, l32_8, l32_9, l32_10, l32_11, l32_12, l32_13, l32_14, l32_15, l32_16, l32_17, l32_18, l32_19, l32_20, l32_21, l32_22, l32_23, l32_24, l32_25, l32_26, l32_27, l32_28, l32_29, l32_33, l32_40, l32_41, l32_44, l32_45, l32_59, l32_61, l32_91, l32_93, l32_123, l32_125, hb2]
    · have hne : ¬ serN x = serN y := fun e => by
        by_cases c0 : kn x = 0
        · have e1 : szN x = 0 := by
            show szV (vw x) = 0
            rw [kn0 c0]
            rfl
          have e2 : szN y = 0 := by
            show szV (vw y) = 0
            rw [kn0 (x := y) (by omega)]
            rfl
          omega
        · exact cs ((ser_iff wx wy dx dy ck c0).mp e).1
      rw [show sb1 (serN x = serN y) = Int32.ofNat 0 from if_neg hne]
      unfold cf_133 cf_133_0 cf_133_5 cf_133_11 cf_133_15 cf_133_18 cf_133_25 cf_133_28
      rw [← ck] at k2
      generalize kn x = kx at *
      generalize szN x = sx at *
      generalize szN y = sy at *
      simp (disch := omega) only [ev_S, ev_C, ↓reduceIte, Nat.reduceEqDiff, Nat.reduceLeDiff, Nat.reduceAdd, Nat.reduceMul, Nat.reduceSub, reduceCtorEq, l32_0, l32_1, l32_2, l32_3, l32_4, l32_5, l32_6, l32_7, l32_8, l32_9, l32_10, l32_11, l32_12, l32_13, l32_14, l32_15, l32_16, l32_17, l32_18, l32_19, l32_20, l32_21, l32_22, l32_23, l32_24, l32_25, l32_26, l32_27, l32_28, l32_29, l32_33, l32_40, l32_41, l32_44, l32_45, l32_59, l32_61, l32_91, l32_93, l32_123, l32_125, z1, z2, k1, k2, cs]
  · have hne : ¬ serN x = serN y := fun e => by
      obtain ⟨l1, e1⟩ := ser_hd (x := x)
      obtain ⟨l2, e2⟩ := ser_hd (x := y)
      rw [e1, e2] at e
      exact ck (ofNat_inj (by omega) (by omega) (List.cons.inj e).1)
    rw [show sb1 (serN x = serN y) = Int32.ofNat 0 from if_neg hne]
    unfold cf_133 cf_133_0 cf_133_5 cf_133_11 cf_133_15 cf_133_28
    generalize kn x = kx at *
    generalize kn y = ky at *
    generalize szN x = sx at *
    simp (disch := omega) only [ev_S, ev_C, ↓reduceIte, Nat.reduceEqDiff, Nat.reduceLeDiff, Nat.reduceAdd, Nat.reduceMul, Nat.reduceSub, reduceCtorEq, l32_0, l32_1, l32_2, l32_3, l32_4, l32_5, l32_6, l32_7, l32_8, l32_9, l32_10, l32_11, l32_12, l32_13, l32_14, l32_15, l32_16, l32_17, l32_18, l32_19, l32_20, l32_21, l32_22, l32_23, l32_24, l32_25, l32_26, l32_27, l32_28, l32_29, l32_33, l32_40, l32_41, l32_44, l32_45, l32_59, l32_61, l32_91, l32_93, l32_123, l32_125, z1, k1, k2, ck]
theorem c_alikeAll (hN0 : 170000 ≤ N) : ∀ (m e dp : Nat) (x : Nod), hN x ≤ m → dp + hN x ≤ 6 → alP (cf_S3 N X (m + 1 + e)) dp x := by
  intro m
  induction m with
  | zero =>
    intro e dp x hm hd y t u w vx vy wx wy dx dy hh hx hy
    rw [show 0 + 1 + e = (0 + e) + 1 by omega]
    exact c_alikeStep hN0 hd (fun z hz => by
      have := h_pts hz
      omega) wx wy dx dy hh hx hy
  | succ m ih =>
    intro e dp x hm hd y t u w vx vy wx wy dx dy hh hx hy
    rw [show m + 1 + 1 + e = (m + 1 + e) + 1 by omega]
    exact c_alikeStep hN0 hd (fun z hz => by
      have := h_pts hz
      exact ih e (dp + 1) z (by omega) (by omega)) wx wy dx dy hh hx hy
/-- alike -/
theorem c_alk (hN0 : 170000 ≤ N) (wx : wfN x) (wy : wfN y) (dx : x.1 ≤ 4) (dy : y.1 ≤ 4) (hh : cHp t u w) (hx : cN (cel t) u vx x) (hy : cN (cel t) u vy y) : cf_132 N X vx vy t = some (t, .inl (some (.int (sb1 (serN x = serN y))))) := by
  have hl : hN x ≤ x.1 + 2 := hT_le x.1 x.2
  have a1 := c_alikeAll (N := N) (X := X) hN0 6 5 0 x (by omega) (by omega) y t u w vx vy wx wy dx dy hh hx hy
  have a1 : cf_S3 N X 12 133 [.long vx, .long vy, .int (Int32.ofNat 0)] t = _ := a1
  have hb2 : zz_reti (some .boolean) (sb1 (serN x = serN y)) = true := by
    unfold sb1
    by_cases c : serN x = serN y
    · rw [if_pos c]; rfl
    · rw [if_neg c]; rfl
  generalize sb1 (serN x = serN y) = b at *
  unfold cf_132 cf_132_0 cf_132_7
  simp (disch := omega) only [ev_S, ev_C, ↓reduceIte, Nat.reduceEqDiff, Nat.reduceLeDiff, Nat.reduceAdd, Nat.reduceMul, Nat.reduceSub, reduceCtorEq, l32_0, l32_1, l32_2, l32_3, l32_4, l32_5, l32_6, l32_7, l32_8, l32_9, l32_10, l32_11, l32_12, l32_13, l32_14, l32_15, l32_16, l32_17, l32_18, l32_19, l32_20, l32_21, l32_22, l32_23, l32_24, l32_25, l32_26, l32_27, l32_28, l32_29, l32_33, l32_40, l32_41, l32_44, l32_45, l32_59, l32_61, l32_91, l32_93, l32_123, l32_125, a1, hb2]
end SAC
