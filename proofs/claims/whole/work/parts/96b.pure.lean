/-! ===== PURE: run (29): the signs between two values, the class: the end ===== -/
section TWF
variable {N sg k : Nat} {X : Nat → Option zz_C} {t t' t2 : cS} {u u' u2 w i j L : Nat} {x y : Nod} {xs : List Nod} {vx vy v : Int64} {r : Ans}
theorem ct_le (hw : wfN x) : ctV (vw x) ≤ 700 := by
  have hw' := vw_wf x hw
  revert hw'
  generalize vw x = V
  obtain z | r | q | l := V
  · intro _
    exact Nat.zero_le _
  · intro h
    have h : r.length ≤ 64 := h
    show 4 + r.length ≤ 700
    omega
  · intro h
    obtain ⟨h1, h2, -⟩ := h
    show 4 + (q.map fun r => 4 + r.length).sum ≤ 700
    have : ∀ q : List (List Int32), (q.map fun r => 4 + r.length).sum = 4 * q.length + (q.map List.length).sum := fun q => by
      induction q with
      | nil => rfl
      | cons x l ih => rw [List.map_cons, List.sum_cons, ih, List.map_cons, List.sum_cons, List.length_cons]; omega
    have := this q
    omega
  · intro h
    have h : l.2.length ≤ 20 := h.1
    show 4 + 2 * l.2.length ≤ 700
    omega
theorem cE.ref (h : cE t t' u v r) : cE t t' u (rf (Int32.ofNat k)) (.inl k) := by
  obtain ⟨u', w', h1, h2, h3, h4, h5⟩ := h
  refine ⟨u', w', h1, h2, h3, h4, rfl, ?_⟩
  cases r with
  | inl k => exact h5.2
  | inr x =>
    have := ct_le h5.2.2.1
    have := h5.2.1
    omega
theorem cG.build' (hN : 170000 ≤ N) (H : cG t t' u u' w xs) (hok : mkOk k xs) (hw : ∀ x ∈ xs, wfN x) (hd : ∀ x ∈ xs, x.1 ≤ 4) (hl : xs.length ≤ 3000) (hw1 : w ≤ 100000) (hu : u' ≤ 166000) (hg : u' ≤ u + grw k xs + 1) (h2 : u' ≤ u + 2000) : ∃ t'' v, cf_126 N X (Int32.ofNat k) (Int32.ofNat w) t' = some (t'', .inl (some (.long v))) ∧ cE t t'' u v (ansM k xs) ∧ kI t'' 58 1 = kI t' 58 1 := by
  obtain ⟨t2, v, e1, e2⟩ := cG.build (N := N) (X := X) hN H hok hw hd hl hw1 hu hg h2
  refine ⟨t2, v, e1, e2, ?_⟩
  rcases c_build (N := N) (X := X) hN hok H.1 H.2.2.2.2.2 hw (fun x hx => Nat.le_trans (dT_le _ _) (hd x hx)) hl hw1 hu with ⟨y, -, t3, v3, f2, ⟨-, b2, -⟩, -⟩ | ⟨-, t3, f2, ⟨-, b2, -⟩⟩
  · rw [e1] at f2
    cases f2
    exact b2.1 58 1 (by omega)
  · rw [e1] at f2
    cases f2
    exact b2.1 58 1 (by omega)
theorem opC_0 (h : cN (cel t) u v x) (h1 : kn x ≤ 1) : opC (cel t) u v (bsd x 0) := by
  have V := cN_iff.mp h
  show opC _ _ _ (bsdV (vw x) 0)
  by_cases d : kn x = 0
  · rw [kn0 d] at V ⊢
    exact V
  · have e := kn1 (x := x) (by omega)
    rw [e] at V ⊢
    exact V
/-- rows that are not unlike have one length -/
theorem rsz_eq {p q : Opd} (h : unl p q = false) : (∀ r, p = .inr r → r.length = rsz p q) ∧ ∀ r, q = .inr r → r.length = rsz p q := by
  cases p with
  | inl z =>
    refine ⟨fun r hr => (by cases hr), fun r hr => ?_⟩
    subst hr
    rfl
  | inr r1 =>
    refine ⟨fun r hr => (by cases hr; rfl), fun r hr => ?_⟩
    subst hr
    have h : (!(r1.length == r.length)) = false := h
    rw [Bool.not_eq_false'] at h
    exact (beq_iff_eq.mp h).symm
theorem bsd_len (w : wfN x) (d : kn x ≤ 2) (hi : kn x = 2 → i < szN x) {r : List Int32} (e : bsd x i = .inr r) : r.length ≤ 64 := by
  have wv := vw_wf x w
  have e : bsdV (vw x) i = .inr r := e
  by_cases c2 : kn x = 2
  · obtain ⟨q, e2⟩ := kn2 c2
    have hi := hi c2
    rw [show szN x = q.length by show szV (vw x) = _; rw [e2]; rfl] at hi
    rw [e2] at wv e
    have e : Sum.inr (q.getD i []) = (Sum.inr r : Opd) := e
    cases e
    rw [List.getD_eq_getElem?_getD, List.getElem?_eq_getElem hi]
    exact wv.2.2 _ (List.getElem_mem hi)
  · by_cases c0 : kn x = 0
    · rw [kn0 c0] at e
      cases e
    · have e2 := kn1 (x := x) (by omega)
      rw [e2] at wv e
      have e : Sum.inr (rvN x) = (Sum.inr r : Opd) := e
      cases e
      exact wv
theorem rsz_le (wx : wfN x) (wy : wfN y) (h3 : kn x ≤ 2) (h3' : kn y ≤ 2) (hix : kn x = 2 → i < szN x) (hiy : kn y = 2 → i < szN y) : rsz (bsd x i) (bsd y i) ≤ 64 := by
  cases hp : bsd x i with
  | inr r => exact bsd_len wx h3 hix hp
  | inl z =>
    cases hq : bsd y i with
    | inr r => exact bsd_len wy h3' hiy hq
    | inl z => exact Nat.zero_le _
theorem c_tabs (hN : 170000 ≤ N) (hs : isS sg) (hh : cHp t u w) (hx : cN (cel t) u vx x) (hy : cN (cel t) u vy y) (wx : wfN x) (wy : wfN y) (h3 : kn x ≤ 2) (h3' : kn y ≤ 2) (ct : kn x = 2 ∨ kn y = 2) (huk : unkT x y = false) (hu : u ≤ 162000) (hw : w ≤ 1000) (h58 : kI t 58 1 = 0) : ∃ t' v, cf_227 N X (Int32.ofNat (sgC sg)) vx vy t = some (t', .inl (some (.long v))) ∧ cE t t' u v (ansM 2 ((List.range (rws x y)).map fun i => nR (row2 sg (bsd x i) (bsd y i)))) ∧ kI t' 58 1 = (if bdk sg x y = true then 1 else 0) := by
  have kx := c_kn (N := N) (X := X) hx
  have zx := c_size (N := N) (X := X) hh hx
  have zx : cf_128 N X vx t = some (t, .inl (some (.int (Int32.ofNat (szN x))))) := zx
  have zy := c_size (N := N) (X := X) hh hy
  have zy : cf_128 N X vy t = some (t, .inl (some (.int (Int32.ofNat (szN y))))) := zy
  have ga := c_gathered (N := N) (X := X) hh
  have hR := rws_le wx wy
  have huk' := huk
  unfold unkT at huk'
  rw [Bool.or_eq_false_iff] at huk'
  have hix : ∀ i, i < rws x y → kn x = 2 → i < szN x := fun i hi c => by
    unfold rws at hi
    rw [if_pos c] at hi
    exact hi
  have hiy : ∀ i, i < rws x y → kn y = 2 → i < szN y := fun i hi c => by
    unfold rws at hi
    by_cases d : kn x = 2
    · rw [if_pos d] at hi
      have hb := huk'.1
      rw [c, d] at hb
      have hb : (!(szN x == szN y)) = false := hb
      rw [Bool.not_eq_false'] at hb
      rw [← beq_iff_eq.mp hb]
      exact hi
    · rw [if_neg d, if_pos c] at hi
      exact hi
  have hnu : ∀ i, i < rws x y → unl (bsd x i) (bsd y i) = false := any_le (Nat.le_refl _) huk'.2
  have hsum := rsz_sum (x := x) (y := y) wx wy h3 h3' ct huk
  have hs2 := sum2 (fun i => rsz (bsd x i) (bsd y i))
  have E1 : cf_227 N X (Int32.ofNat (sgC sg)) vx vy t = cf_227_L2 N X N 0 (Int32.ofNat (sgC sg)) vx vy (Int32.ofNat (rws x y)) (Int32.ofNat w) (Int32.ofNat 0) t := by
    generalize sgC sg = sc
    unfold rws
    by_cases c : kn x = 2
    · rw [if_pos c]
      rw [c] at kx
      unfold cf_227 cf_227_0 cf_227_8 cf_227_12 cf_227_18 cf_227_21 cf_227_30
      simp (disch := omega) only [ev_S, ev_C, ↓reduceIte, Nat.reduceEqDiff, Nat.reduceLeDiff, Nat.reduceAdd, Nat.reduceMul, Nat.reduceSub, reduceCtorEq, l32_0, l32_1, l32_2, l32_3, l32_4, l32_5, l32_6, l32_7, l32_8, l32_9, l32_10, l32_11, l32_12, l32_13, l32_14, l32_15, l32_16, l32_17, l32_18, l32_19, l32_20, l32_21, l32_22, l32_23, l32_24, l32_25, l32_26, l32_27, l32_28, l32_29, l32_33, l32_40, l32_41, l32_44, l32_45, l32_59, l32_61, l32_91, l32_93, l32_123, l32_125, kx, zx, ga]
    · rw [if_neg c, if_pos (by omega)]
      generalize kn x = kx' at *
      unfold cf_227 cf_227_0 cf_227_8 cf_227_16 cf_227_18 cf_227_21 cf_227_30
      simp (disch := omega) only [ev_S, ev_C, ↓reduceIte, Nat.reduceEqDiff, Nat.reduceLeDiff, Nat.reduceAdd, Nat.reduceMul, Nat.reduceSub, reduceCtorEq, l32_0, l32_1, l32_2, l32_3, l32_4, l32_5, l32_6, l32_7, l32_8, l32_9, l32_10, l32_11, l32_12, l32_13, l32_14, l32_15, l32_16, l32_17, l32_18, l32_19, l32_20, l32_21, l32_22, l32_23, l32_24, l32_25, l32_26, l32_27, l32_28, l32_29, l32_33, l32_40, l32_41, l32_44, l32_45, l32_59, l32_61, l32_91, l32_93, l32_123, l32_125, kx, c, zy, ga]
  rw [E1]
  refine lp (fun F i (t' : cS) => cf_227_L2 N X F 0 (Int32.ofNat (sgC sg)) vx vy (Int32.ofNat (rws x y)) (Int32.ofNat w) (Int32.ofNat i) t') (rws x y) (fun i t' => cG t t' u (u + ((List.range i).map fun i => 1 + rsz (bsd x i) (bsd y i)).sum) w ((List.range i).map fun i => nR (row2 sg (bsd x i) (bsd y i))) ∧ kI t' 58 1 = (if ((List.range i).any fun i => bad2 sg (bsd x i) (bsd y i)) = true then 1 else 0)) (fun R => ∃ t' v, R = some (t', .inl (some (.long v))) ∧ cE t t' u v (ansM 2 ((List.range (rws x y)).map fun i => nR (row2 sg (bsd x i) (bsd y i)))) ∧ kI t' 58 1 = (if bdk sg x y = true then 1 else 0)) ?_ ?_ (rws x y) 0 N t (Nat.zero_add _) (by omega) ⟨cG.nil hh, h58⟩
  · intro F i t1 hi hP _
    left
    obtain ⟨G, hfl⟩ := hP
    have n1 : ¬ rws x y ≤ i := by omega
    have hl : ((List.range i).map fun i => nR (row2 sg (bsd x i) (bsd y i))).length = i := by rw [List.length_map, List.length_range]
    have hs1 : ∀ i, ((List.range i).map fun i => 1 + rsz (bsd x i) (bsd y i)).sum ≤ ((List.range i).map fun i => 2 + rsz (bsd x i) (bsd y i)).sum := fun i => by
      induction i with
      | zero => exact Nat.le_refl _
      | succ i ih =>
        rw [range_map_s, range_map_s, List.sum_append, List.sum_append]
        show _ + (1 + rsz (bsd x i) (bsd y i) + 0) ≤ _ + (2 + rsz (bsd x i) (bsd y i) + 0)
        omega
    have hsi := hsum i (by omega)
    have hs2i := hs2 i
    have hs1i := hs1 i
    obtain ⟨v1, a1, a2⟩ := c_opn (N := N) (X := X) (i := i) G.c (G.up hx) h3 (hix i hi)
    obtain ⟨v2, b1, b2⟩ := c_opn (N := N) (X := X) (i := i) G.c (G.up hy) h3' (hiy i hi)
    have hpq : (∃ r, bsd x i = .inr r) ∨ ∃ r, bsd y i = .inr r := by
      rcases ct with c | c
      · exact Or.inl (bsd_r (by omega) h3)
      · exact Or.inr (bsd_r (by omega) h3')
    have re := rsz_eq (hnu i hi)
    have hLe := rsz_le (x := x) (y := y) (i := i) wx wy h3 h3' (hix i hi) (hiy i hi)
    obtain ⟨t3, v3, r1, r2, r3, r4⟩ := c_rows (N := N) (X := X) hN hs G.c a2 b2 rfl re.1 re.2 hpq hLe (by rw [hl]; omega) (by omega)
    have G3 := cG.comp G r2
    obtain ⟨t4, p1, p2, p3⟩ := cG.put' (N := N) (X := X) G3 (by rw [hl]; omega) r3
    refine ⟨t4, ⟨?_, ?_⟩, ?_⟩
    · rw [range_map_s, range_map_s, List.sum_append]
      have e : u + (((List.range i).map fun i => 1 + rsz (bsd x i) (bsd y i)).sum + [1 + rsz (bsd x i) (bsd y i)].sum) = u + ((List.range i).map fun i => 1 + rsz (bsd x i) (bsd y i)).sum + 1 + rsz (bsd x i) (bsd y i) := by
        show u + (_ + (1 + _ + 0)) = _
        omega
      rw [e]
      exact p2
    · rw [p3, r4, any_s, hfl]
      cases bad2 sg (bsd x i) (bsd y i)
      · rw [Bool.or_false]
        exact if_neg (by intro h; cases h)
      · rw [Bool.or_true]
        rfl
    · show cf_227_35 N X (cf_227_L2 N X F) (Int32.ofNat (sgC sg)) vx vy (Int32.ofNat (rws x y)) (Int32.ofNat w) (Int32.ofNat i) t1 = _
      generalize sgC sg = sc at *
      unfold cf_227_35 cf_227_42 cf_227_55 cf_227_63 cf_227_66 cf_227_69
      simp (disch := omega) only [ev_S, ev_C, ↓reduceIte, Nat.reduceEqDiff, Nat.reduceLeDiff, Nat.reduceAdd, Nat.reduceMul, Nat.reduceSub, reduceCtorEq, l32_0, l32_1, l32_2, l32_3, l32_4, l32_5, l32_6, l32_7, l32_8, l32_9, l32_10, l32_11, l32_12, l32_13, l32_14, l32_15, l32_16, l32_17, l32_18, l32_19, l32_20, l32_21, l32_22, l32_23, l32_24, l32_25, l32_26, l32_27, l32_28, l32_29, l32_33, l32_40, l32_41, l32_44, l32_45, l32_59, l32_61, l32_91, l32_93, l32_123, l32_125, n1, a1, b1, r1, p1]
  · intro F t1 hP
    obtain ⟨G, hfl⟩ := hP
    have hl : ((List.range (rws x y)).map fun i => nR (row2 sg (bsd x i) (bsd y i))).length = rws x y := by rw [List.length_map, List.length_range]
    have hs1 : ∀ i, ((List.range i).map fun i => 1 + rsz (bsd x i) (bsd y i)).sum ≤ ((List.range i).map fun i => 2 + rsz (bsd x i) (bsd y i)).sum := fun i => by
      induction i with
      | zero => exact Nat.le_refl _
      | succ i ih =>
        rw [range_map_s, range_map_s, List.sum_append, List.sum_append]
        show _ + (1 + rsz (bsd x i) (bsd y i) + 0) ≤ _ + (2 + rsz (bsd x i) (bsd y i) + 0)
        omega
    have hsi := hsum (rws x y) (Nat.le_refl _)
    have hs2i := hs2 (rws x y)
    have hs1i := hs1 (rws x y)
    obtain ⟨t2, v, b1, b2, b3⟩ := cG.build' (N := N) (X := X) (k := 2) hN G (Or.inr (Or.inl ⟨rfl, fun z hz => by obtain ⟨j, -, rfl⟩ := List.mem_map.mp hz; rfl⟩)) (fun z hz => by
      obtain ⟨j, hj, rfl⟩ := List.mem_map.mp hz
      have hj := List.mem_range.mp hj
      refine nR_wf ?_
      rw [row2_len]
      exact rsz_le wx wy h3 h3' (hix j hj) (hiy j hj)) (fun z hz => by obtain ⟨j, -, rfl⟩ := List.mem_map.mp hz; exact Nat.zero_le _) (by rw [hl]; omega) (by omega) (by omega) (by
      have e : grw 2 ((List.range (rws x y)).map fun i => nR (row2 sg (bsd x i) (bsd y i))) = ((List.range (rws x y)).map fun i => 2 + rsz (bsd x i) (bsd y i)).sum := by
        show (((List.range (rws x y)).map fun i => nR (row2 sg (bsd x i) (bsd y i))).map fun x => 2 + szN x).sum = _
        rw [List.map_map]
        congr 2
        funext i
        show 2 + (row2 sg (bsd x i) (bsd y i)).length = _
        rw [row2_len]
      rw [e]
      omega) (by omega)
    refine ⟨t2, v, ?_, b2, b3.trans hfl⟩
    show cf_227_35 N X (cf_227_L2 N X F) (Int32.ofNat (sgC sg)) vx vy (Int32.ofNat (rws x y)) (Int32.ofNat w) (Int32.ofNat (rws x y)) t1 = _
    unfold cf_227_35 cf_227_75 cf_227_85
    simp (disch := omega) only [ev_S, ev_C, ↓reduceIte, Nat.reduceEqDiff, Nat.reduceLeDiff, Nat.reduceAdd, Nat.reduceMul, Nat.reduceSub, reduceCtorEq, l32_0, l32_1, l32_2, l32_3, l32_4, l32_5, l32_6, l32_7, l32_8, l32_9, l32_10, l32_11, l32_12, l32_13, l32_14, l32_15, l32_16, l32_17, l32_18, l32_19, l32_20, l32_21, l32_22, l32_23, l32_24, l32_25, l32_26, l32_27, l32_28, l32_29, l32_33, l32_40, l32_41, l32_44, l32_45, l32_59, l32_61, l32_91, l32_93, l32_123, l32_125, b1]
end TWF
